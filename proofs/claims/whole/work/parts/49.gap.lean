/-! gap -/
theorem sm_b {f : Nat → Nat} {c : Nat} (h : ∀ i, f i ≤ c) : ∀ n : Nat, sm f n ≤ c * n := by
  intro n
  induction n with
  | zero => exact Nat.zero_le _
  | succ n ih =>
    show sm f n + f n ≤ c * (n + 1)
    have := h n
    rw [Nat.mul_add, Nat.mul_one]
    omega
/-- the gaps from i on, the best so far b with the sum s -/
def gpB (S : Nat → Nat) : Nat → Nat → Nat → Nat → Nat × Nat
  | 0, _, b, s => (b, s)
  | k + 1, i, b, s => if s ≤ S i then gpB S k (i + 1) b s else gpB S k (i + 1) i (S i)
section GP
variable {N : Nat → Nat → Nat} {z : Int32} {wt : Nat → Int32} {tx : Nat → Nat → Int32}
/-- the gap g's sum -/
def gsN (N : Nat → Nat → Nat) (tx : Nat → Nat → Int32) (g : Nat) : Nat := sm (gpN N tx g) (N 0 0)
theorem gs_b (hK : OKN N tx) (g : Nat) : gsN N tx g ≤ 9990 := by
  have h10 := hK.n
  have := sm_b (f := gpN N tx g) (c := 999) (fun i => (hmI_n N tx i _).2) (N 0 0)
  unfold gsN
  omega
theorem c_gpL (hK : OKN N tx) {x : Int32} : ∀ (k f i b s : Nat) (σ : St), CV 0 σ N z wt tx → i + k = 51 → k < f → s ≤ 9990 → ∃ σ1, f_X6_gap_L29 f x (nI b) (nI s) (nI i) σ = some (if x = 0 then nI (gpB (gsN N tx) k i b s).1 else nI (gpB (gsN N tx) k i b s).2, σ1) ∧ ∀ q, q ≠ 8 → σ1 q = σ q := by
  intro k
  induction k with
  | zero =>
    intro f i b s σ h1 h2 h3 h4
    obtain ⟨f, rfl⟩ : ∃ f', f = f' + 1 := ⟨f - 1, by omega⟩
    refine ⟨σ, ?_, fun q _ => rfl⟩
    show f_X6_gap_b29 (f_X6_gap_L29 f) _ _ _ _ σ = _
    refine ite_p (nI_lt (a := 50) (by omega) (by omega)) ?_
    by_cases e : x = 0
    · rw [if_pos e, if_pos e]; rfl
    · rw [if_neg e, if_neg e]; rfl
  | succ k ih =>
    intro f i b s σ h1 h2 h3 h4
    obtain ⟨f, rfl⟩ : ∃ f', f = f' + 1 := ⟨f - 1, by omega⟩
    obtain ⟨σ1, g1, g2⟩ := c_gap hK (show i ≤ 50 by omega) h1
    have hb := gs_b hK i
    have hC1 : CV 0 σ1 N z wt tx := h1.fr (fun q hq => g2 _ (by omega))
    have st : ∀ {y}, (if nI s ≤ nI (gsN N tx i) then f_X6_gap_L29 f x (nI b) (nI s) (nI (i + 1)) σ1 else f_X6_gap_L29 f x (nI i) (nI (gsN N tx i)) (nI (i + 1)) σ1) = y → f_X6_gap_L29 (f + 1) x (nI b) (nI s) (nI i) σ = y := by
      intro y hy
      show f_X6_gap_b29 (f_X6_gap_L29 f) _ _ _ _ σ = _
      refine ite_n (nI_nlt (a := 50) (by omega) (by decide)) (ob_i g1 ?_)
      rw [nI_1]
      exact hy
    by_cases q : s ≤ gsN N tx i
    · obtain ⟨σ2, f1, f2⟩ := ih f (i + 1) b s σ1 hC1 (by omega) (by omega) h4
      rw [show gpB (gsN N tx) (k + 1) i b s = gpB (gsN N tx) k (i + 1) b s from if_pos q]
      exact ⟨σ2, st (ite_p (nI_le q (by omega)) f1), fun q hq => by rw [f2 q hq, g2 q hq]⟩
    · obtain ⟨σ2, f1, f2⟩ := ih f (i + 1) i (gsN N tx i) σ1 hC1 (by omega) (by omega) hb
      rw [show gpB (gsN N tx) (k + 1) i b s = gpB (gsN N tx) k (i + 1) i (gsN N tx i) from if_neg q]
      exact ⟨σ2, st (ite_n (nI_ge (by omega) (by omega)) f1), fun q hq => by rw [f2 q hq, g2 q hq]⟩
theorem m_gpL (hK : OKN N tx) {x : Int32} : ∀ (k f i b s : Nat) (σ : St), MV 67 σ N z wt tx → i + k = 51 → k < f → s ≤ 9990 → ∃ σ1, f_X7_gap_L26 f x (nI b) (nI s) (nI i) σ = some (if x = 0 then nI (gpB (gsN N tx) k i b s).1 else nI (gpB (gsN N tx) k i b s).2, σ1) ∧ ∀ q, q ≠ 71 → q ≠ 72 → σ1 q = σ q := by
  intro k
  induction k with
  | zero =>
    intro f i b s σ h1 h2 h3 h4
    obtain ⟨f, rfl⟩ : ∃ f', f = f' + 1 := ⟨f - 1, by omega⟩
    refine ⟨σ, ?_, fun q _ _ => rfl⟩
    show f_X7_gap_b26 (f_X7_gap_L26 f) _ _ _ _ σ = _
    refine ite_p (nI_lt (a := 50) (by omega) (by omega)) ?_
    by_cases e : x = 0
    · rw [if_pos e, if_pos e]; rfl
    · rw [if_neg e, if_neg e]; rfl
  | succ k ih =>
    intro f i b s σ h1 h2 h3 h4
    obtain ⟨f, rfl⟩ : ∃ f', f = f' + 1 := ⟨f - 1, by omega⟩
    obtain ⟨σ1, g1, g2⟩ := m_gap hK (show i ≤ 50 by omega) h1
    have hb := gs_b hK i
    have hM1 : MV 67 σ1 N z wt tx := h1.fr (g2 _ (by decide) (by decide))
    have st : ∀ {y}, (if nI s ≤ nI (gsN N tx i) then f_X7_gap_L26 f x (nI b) (nI s) (nI (i + 1)) σ1 else f_X7_gap_L26 f x (nI i) (nI (gsN N tx i)) (nI (i + 1)) σ1) = y → f_X7_gap_L26 (f + 1) x (nI b) (nI s) (nI i) σ = y := by
      intro y hy
      show f_X7_gap_b26 (f_X7_gap_L26 f) _ _ _ _ σ = _
      refine ite_n (nI_nlt (a := 50) (by omega) (by decide)) (ob_i g1 ?_)
      rw [nI_1]
      by_cases q : nI s ≤ nI (gsN N tx i)
      · rw [if_pos q] at hy
        exact ite_p q (ite_p q hy)
      · rw [if_neg q] at hy
        exact ite_n q (ite_n q hy)
    by_cases q : s ≤ gsN N tx i
    · obtain ⟨σ2, f1, f2⟩ := ih f (i + 1) b s σ1 hM1 (by omega) (by omega) h4
      rw [show gpB (gsN N tx) (k + 1) i b s = gpB (gsN N tx) k (i + 1) b s from if_pos q]
      exact ⟨σ2, st (ite_p (nI_le q (by omega)) f1), fun q hq hq2 => by rw [f2 q hq hq2, g2 q hq hq2]⟩
    · obtain ⟨σ2, f1, f2⟩ := ih f (i + 1) i (gsN N tx i) σ1 hM1 (by omega) (by omega) hb
      rw [show gpB (gsN N tx) (k + 1) i b s = gpB (gsN N tx) k (i + 1) i (gsN N tx i) from if_neg q]
      exact ⟨σ2, st (ite_n (nI_ge (by omega) (by omega)) f1), fun q hq hq2 => by rw [f2 q hq hq2, g2 q hq hq2]⟩
end GP
theorem P_gap {σ : St} (hI : Inv σ) (x0 : Int32) : ∃ (r : Int32) (σ1 σ2 : St), f_X6_gap x0 σ = some (r, σ1) ∧ f_X7_gap x0 σ1 = some (r, σ2) ∧ Inv σ2 := by
  obtain ⟨⟨N, z, wt, tx, hC, hM, hK⟩, -⟩ := id hI
  by_cases hv : isR 0 2 x0
  · obtain ⟨w, -, hw, rfl⟩ := id hv
    obtain ⟨σ1, g1, g2⟩ := c_gap hK (show 1 ≤ 50 by decide) hC
    have hC1 : CV 0 σ1 N z wt tx := hC.fr (fun q hq => g2 _ (by omega))
    obtain ⟨σ2, g3, g4⟩ := c_gpL hK (x := nI w) 49 LF 2 1 (gsN N tx 1) σ1 hC1 rfl (by decide) (gs_b hK 1)
    have hM2 : MV 67 σ2 N z wt tx := hM.fr (by rw [g4 _ (by decide), g2 _ (by decide)])
    obtain ⟨σ3, f1, f2⟩ := m_gap hK (show 1 ≤ 50 by decide) hM2
    have hM3 : MV 67 σ3 N z wt tx := hM2.fr (f2 _ (by decide) (by decide))
    obtain ⟨σ4, f3, f4⟩ := m_gpL hK (x := nI w) 49 LF 2 1 (gsN N tx 1) σ3 hM3 rfl (by decide) (gs_b hK 1)
    exact ⟨_, σ2, σ4, ite_n (nI_nn (by omega)) (ite_p (nI_le (b := 1) (by omega) (by decide)) (ob_i g1 g3)), ob_i (in_t hv (by decide) rfl rfl) (ite_n (by decide) (ob_i f1 f3)), (hI.fr (σ1 := σ2) (scr8 (fun q hq => by rw [g4 q hq, g2 q hq]))).fr (scr7172 (fun q hq hq2 => by rw [f4 q hq hq2, f2 q hq hq2]))⟩
  · refine P_err (FC := f_X6_gap x0) (FM := f_X7_gap x0) (k := 1) hI ?_ (ob_i (in_f hv (by decide) rfl rfl) (ite_p rfl (ob_i (p_error (k := 1) (by decide)) rfl)))
    unfold f_X6_gap
    rw [isR_iff (by decide)] at hv
    by_cases h0 : x0 < 0
    · exact ite_p h0 (ob_i (p_failing (k := 1) (by decide)) rfl)
    · refine ite_n h0 (ite_n ?_ (ob_i (p_failing (k := 1) (by decide)) rfl))
      rw [f_lt, show (0 : Int32).toInt = 0 from rfl] at h0
      rw [f_le, show (1 : Int32).toInt = 1 from rfl]
      omega
