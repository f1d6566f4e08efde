/-! fits: the gaps counted -/
/-- of the gaps k, .., 1: how many are so, and the least, where a and l say what was found above -/
def ftO (B : Nat → Bool) : Nat → Nat → Nat → Nat × Nat
  | 0, a, l => (a, l)
  | k + 1, a, l => if B (k + 1) then ftO B k (a + 1) (k + 1) else ftO B k a l
theorem ftO_b {B : Nat → Bool} : ∀ k a l : Nat, (ftO B k a l).1 ≤ a + k := by
  intro k
  induction k with
  | zero => intro a l; exact Nat.le_refl _
  | succ k ih =>
    intro a l
    unfold ftO
    by_cases q : B (k + 1)
    · rw [if_pos q]; have := ih (a + 1) (k + 1); omega
    · rw [if_neg q]; have := ih a l; omega
def llI (a l : Nat) : Int32 := if a = 0 then -1 else nI l
theorem eqo_eC {k : Nat} {σ σ1 : St} (h : Eqo scr σ σ1) : Eqo scr (eC k σ) (eC k σ1) := by
  intro q j hq
  show st σ1 65 k (σ1 65 k + 1) q j = st σ 65 k (σ 65 k + 1) q j
  rw [st_e, st_e, h 65 k rfl, h q j hq]
theorem eqo_eM {k : Nat} {σ σ1 : St} (h : Eqo scr σ σ1) : Eqo scr (eM k σ) (eM k σ1) := by
  intro q j hq
  show st σ1 69 k (σ1 69 k + 1) q j = st σ 69 k (σ 69 k + 1) q j
  rw [st_e, st_e, h 69 k rfl, h q j hq]
/-- both sides told the same error, behind work that nobody keeps -/
theorem P_err2 {σ σa σb : St} (hI : Inv σ) {FC FM : St → Rs} {k : Nat} (h1 : Eqo scr σ σa) (h2 : Eqo scr (eC k σa) σb) (hC : FC σ = some ((-1000000000) - nI k, eC k σa)) (hM : FM (eC k σa) = some ((-1000000000) - nI k, eM k σb)) : ∃ (r : Int32) (σ1 σ2 : St), FC σ = some (r, σ1) ∧ FM σ1 = some (r, σ2) ∧ Inv σ2 := ⟨_, _, _, hC, hM, hI.err (eqo_eC h1) (eqo_eM h2)⟩
section FO
variable {N : Nat → Nat → Nat} {z : Int32} {wt : Nat → Int32} {tx : Nat → Nat → Int32}
theorem c_ftO (hK : OKN N tx) {s c : Nat} {f : Nat → Int32} {x : Int32} (hs : s < 4) (hc : c ≤ 24) : ∀ (k F a l : Nat) (σ : St), CV 0 σ N z wt tx → σ 64 s = nI c → (∀ j, j < 24 → σ (59 + s) j = f j) → k ≤ 50 → k < F → ∃ (σ1 : St) (F' : Nat), f_X6_fits_L48 F (nI s) x (nI a) (nI l) (nI k) σ = f_X6_fits_b48 (f_X6_fits_L48 F') (nI s) x (nI (ftO (ftG N tx f c) k a l).1) (nI (ftO (ftG N tx f c) k a l).2) (nI 0) σ1 ∧ ∀ q, q ≠ 8 → σ1 q = σ q := by
  intro k
  induction k with
  | zero =>
    intro F a l σ h1 h2 h3 h4 h5
    obtain ⟨F, rfl⟩ : ∃ F', F = F' + 1 := ⟨F - 1, by omega⟩
    exact ⟨σ, F, rfl, fun q _ => rfl⟩
  | succ k ih =>
    intro F a l σ h1 h2 h3 h4 h5
    obtain ⟨F, rfl⟩ : ∃ F', F = F' + 1 := ⟨F - 1, by omega⟩
    obtain ⟨σ1, g1, g2⟩ := c_ft hK (g := k + 1) (by omega) hs hc h1 h2 h3
    have hC1 : CV 0 σ1 N z wt tx := h1.fr (fun q hq => g2 _ (by omega))
    have base : ∀ {y : Rs}, (if b01 (ftG N tx f c (k + 1)) = 0 then f_X6_fits_L48 F (nI s) x (nI a) (nI l) (nI k) σ1 else f_X6_fits_L48 F (nI s) x (nI (a + 1)) (nI (k + 1)) (nI k) σ1) = y → f_X6_fits_L48 (F + 1) (nI s) x (nI a) (nI l) (nI (k + 1)) σ = y := by
      intro y hy
      show f_X6_fits_b48 (f_X6_fits_L48 F) _ _ _ _ _ σ = _
      refine ite_n (nI_nlt (b := 1) (by omega) (by omega)) (ob_i g1 ?_)
      rw [pk_m1, nI_1]
      exact hy
    cases hB : ftG N tx f c (k + 1) with
    | true =>
      obtain ⟨σ2, F', f1, f2⟩ := ih F (a + 1) (k + 1) σ1 hC1 (by rw [g2 _ (by decide)]; exact h2) (fun j hj => by rw [g2 _ (by omega)]; exact h3 j hj) (by omega) (by omega)
      refine ⟨σ2, F', base (ite_n (by rw [hB]; decide) ?_), fun q hq => by rw [f2 q hq, g2 q hq]⟩
      rw [f1, show ftO (ftG N tx f c) (k + 1) a l = ftO (ftG N tx f c) k (a + 1) (k + 1) from if_pos hB]
    | false =>
      obtain ⟨σ2, F', f1, f2⟩ := ih F a l σ1 hC1 (by rw [g2 _ (by decide)]; exact h2) (fun j hj => by rw [g2 _ (by omega)]; exact h3 j hj) (by omega) (by omega)
      refine ⟨σ2, F', base (ite_p (by rw [hB]; rfl) ?_), fun q hq => by rw [f2 q hq, g2 q hq]⟩
      rw [f1, show ftO (ftG N tx f c) (k + 1) a l = ftO (ftG N tx f c) k a l from if_neg (by rw [hB]; decide)]
theorem m_ftO (hK : OKN N tx) {s c : Nat} {f : Nat → Int32} {x : Int32} (hs : s < 4) (hc : c ≤ 24) : ∀ (k F a l : Nat) (σ : St), MV 67 σ N z wt tx → σ 77 s = nI c → (∀ j, j < 24 → σ 78 (24 * s + j) = f j) → k ≤ 50 → k < F → ∃ (σ1 : St) (F' : Nat), f_X7_fits_L39 F (nI s) x (nI a) (llI a l) (nI k) σ = f_X7_fits_b39 (f_X7_fits_L39 F') (nI s) x (nI (ftO (ftG N tx f c) k a l).1) (llI (ftO (ftG N tx f c) k a l).1 (ftO (ftG N tx f c) k a l).2) (nI 0) σ1 ∧ ∀ q, q ≠ 71 → q ≠ 72 → σ1 q = σ q := by
  intro k
  induction k with
  | zero =>
    intro F a l σ h1 h2 h3 h4 h5
    obtain ⟨F, rfl⟩ : ∃ F', F = F' + 1 := ⟨F - 1, by omega⟩
    exact ⟨σ, F, rfl, fun q _ _ => rfl⟩
  | succ k ih =>
    intro F a l σ h1 h2 h3 h4 h5
    obtain ⟨F, rfl⟩ : ∃ F', F = F' + 1 := ⟨F - 1, by omega⟩
    obtain ⟨σ1, g1, g2⟩ := m_ft hK (g := k + 1) (by omega) hs hc h1 h2 h3
    have hM1 : MV 67 σ1 N z wt tx := h1.fr (g2 _ (by decide) (by decide))
    have base : ∀ {y : Rs}, (if b01 (ftG N tx f c (k + 1)) = 0 then f_X7_fits_L39 F (nI s) x (nI a) (llI a l) (nI k) σ1 else f_X7_fits_L39 F (nI s) x (nI (a + 1)) (nI (k + 1)) (nI k) σ1) = y → f_X7_fits_L39 (F + 1) (nI s) x (nI a) (llI a l) (nI (k + 1)) σ = y := by
      intro y hy
      show f_X7_fits_b39 (f_X7_fits_L39 F) _ _ _ _ _ σ = _
      refine ite_n (nI_nle (by omega) (by omega)) (ob_i g1 ?_)
      rw [pk_m1, nI_1, show (nI a + 0 : Int32) = nI a from nI_add a 0]
      by_cases q : b01 (ftG N tx f c (k + 1)) = 0
      · rw [if_pos q] at hy
        exact ite_p q (ite_p q hy)
      · rw [if_neg q] at hy
        exact ite_n q (ite_n q hy)
    cases hB : ftG N tx f c (k + 1) with
    | true =>
      obtain ⟨σ2, F', f1, f2⟩ := ih F (a + 1) (k + 1) σ1 hM1 (by rw [g2 _ (by decide) (by decide)]; exact h2) (fun j hj => by rw [g2 _ (by decide) (by decide)]; exact h3 j hj) (by omega) (by omega)
      refine ⟨σ2, F', base (ite_n (by rw [hB]; decide) ?_), fun q hq hq2 => by rw [f2 q hq hq2, g2 q hq hq2]⟩
      rw [show llI (a + 1) (k + 1) = nI (k + 1) from if_neg (by omega)] at f1
      rw [f1, show ftO (ftG N tx f c) (k + 1) a l = ftO (ftG N tx f c) k (a + 1) (k + 1) from if_pos hB]
    | false =>
      obtain ⟨σ2, F', f1, f2⟩ := ih F a l σ1 hM1 (by rw [g2 _ (by decide) (by decide)]; exact h2) (fun j hj => by rw [g2 _ (by decide) (by decide)]; exact h3 j hj) (by omega) (by omega)
      refine ⟨σ2, F', base (ite_p (by rw [hB]; rfl) ?_), fun q hq hq2 => by rw [f2 q hq hq2, g2 q hq hq2]⟩
      rw [f1, show ftO (ftG N tx f c) (k + 1) a l = ftO (ftG N tx f c) k a l from if_neg (by rw [hB]; decide)]
/-- the least is a gap, if there is one -/
theorem ftO_l {B : Nat → Bool} : ∀ k a l : Nat, (0 < a → 1 ≤ l ∧ l ≤ 50) → k ≤ 50 → 0 < (ftO B k a l).1 → 1 ≤ (ftO B k a l).2 ∧ (ftO B k a l).2 ≤ 50 := by
  intro k
  induction k with
  | zero => intro a l h1 h2 h3; exact h1 h3
  | succ k ih =>
    intro a l h1 h2
    unfold ftO
    by_cases q : B (k + 1)
    · rw [if_pos q]; exact ih (a + 1) (k + 1) (fun _ => by omega) (by omega)
    · rw [if_neg q]; exact ih a l h1 (by omega)
end FO
theorem P_fits {σ : St} (hI : Inv σ) (x0 : Int32) (x1 : Int32) : ∃ (r : Int32) (σ1 σ2 : St), f_X6_fits x0 x1 σ = some (r, σ1) ∧ f_X7_fits x0 x1 σ1 = some (r, σ2) ∧ Inv σ2 := by
  obtain ⟨⟨N, z, wt, tx, hC, hM, hK⟩, -, -, ⟨w, c, hS⟩, -⟩ := id hI
  have h10 := hK.n
  have cb : ∀ s, f_X6_fits_b16 s = some ((-1000000000) - nI 1, eC 1 s) := fun s => ob_i (p_failing (k := 1) (by decide)) rfl
  by_cases hv : isR 0 4 x0
  · obtain ⟨s, -, hs, rfl⟩ := id hv
    obtain ⟨a1, a2, a3, a4, a5, a6, a7⟩ := hS s hs
    have ms := c_miss hs (by omega) a3
    by_cases hw : isR 0 2 x1
    · obtain ⟨v, -, hv2, rfl⟩ := id hw
      by_cases h0 : w s = 0
      · rw [if_pos h0] at ms
        refine P_err (FC := f_X6_fits (nI s) (nI v)) (FM := f_X7_fits (nI s) (nI v)) (k := 2) hI ?_ ?_
        · exact ob_i (isSheet_t hv) (ite_n (by decide) (ite_n (nI_nn (by omega)) (ite_p (nI_le (b := 1) (by omega) (by decide)) (ob_i ms (ite_n (by decide) (ob_i (p_failing (k := 2) (by decide)) rfl))))))
        · have := m_lacks (σ := eC 2 σ) hs (show w s ≤ 32 by omega) (by rw [eC_c (by decide)]; exact a4)
          rw [if_pos h0] at this
          exact ob_i (in_t hw (by decide) rfl rfl) (ite_n (by decide) (ob_i this (ite_n (by decide) (ob_i (p_error (k := 2) (by decide)) rfl))))
      · rw [if_neg h0] at ms
        obtain ⟨σ1, F1, g1, g2⟩ := c_ftO (x := nI v) (f := fun j => σ (59 + s) j) hK hs a2 50 LF 0 0 σ hC a5 (fun j _ => rfl) (by decide) (by decide)
        have hb := ftO_b (B := ftG N tx (fun j => σ (59 + s) j) (c s)) 50 0 0
        have hl := ftO_l (B := ftG N tx (fun j => σ (59 + s) j) (c s)) 50 0 0 (fun h => absurd h (Nat.lt_irrefl 0)) (by decide)
        have cc : ∀ {y : Rs}, f_X6_fits_b48 (f_X6_fits_L48 F1) (nI s) (nI v) (nI (ftO (ftG N tx (fun j => σ (59 + s) j) (c s)) 50 0 0).1) (nI (ftO (ftG N tx (fun j => σ (59 + s) j) (c s)) 50 0 0).2) (nI 0) σ1 = y → f_X6_fits (nI s) (nI v) σ = y := fun hy => ob_i (isSheet_t hv) (ite_n (by decide) (ite_n (nI_nn (by omega)) (ite_p (nI_le (b := 1) (by omega) (by decide)) (ob_i ms (ite_p rfl (g1.trans hy))))))
        have mc : ∀ (s2 : St), (∀ q, q ≠ 8 → q ≠ 65 → s2 q = σ q) → ∃ (σ2 : St) (F2 : Nat), (∀ {y : Rs}, f_X7_fits_b39 (f_X7_fits_L39 F2) (nI s) (nI v) (nI (ftO (ftG N tx (fun j => σ (59 + s) j) (c s)) 50 0 0).1) (llI (ftO (ftG N tx (fun j => σ (59 + s) j) (c s)) 50 0 0).1 (ftO (ftG N tx (fun j => σ (59 + s) j) (c s)) 50 0 0).2) (nI 0) σ2 = y → f_X7_fits (nI s) (nI v) s2 = y) ∧ ∀ q, q ≠ 71 → q ≠ 72 → σ2 q = s2 q := by
          intro s2 e
          obtain ⟨σ2, F2, f1, f2⟩ := m_ftO (x := nI v) (f := fun j => σ (59 + s) j) hK hs a2 50 LF 0 0 s2 (hM.fr (e _ (by decide) (by decide))) (by rw [e _ (by decide) (by decide)]; exact a6) (fun j hj => by rw [e _ (by decide) (by decide)]; exact (a7 j hj).symm) (by decide) (by decide)
          have ml := m_lacks (σ := s2) hs (show w s ≤ 32 by omega) (by rw [e _ (by decide) (by decide)]; exact a4)
          rw [if_neg h0] at ml
          exact ⟨σ2, F2, fun hy => ob_i (in_t hw (by decide) rfl rfl) (ite_n (by decide) (ob_i ml (ite_p rfl (f1.trans hy)))), f2⟩
        revert hb hl cc mc
        generalize (ftO (ftG N tx (fun j => σ (59 + s) j) (c s)) 50 0 0).1 = A
        generalize (ftO (ftG N tx (fun j => σ (59 + s) j) (c s)) 50 0 0).2 = L
        intro hb hl cc mc
        by_cases hA : nI v = 0 ∨ ¬ A = 0
        · obtain ⟨σ2, F2, m1, m2⟩ := mc σ1 (fun q q1 _ => g2 q q1)
          have hI2 : Inv σ2 := (hI.fr (scr8 g2)).fr (scr7172 m2)
          by_cases nv : nI v = 0
          · exact ⟨_, σ1, σ2, cc (ite_p (by decide) (ite_p nv rfl)), m1 (ite_p (by decide) (ite_p nv rfl)), hI2⟩
          · have hA2 : ¬ A = 0 := hA.resolve_left nv
            have := hl (by omega)
            refine ⟨nI L, σ1, σ2, cc (ite_p (by decide) (ite_n nv (ite_n (nI_ne0 (by omega) (by omega)) rfl))), m1 (ite_p (by decide) (ite_n nv ?_)), hI2⟩
            rw [show llI A L = nI L from if_neg hA2]
            exact ite_n (fun q => neg1_ne (n := L) (by omega) q.symm) rfl
        · have nv : ¬ nI v = 0 := fun q => hA (Or.inl q)
          have hA2 : A = 0 := Decidable.not_not.mp (fun q => hA (Or.inr q))
          subst hA2
          obtain ⟨σ2, F2, m1, m2⟩ := mc (eC 2 σ1) (fun q q1 q2 => by rw [eC_c q2, g2 q q1])
          exact P_err2 (FC := f_X6_fits (nI s) (nI v)) (FM := f_X7_fits (nI s) (nI v)) hI (scr8 g2) (scr7172 m2) (cc (ite_p (by decide) (ite_n nv (ite_p rfl (ob_i (p_failing (k := 2) (by decide)) rfl))))) (m1 (ite_p (by decide) (ite_n nv (ite_p rfl (ob_i (p_error (k := 2) (by decide)) rfl)))))
    · refine P_err (FC := f_X6_fits (nI s) x1) (FM := f_X7_fits (nI s) x1) (k := 1) hI (ob_i (isSheet_t hv) (ite_n (by decide) ?_)) (ob_i (in_f hw (by decide) rfl rfl) (ite_p rfl (ite_n (by decide) (ob_i (p_error (k := 1) (by decide)) rfl))))
      by_cases h0 : x1 < 0
      · exact ite_p h0 (cb σ)
      · refine ite_n h0 (ite_n ?_ (cb σ))
        rw [isR_iff (by decide)] at hw
        rw [f_lt, show (0 : Int32).toInt = 0 from rfl] at h0
        rw [f_le, show (1 : Int32).toInt = 1 from rfl]
        omega
  · refine P_err (FC := f_X6_fits x0 x1) (FM := f_X7_fits x0 x1) (k := 1) hI (ob_i (isSheet_f hv) (ite_p rfl (cb σ))) ?_
    by_cases hw : isR 0 2 x1
    · exact ob_i (in_t hw (by decide) rfl rfl) (ite_n (by decide) (ob_i (r := 1) (σ := eC 1 σ) (ob_i (isSheetM_f hv) (ite_p rfl rfl)) (ite_n (by decide) (ob_i (p_error (k := 1) (by decide)) rfl))))
    · exact ob_i (in_f hw (by decide) rfl rfl) (ite_p rfl (ite_n (by decide) (ob_i (p_error (k := 1) (by decide)) rfl)))
