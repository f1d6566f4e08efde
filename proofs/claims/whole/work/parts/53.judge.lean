/-! judge -/
/-- the first number from i on, of k, that isn't as it should be -/
def jdN (f g : Nat → Int32) : Nat → Nat → Nat
  | 0, i => i
  | k + 1, i => if f i = g i then jdN f g k (i + 1) else i
theorem c_num {σ : St} {s c i : Nat} (hs : s < 4) (hc : c ≤ 24) (h : σ 64 s = nI c) (hi : i < c) : f_X2_number (nI s) (nI i) σ = some (σ (59 + s) i, σ) := by
  refine ob_i (c_holds_t hs hc h ⟨i, 1, by omega, rfl, rfl⟩) (ite_n (by decide) (ite_p (inb_i hs (by decide)) (ite_p (inb_i (by omega) (by decide)) ?_)))
  rw [nI_clamp (by omega), nI_clamp (by omega)]
section JD
variable {N : Nat → Nat → Nat} {z : Int32} {wt : Nat → Int32} {tx : Nat → Nat → Int32}
theorem c_jdL (hK : OKN N tx) {s c m : Nat} {f : Nat → Int32} (hs : s < 4) (hc : c ≤ 24) (hm : m ≤ N 0 0 ∧ m ≤ c) : ∀ (k F i : Nat) (σ : St), CV 0 σ N z wt tx → σ 64 s = nI c → (∀ j, j < 24 → σ (59 + s) j = f j) → i + k = m → k < F → ∃ σ1, f_X6_judge_L54 F (nI s) (nI m) (nI (yaN N tx i)) (nI i) σ = some (nI (jdN f (fun j => nI (yaN N tx j)) k i), σ1) ∧ ∀ q, q ≠ 8 → σ1 q = σ q := by
  have h10 := hK.n
  intro k
  induction k with
  | zero =>
    intro F i σ h1 h2 h3 h4 h5
    obtain ⟨F, rfl⟩ : ∃ F', F = F' + 1 := ⟨F - 1, by omega⟩
    refine ⟨σ, ?_, fun q _ => rfl⟩
    show f_X6_judge_b54 (f_X6_judge_L54 F) _ _ _ _ σ = _
    rw [show m = i by omega]
    exact ite_p (nI_le (by omega) (by omega)) rfl
  | succ k ih =>
    intro F i σ h1 h2 h3 h4 h5
    obtain ⟨F, rfl⟩ : ∃ F', F = F' + 1 := ⟨F - 1, by omega⟩
    have hn := c_num hs hc h2 (show i < c by omega)
    rw [h3 i (by omega)] at hn
    have base : ∀ {y : Rs}, (if f i = nI (yaN N tx i) then ob (f_X3_yardsAt (nI i) σ) fun r2 σ2 => f_X6_judge_L54 F (nI s) (nI m) (nI (yaN N tx i) + r2) (nI i + 1) σ2 else some (nI i, σ)) = y → f_X6_judge_L54 (F + 1) (nI s) (nI m) (nI (yaN N tx i)) (nI i) σ = y := by
      intro y hy
      show f_X6_judge_b54 (f_X6_judge_L54 F) _ _ _ _ σ = _
      exact ite_n (nI_ge (by omega) (by omega)) (ob_i hn hy)
    by_cases q : f i = nI (yaN N tx i)
    · obtain ⟨σ1, g1, g2⟩ := c_yards h1 hK (show i < N 0 0 by omega)
      obtain ⟨σ2, f1, f2⟩ := ih F (i + 1) σ1 (h1.fr (fun q hq => g2 _ (by omega))) (by rw [g2 _ (by decide)]; exact h2) (fun j hj => by rw [g2 _ (by omega)]; exact h3 j hj) (by omega) (by omega)
      refine ⟨σ2, base (ite_p q (ob_i g1 ?_)), fun q hq => by rw [f2 q hq, g2 q hq]⟩
      rw [nI_add, nI_1, show jdN f (fun j => nI (yaN N tx j)) (k + 1) i = jdN f (fun j => nI (yaN N tx j)) k (i + 1) from if_pos q]
      exact f1
    · refine ⟨σ, base (ite_n q ?_), fun q _ => rfl⟩
      rw [show jdN f (fun j => nI (yaN N tx j)) (k + 1) i = i from if_neg q]
theorem m_jdL (hK : OKN N tx) {s c m : Nat} {f : Nat → Int32} (hs : s < 4) (hc : c ≤ 24) (hm : (m = N 0 0 ∧ N 0 0 ≤ c) ∨ (m = c ∧ c ≤ N 0 0)) : ∀ (k F i : Nat) (σ : St), MV 67 σ N z wt tx → σ 77 s = nI c → (∀ j, j < 24 → σ 78 (24 * s + j) = f j) → i + k = m → k < F → ∃ σ1, f_X7_judge_L18 F (nI s) (nI i) σ = some (nI (jdN f (fun j => nI (yaN N tx j)) k i), σ1) ∧ ∀ q, q ≠ 71 → q ≠ 72 → σ1 q = σ q := by
  have h10 := hK.n
  intro k
  induction k with
  | zero =>
    intro F i σ h1 h2 h3 h4 h5
    obtain ⟨F, rfl⟩ : ∃ F', F = F' + 1 := ⟨F - 1, by omega⟩
    refine ⟨σ, ?_, fun q _ _ => rfl⟩
    show f_X7_judge_b18 (f_X7_judge_L18 F) _ _ σ = _
    refine ite_p (inb_i hs (by decide)) ?_
    rw [nI_clamp (by omega), h2]
    by_cases q : c ≤ i
    · exact ite_p (nI_le q (by omega)) rfl
    · refine ite_n (nI_ge (by omega) (by omega)) (ob_i (m_isHouse_f h1.n h10 (by rw [isR_iff (by omega), nI_toInt (by omega)]; omega)) (ite_p rfl rfl))
  | succ k ih =>
    intro F i σ h1 h2 h3 h4 h5
    obtain ⟨F, rfl⟩ : ∃ F', F = F' + 1 := ⟨F - 1, by omega⟩
    obtain ⟨σ1, g1, g2⟩ := m_ya hK (show i ≤ N 0 0 by omega) h1
    have c78 : σ1 78 (nI (24 * s + i)).toNatClampNeg = f i := by rw [nI_clamp (by omega), g2 _ (by decide) (by decide)]; exact h3 i (by omega)
    have base : ∀ {y : Rs}, (if nI (yaN N tx i) = f i then f_X7_judge_L18 F (nI s) (nI i + 1) σ1 else some (nI i, σ1)) = y → f_X7_judge_L18 (F + 1) (nI s) (nI i) σ = y := by
      intro y hy
      show f_X7_judge_b18 (f_X7_judge_L18 F) _ _ σ = _
      refine ite_p (inb_i hs (by decide)) ?_
      rw [nI_clamp (by omega), h2]
      refine ite_n (nI_ge (by omega) (by omega)) (ob_i (m_isHouse_t h1.n h10 (isR_n (by omega))) (ite_n (by decide) (ob_i g1 ?_)))
      rw [ix24, c78]
      exact ite_p (inb_i (by omega) (by decide)) hy
    by_cases q : f i = nI (yaN N tx i)
    · obtain ⟨σ2, f1, f2⟩ := ih F (i + 1) σ1 (h1.fr (g2 _ (by decide) (by decide))) (by rw [g2 _ (by decide) (by decide)]; exact h2) (fun j hj => by rw [g2 _ (by decide) (by decide)]; exact h3 j hj) (by omega) (by omega)
      refine ⟨σ2, base (ite_p q.symm ?_), fun q hq hq2 => by rw [f2 q hq hq2, g2 q hq hq2]⟩
      rw [nI_1, show jdN f (fun j => nI (yaN N tx j)) (k + 1) i = jdN f (fun j => nI (yaN N tx j)) k (i + 1) from if_pos q]
      exact f1
    · refine ⟨σ1, base (ite_n (fun q2 => q q2.symm) ?_), g2⟩
      rw [show jdN f (fun j => nI (yaN N tx j)) (k + 1) i = i from if_neg q]
end JD
theorem P_judge {σ : St} (hI : Inv σ) (x0 : Int32) : ∃ (r : Int32) (σ1 σ2 : St), f_X6_judge x0 σ = some (r, σ1) ∧ f_X7_judge x0 σ1 = some (r, σ2) ∧ Inv σ2 := by
  obtain ⟨⟨N, z, wt, tx, hC, hM, hK⟩, -, -, ⟨w, c, hS⟩, -⟩ := id hI
  have h10 := hK.n
  by_cases hv : isR 0 4 x0
  · obtain ⟨s, -, hs, rfl⟩ := id hv
    obtain ⟨a1, a2, a3, a4, a5, a6, a7⟩ := hS s hs
    have ms := c_miss hs (by omega) a3
    by_cases h0 : w s = 0
    · rw [if_pos h0] at ms
      refine P_err (FC := f_X6_judge (nI s)) (FM := f_X7_judge (nI s)) (k := 2) hI ?_ ?_
      · exact ob_i (isSheet_t hv) (ite_n (by decide) (ob_i ms (ite_n (by decide) (ob_i (p_failing (k := 2) (by decide)) rfl))))
      · have := m_lacks (σ := eC 2 σ) hs (show w s ≤ 32 by omega) (by rw [eC_c (by decide)]; exact a4)
        rw [if_pos h0] at this
        exact ob_i this (ite_n (by decide) (ob_i (p_error (k := 2) (by decide)) rfl))
    · rw [if_neg h0] at ms
      obtain ⟨m, hm, hmin⟩ : ∃ m : Nat, ((m = N 0 0 ∧ N 0 0 ≤ c s) ∨ (m = c s ∧ c s ≤ N 0 0)) ∧ imin (nI (c s)) (nI (N 0 0)) = nI m := by
        unfold imin
        by_cases q : N 0 0 < c s
        · exact ⟨N 0 0, Or.inl ⟨rfl, by omega⟩, if_pos (nI_lt q (by omega))⟩
        · exact ⟨c s, Or.inr ⟨rfl, by omega⟩, if_neg (nI_nlt (by omega) (by omega))⟩
      obtain ⟨σ1, g1, g2⟩ := c_jdL (f := fun j => σ (59 + s) j) hK hs a2 (m := m) (by omega) m LF 0 σ hC a5 (fun j _ => rfl) (by omega) (by unfold LF; omega)
      obtain ⟨σ2, f1, f2⟩ := m_jdL (f := fun j => σ (59 + s) j) hK hs a2 hm m LF 0 σ1 (hM.fr (g2 _ (by decide))) (by rw [g2 _ (by decide)]; exact a6) (fun j hj => by rw [g2 _ (by decide)]; exact (a7 j hj).symm) (by omega) (by unfold LF; omega)
      refine ⟨nI (jdN (fun j => σ (59 + s) j) (fun j => nI (yaN N tx j)) m 0), σ1, σ2, ?_, ?_, (hI.fr (scr8 g2)).fr (scr7172 f2)⟩
      · refine ob_i (isSheet_t hv) (ite_n (by decide) (ob_i ms (ite_p rfl (ob_i (c_size hs a5) ?_))))
        rw [hC.n, hmin]
        exact g1
      · have := m_lacks (σ := σ1) hs (show w s ≤ 32 by omega) (by rw [g2 _ (by decide)]; exact a4)
        rw [if_neg h0] at this
        exact ob_i this (ite_p rfl f1)
  · refine P_err (FC := f_X6_judge x0) (FM := f_X7_judge x0) (k := 1) hI (ob_i (isSheet_f hv) (ite_p rfl (ob_i (p_failing (k := 1) (by decide)) rfl))) ?_
    exact ob_i (r := 1) (σ := eC 1 σ) (ob_i (isSheetM_f hv) (ite_p rfl rfl)) (ite_n (by decide) (ob_i (p_error (k := 1) (by decide)) rfl))
/-! fits -/
/-- whether the numbers f are the harms g, k of them from i on -/
def ftB (f g : Nat → Int32) : Nat → Nat → Bool
  | 0, _ => true
  | k + 1, i => if f i = g i then ftB f g k (i + 1) else false
def b01 (b : Bool) : Int32 := if b then 1 else 0
section FT
variable {N : Nat → Nat → Nat} {z : Int32} {wt : Nat → Int32} {tx : Nat → Nat → Int32}
/-- the harm of the gap g at place p -/
def hpI (N : Nat → Nat → Nat) (tx : Nat → Nat → Int32) (g p : Nat) : Int32 := hmI N tx (N 5 p) (g * (p + 1))
theorem c_ftL (hK : OKN N tx) {g s c : Nat} {f : Nat → Int32} (hg : g ≤ 50) (hs : s < 4) (hc : c ≤ 24) (hm : c ≤ N 0 0) : ∀ (k F i : Nat) (σ : St), CV 0 σ N z wt tx → σ 64 s = nI c → (∀ j, j < 24 → σ (59 + s) j = f j) → i + k = c → k < F → ∃ σ1, f_X6_tellsHarmOfGap_L25 F (nI s) (nI g) (nI c) (nI i) σ = some (b01 (ftB f (hpI N tx g) k i), σ1) ∧ ∀ q, q ≠ 8 → σ1 q = σ q := by
  have h10 := hK.n
  intro k
  induction k with
  | zero =>
    intro F i σ h1 h2 h3 h4 h5
    obtain ⟨F, rfl⟩ : ∃ F', F = F' + 1 := ⟨F - 1, by omega⟩
    refine ⟨σ, ?_, fun q _ => rfl⟩
    show f_X6_tellsHarmOfGap_b25 (f_X6_tellsHarmOfGap_L25 F) _ _ _ _ σ = _
    exact ite_p (nI_le (by omega) (by omega)) rfl
  | succ k ih =>
    intro F i σ h1 h2 h3 h4 h5
    obtain ⟨F, rfl⟩ : ∃ F', F = F' + 1 := ⟨F - 1, by omega⟩
    have h5 := (hK.h (j := i) (by omega)).2.2.2.2.2.1
    have hb : g * (i + 1) ≤ 500 := Nat.le_trans (Nat.mul_le_mul hg (show i + 1 ≤ 10 by omega)) (by decide)
    obtain ⟨σ1, g1, g2⟩ := c_harm h1 hK h5 (show g * (i + 1) ≤ 999 by omega)
    have hn := c_num (σ := σ1) hs hc (by rw [g2 _ (by decide)]; exact h2) (show i < c by omega)
    rw [g2 _ (by omega), h3 i (by omega)] at hn
    have base : ∀ {y : Rs}, (if f i = hpI N tx g i then f_X6_tellsHarmOfGap_L25 F (nI s) (nI g) (nI c) (nI i + 1) σ1 else some (0, σ1)) = y → f_X6_tellsHarmOfGap_L25 (F + 1) (nI s) (nI g) (nI c) (nI i) σ = y := by
      intro y hy
      show f_X6_tellsHarmOfGap_b25 (f_X6_tellsHarmOfGap_L25 F) _ _ _ _ σ = _
      refine ite_n (nI_ge (by omega) (by omega)) (ob_i (c_houseAt h1.n h10 (by omega)) ?_)
      rw [h1.rw (by omega)]
      refine ob_i (r := hpI N tx g i) (σ := σ1) ?_ (ob_i hn hy)
      rw [nI_1, pk_mul]
      exact g1
    by_cases q : f i = hpI N tx g i
    · obtain ⟨σ2, f1, f2⟩ := ih F (i + 1) σ1 (h1.fr (fun q hq => g2 _ (by omega))) (by rw [g2 _ (by decide)]; exact h2) (fun j hj => by rw [g2 _ (by omega)]; exact h3 j hj) (by omega) (by omega)
      refine ⟨σ2, base (ite_p q ?_), fun q hq => by rw [f2 q hq, g2 q hq]⟩
      rw [nI_1, show ftB f (hpI N tx g) (k + 1) i = ftB f (hpI N tx g) k (i + 1) from if_pos q]
      exact f1
    · refine ⟨σ1, base (ite_n q ?_), g2⟩
      rw [show ftB f (hpI N tx g) (k + 1) i = false from if_neg q]
      rfl
theorem m_ftL (hK : OKN N tx) {g s c : Nat} {f : Nat → Int32} (hg : g ≤ 50) (hs : s < 4) (hc : c ≤ 24) (hm : c ≤ N 0 0) : ∀ (k F i : Nat) (σ : St), MV 67 σ N z wt tx → σ 77 s = nI c → (∀ j, j < 24 → σ 78 (24 * s + j) = f j) → i + k = c → k < F → ∃ σ1, f_X7_harmsSo_L24 F (nI s) (nI g) 1 (nI i) σ = some (b01 (ftB f (hpI N tx g) k i), σ1) ∧ ∀ q, q ≠ 71 → q ≠ 72 → σ1 q = σ q := by
  have h10 := hK.n
  have i77 : ∀ i, (nI s).toNatClampNeg = i → i = s := fun i h => by rw [nI_clamp (by omega)] at h; exact h.symm
  intro k
  induction k with
  | zero =>
    intro F i σ h1 h2 h3 h4 h5
    obtain ⟨F, rfl⟩ : ∃ F', F = F' + 1 := ⟨F - 1, by omega⟩
    refine ⟨σ, ?_, fun q _ _ => rfl⟩
    show f_X7_harmsSo_b24 (f_X7_harmsSo_L24 F) _ _ _ _ σ = _
    refine ite_p (inb_i hs (by decide)) ?_
    rw [nI_clamp (by omega), h2]
    exact ite_p (nI_le (by omega) (by omega)) (ite_p (Or.inr rfl) rfl)
  | succ k ih =>
    intro F i σ h1 h2 h3 h4 h5
    obtain ⟨F, rfl⟩ : ∃ F', F = F' + 1 := ⟨F - 1, by omega⟩
    have h5 := (hK.h (j := i) (by omega)).2.2.2.2.2.1
    have hb : g * (i + 1) ≤ 500 := Nat.le_trans (Nat.mul_le_mul hg (show i + 1 ≤ 10 by omega)) (by decide)
    obtain ⟨σ1, g1, g2⟩ := m_harm h1 hK h5 (show g * (i + 1) ≤ 999 by omega)
    have c78 : σ1 78 (nI (24 * s + i)).toNatClampNeg = f i := by rw [nI_clamp (by omega), g2 _ (by decide) (by decide)]; exact h3 i (by omega)
    have base : ∀ {y : Rs}, (if hpI N tx g i = f i then f_X7_harmsSo_L24 F (nI s) (nI g) 1 (nI i + 1) σ1 else f_X7_harmsSo_L24 F (nI s) (nI g) 0 (nI i + 1) σ1) = y → f_X7_harmsSo_L24 (F + 1) (nI s) (nI g) 1 (nI i) σ = y := by
      intro y hy
      show f_X7_harmsSo_b24 (f_X7_harmsSo_L24 F) _ _ _ _ σ = _
      refine ite_p (inb_i hs (by decide)) ?_
      rw [nI_clamp (by omega), h2]
      refine ite_n (nI_ge (by omega) (by omega)) (ite_n (by decide) (ob_i (m_at h1 hK (show i < N 0 0 by omega)) (ob_i (r := hpI N tx g i) (σ := σ1) ?_ ?_)))
      · rw [nI_1, pk_mul]
        exact g1
      · rw [ix24, c78]
        exact ite_p (inb_i (by omega) (by decide)) hy
    by_cases q : f i = hpI N tx g i
    · obtain ⟨σ2, f1, f2⟩ := ih F (i + 1) σ1 (h1.fr (g2 _ (by decide) (by decide))) (by rw [g2 _ (by decide) (by decide)]; exact h2) (fun j hj => by rw [g2 _ (by decide) (by decide)]; exact h3 j hj) (by omega) (by omega)
      refine ⟨σ2, base (ite_p q.symm ?_), fun q hq hq2 => by rw [f2 q hq hq2, g2 q hq hq2]⟩
      rw [nI_1, show ftB f (hpI N tx g) (k + 1) i = ftB f (hpI N tx g) k (i + 1) from if_pos q]
      exact f1
    · refine ⟨σ1, base (ite_n (fun q2 => q q2.symm) ?_), g2⟩
      rw [show ftB f (hpI N tx g) (k + 1) i = false from if_neg q]
      obtain ⟨F, rfl⟩ : ∃ F', F = F' + 1 := ⟨F - 1, by omega⟩
      show f_X7_harmsSo_b24 (f_X7_harmsSo_L24 F) _ _ _ _ σ1 = _
      refine ite_p (inb_i hs (by decide)) ?_
      rw [nI_clamp (by omega), g2 _ (by decide) (by decide), h2, nI_1]
      by_cases q3 : c ≤ i + 1
      · exact ite_p (nI_le q3 (by omega)) (ite_p (Or.inl rfl) rfl)
      · exact ite_n (nI_ge (by omega) (by omega)) (ite_p rfl (ite_p (Or.inl rfl) rfl))
/-- whether the sheet's numbers are the harms of the gap g -/
def ftG (N : Nat → Nat → Nat) (tx : Nat → Nat → Int32) (f : Nat → Int32) (c g : Nat) : Bool := if c ≤ N 0 0 then ftB f (hpI N tx g) c 0 else false
theorem c_ft (hK : OKN N tx) {g s c : Nat} {f : Nat → Int32} (hg : g ≤ 50) (hs : s < 4) (hc : c ≤ 24) {σ : St} (h1 : CV 0 σ N z wt tx) (h2 : σ 64 s = nI c) (h3 : ∀ j, j < 24 → σ (59 + s) j = f j) : ∃ σ1, f_X6_tellsHarmOfGap (nI s) (nI g) σ = some (b01 (ftG N tx f c g), σ1) ∧ ∀ q, q ≠ 8 → σ1 q = σ q := by
  have h10 := hK.n
  unfold ftG
  by_cases q : c ≤ N 0 0
  · rw [if_pos q]
    obtain ⟨σ1, g1, g2⟩ := c_ftL hK hg hs hc q c LF 0 σ h1 h2 h3 (by omega) (by unfold LF; omega)
    refine ⟨σ1, ob_i (c_size hs h2) (ite_p ?_ g1), g2⟩
    rw [h1.n]
    exact nI_le q (by omega)
  · rw [if_neg q]
    refine ⟨σ, ob_i (c_size hs h2) (ite_n ?_ rfl), fun q _ => rfl⟩
    rw [h1.n]
    exact nI_ge (by omega) (by omega)
theorem m_ft (hK : OKN N tx) {g s c : Nat} {f : Nat → Int32} (hg : g ≤ 50) (hs : s < 4) (hc : c ≤ 24) {σ : St} (h1 : MV 67 σ N z wt tx) (h2 : σ 77 s = nI c) (h3 : ∀ j, j < 24 → σ 78 (24 * s + j) = f j) : ∃ σ1, f_X7_harmsSo (nI s) (nI g) σ = some (b01 (ftG N tx f c g), σ1) ∧ ∀ q, q ≠ 71 → q ≠ 72 → σ1 q = σ q := by
  have h10 := hK.n
  have c5 : σ 67 (Int32.toNatClampNeg 5) = nI (N 0 0) := h1.n
  have base : ∀ {y : Rs}, (if nI (N 0 0) < nI c then f_X7_harmsSo_L24 LF (nI s) (nI g) 0 0 σ else f_X7_harmsSo_L24 LF (nI s) (nI g) 1 0 σ) = y → f_X7_harmsSo (nI s) (nI g) σ = y := by
    intro y hy
    refine ite_p (inb_i hs (by decide)) (ite_p (inb_l (by decide) (by decide)) ?_)
    rw [nI_clamp (by omega), h2, c5]
    exact hy
  unfold ftG
  by_cases q : c ≤ N 0 0
  · rw [if_pos q]
    obtain ⟨σ1, g1, g2⟩ := m_ftL hK hg hs hc q c LF 0 σ h1 h2 h3 (by omega) (by unfold LF; omega)
    exact ⟨σ1, base (ite_n (nI_nlt (by omega) (by omega)) g1), g2⟩
  · rw [if_neg q]
    refine ⟨σ, base (ite_p (nI_lt (by omega) (by omega)) ?_), fun q _ _ => rfl⟩
    show f_X7_harmsSo_b24 (f_X7_harmsSo_L24 999) _ _ _ _ σ = _
    refine ite_p (inb_i hs (by decide)) ?_
    rw [nI_clamp (by omega), h2]
    exact ite_n (show ¬ nI c ≤ nI 0 from nI_ge (by omega) (by omega)) (ite_p rfl (ite_p (Or.inl rfl) rfl))
end FT
