/-! least -/
/-- what it is to end at v: the sum ahead, and the harm of v -/
def lsM (A H : Nat → Nat) (v : Nat) : Nat := if A v < 1000000 then A v + H v else 1000000
/-- the least of it up to v -/
def lsB (A H : Nat → Nat) : Nat → Nat
  | 0 => 1000000
  | v + 1 => if lsM A H (v + 1) < lsB A H v then lsM A H (v + 1) else lsB A H v
/-- and the number where it is -/
def lsL (A H : Nat → Nat) : Nat → Nat
  | 0 => 0
  | v + 1 => if lsM A H (v + 1) < lsB A H v then v + 1 else lsL A H v
/-- the sum ahead of place p, its number being v -/
def lsA (H : Nat → Nat → Nat) : Nat → Nat → Nat
  | 0, _ => 0
  | p + 1, v => lsB (lsA H p) (H p) (v - 1)
theorem lsB_b {A H : Nat → Nat} : ∀ v, lsB A H v ≤ 1000000 := by
  intro v
  induction v with
  | zero => exact Nat.le_refl _
  | succ v ih =>
    unfold lsB
    by_cases q : lsM A H (v + 1) < lsB A H v
    · rw [if_pos q]; omega
    · rw [if_neg q]; exact ih
theorem lsA_b {H : Nat → Nat → Nat} : ∀ p v, lsA H p v ≤ 1000000 := by
  intro p v
  cases p with
  | zero => exact Nat.zero_le _
  | succ p => exact lsB_b _
theorem lsB_m {A H : Nat → Nat} (v : Nat) : lsB A H (v + 1) ≤ lsM A H (v + 1) := by
  show (if lsM A H (v + 1) < lsB A H v then lsM A H (v + 1) else lsB A H v) ≤ _
  by_cases q : lsM A H (v + 1) < lsB A H v
  · rw [if_pos q]; exact Nat.le_refl _
  · rw [if_neg q]; omega
/-- either none can be, or the number is the place of the least -/
theorem lsL_e {A H : Nat → Nat} : ∀ v, (lsL A H v = 0 ∧ lsB A H v = 1000000 ∧ ∀ j, 1 ≤ j → j ≤ v → 1000000 ≤ lsM A H j) ∨ (1 ≤ lsL A H v ∧ lsL A H v ≤ v ∧ lsM A H (lsL A H v) = lsB A H v ∧ lsB A H v < 1000000) := by
  intro v
  induction v with
  | zero => exact Or.inl ⟨rfl, rfl, fun j h1 h2 => by omega⟩
  | succ v ih =>
    by_cases q : lsM A H (v + 1) < lsB A H v
    · have e1 : lsL A H (v + 1) = v + 1 := if_pos q
      have e2 : lsB A H (v + 1) = lsM A H (v + 1) := if_pos q
      have := lsB_b (A := A) (H := H) v
      exact Or.inr (by rw [e1, e2]; exact ⟨by omega, by omega, rfl, by omega⟩)
    · have e1 : lsL A H (v + 1) = lsL A H v := if_neg q
      have e2 : lsB A H (v + 1) = lsB A H v := if_neg q
      rw [e1, e2]
      rcases ih with ⟨i1, i2, i3⟩ | ⟨i1, i2, i3, i4⟩
      · refine Or.inl ⟨i1, i2, fun j h1 h2 => ?_⟩
        by_cases e : j = v + 1
        · rw [e]; omega
        · exact i3 j h1 (by omega)
      · exact Or.inr ⟨i1, by omega, i3, i4⟩
/-- with numbers enough the least can be -/
theorem lsB_f {H : Nat → Nat → Nat} (hH : ∀ p v, H p v ≤ 999) : ∀ p, p < 10 → ∀ v, p + 1 ≤ v → lsB (lsA H p) (H p) v ≤ 999 * (p + 1) := by
  intro p
  induction p with
  | zero =>
    intro _ v hv
    obtain ⟨v, rfl⟩ : ∃ w, v = w + 1 := ⟨v - 1, by omega⟩
    have := lsB_m (A := lsA H 0) (H := H 0) v
    have e : lsM (lsA H 0) (H 0) (v + 1) = 0 + H 0 (v + 1) := if_pos (show (0 : Nat) < 1000000 by decide)
    have := hH 0 (v + 1)
    omega
  | succ p ih =>
    intro hp v hv
    obtain ⟨v, rfl⟩ : ∃ w, v = w + 1 := ⟨v - 1, by omega⟩
    have h1 := ih (by omega) v (by omega)
    have := lsB_m (A := lsA H (p + 1)) (H := H (p + 1)) v
    have ea : lsA H (p + 1) (v + 1) = lsB (lsA H p) (H p) v := rfl
    have e : lsM (lsA H (p + 1)) (H (p + 1)) (v + 1) = lsA H (p + 1) (v + 1) + H (p + 1) (v + 1) := if_pos (by omega)
    have := hH (p + 1) (v + 1)
    omega
/-- the numbers from place p down, that of p at most l -/
def rsD (H : Nat → Nat → Nat) : Nat → Nat → Nat → Nat
  | 0, l => fun _ => lsL (lsA H 0) (H 0) l
  | p + 1, l => fun j => if j = p + 1 then lsL (lsA H (p + 1)) (H (p + 1)) l else rsD H p (lsL (lsA H (p + 1)) (H (p + 1)) l - 1) j
theorem rsD_t {H : Nat → Nat → Nat} (p l : Nat) : rsD H p l p = lsL (lsA H p) (H p) l := by
  cases p with
  | zero => rfl
  | succ p => exact if_pos rfl
/-- the next limit can be kept too -/
theorem ls_next {H : Nat → Nat → Nat} {p l : Nat} (h : lsB (lsA H (p + 1)) (H (p + 1)) l < 1000000) : lsB (lsA H p) (H p) (lsL (lsA H (p + 1)) (H (p + 1)) l - 1) < 1000000 ∧ 1 ≤ lsL (lsA H (p + 1)) (H (p + 1)) l ∧ lsL (lsA H (p + 1)) (H (p + 1)) l ≤ l := by
  rcases lsL_e (A := lsA H (p + 1)) (H := H (p + 1)) l with ⟨i1, i2, i3⟩ | ⟨i1, i2, i3, i4⟩
  · omega
  · refine ⟨?_, i1, i2⟩
    show lsA H (p + 1) (lsL (lsA H (p + 1)) (H (p + 1)) l) < 1000000
    by_cases q : lsA H (p + 1) (lsL (lsA H (p + 1)) (H (p + 1)) l) < 1000000
    · exact q
    · rw [show lsM (lsA H (p + 1)) (H (p + 1)) (lsL (lsA H (p + 1)) (H (p + 1)) l) = 1000000 from if_neg q] at i3
      omega
section LS
variable {N : Nat → Nat → Nat} {z : Int32} {wt : Nat → Int32} {tx : Nat → Nat → Int32}
/-- the harm of number v to who is at place p -/
def hpN (N : Nat → Nat → Nat) (tx : Nat → Nat → Int32) (p v : Nat) : Nat := hmN N tx (N 5 p) v
theorem hpN_b (N : Nat → Nat → Nat) (tx : Nat → Nat → Int32) (p v : Nat) : hpN N tx p v ≤ 999 := (hmI_n N tx (N 5 p) v).2
def lsS (N : Nat → Nat → Nat) (tx : Nat → Nat → Int32) (p v : Nat) : Nat := lsB (lsA (hpN N tx) p) (hpN N tx p) v
def lsR (N : Nat → Nat → Nat) (tx : Nat → Nat → Int32) (p v : Nat) : Nat := lsL (lsA (hpN N tx) p) (hpN N tx p) v
def lsC (N : Nat → Nat → Nat) (tx : Nat → Nat → Int32) (p v : Nat) : Nat := lsM (lsA (hpN N tx) p) (hpN N tx p) v
theorem c_suL (hK : OKN N tx) {p : Nat} (hp : p < N 0 0) : ∀ (k F u : Nat) (σ : St), CV 0 σ N z wt tx → (p ≠ 0 → ∀ j, j < 121 → σ (31 + p) j = nI (lsA (hpN N tx) p (j + 1))) → u + k = 120 → k < F → (∀ j, j ≤ u → σ (32 + p) j = nI (lsS N tx p j) ∧ σ (43 + p) j = nI (lsR N tx p j)) → ∃ σ1, f_X4_sumUpTo_L47 F (nI p) (nI (N 5 p)) (nI (lsS N tx p u)) (nI (lsR N tx p u)) (nI (u + 1)) σ = some (0, σ1) ∧ (∀ j, j < 121 → σ1 (32 + p) j = nI (lsS N tx p j) ∧ σ1 (43 + p) j = nI (lsR N tx p j)) ∧ ∀ q, q ≠ 8 → q ≠ 32 + p → q ≠ 43 + p → σ1 q = σ q := by
  have h10 := hK.n
  have h5 := (hK.h hp).2.2.2.2.2.1
  intro k
  induction k with
  | zero =>
    intro F u σ h1 h2 h3 h4 h5'
    obtain ⟨F, rfl⟩ : ∃ F', F = F' + 1 := ⟨F - 1, by omega⟩
    refine ⟨σ, ?_, fun j hj => h5' j (by omega), fun q _ _ _ => rfl⟩
    show f_X4_sumUpTo_b47 (f_X4_sumUpTo_L47 F) _ _ _ _ _ σ = _
    rw [show u + 1 = 121 by omega]
    exact ite_p (by decide) rfl
  | succ k ih =>
    intro F u σ h1 h2 h3 h4 h5'
    obtain ⟨F, rfl⟩ : ∃ F', F = F' + 1 := ⟨F - 1, by omega⟩
    obtain ⟨σ1, g1, g2⟩ := c_harm h1 hK h5 (show u + 1 ≤ 999 by omega)
    have hb := hpN_b N tx p (u + 1)
    have hA := lsA_b (H := hpN N tx) p (u + 1)
    have hB : lsS N tx p u ≤ 1000000 := lsB_b u
    have e1 : hmI N tx (N 5 p) (u + 1) = nI (hpN N tx p (u + 1)) := (hmI_n N tx (N 5 p) (u + 1)).1
    rw [e1] at g1
    -- what is written, and the way on
    have fin : ∀ (B L : Nat), lsS N tx p (u + 1) = B → lsR N tx p (u + 1) = L → ∃ σ2, f_X4_sumUpTo_b111 (f_X4_sumUpTo_L47 F) (nI p) (nI (N 5 p)) (nI B) (nI L) (nI (u + 1)) σ1 = some (0, σ2) ∧ (∀ j, j < 121 → σ2 (32 + p) j = nI (lsS N tx p j) ∧ σ2 (43 + p) j = nI (lsR N tx p j)) ∧ ∀ q, q ≠ 8 → q ≠ 32 + p → q ≠ 43 + p → σ2 q = σ q := by
      intro B L eB eL
      obtain ⟨σ2, f1, f2, f3⟩ := ih F (u + 1) (st (st σ1 (32 + p) (u + 1) (nI B)) (43 + p) (u + 1) (nI L)) (h1.fr (fun q hq => by rw [st_c (by omega), st_c (by omega), g2 q (by omega)])) (fun h0 j hj => by
        rw [st_c (by omega), st_c (by omega), g2 _ (by omega)]
        exact h2 h0 j hj) (by omega) (by omega) (fun j hj => by
        by_cases e : j = u + 1
        · subst e
          rw [st_c (show 32 + p ≠ 43 + p by omega), st_s, st_s, eB, eL]
          exact ⟨rfl, rfl⟩
        · rw [st_c (show 32 + p ≠ 43 + p by omega), st_k e, st_k e, st_c (show 43 + p ≠ 32 + p by omega), g2 _ (by omega), g2 _ (by omega)]
          exact h5' j (by omega))
      refine ⟨σ2, ?_, f2, fun q q1 q2 q3 => by rw [f3 q q1 q2 q3, st_c q3, st_c q2, g2 q q1]⟩
      rw [eB, eL] at f1
      refine ite_p (inb_i (by omega) (by decide)) (ite_p (inb_i (by omega) (by decide)) (ol_i (ite_p (inb_i (by omega) (by decide)) (ite_p (inb_i (by omega) (by decide)) (ol_i ?_)))))
      rw [nI_clamp (by omega), nI_clamp (by omega), nI_1]
      exact f1
    have cases : ∃ σ2, f_X4_sumUpTo_b75 (f_X4_sumUpTo_L47 F) (nI p) (nI (N 5 p)) (nI (lsS N tx p u)) (nI (lsR N tx p u)) (nI (u + 1)) (nI (lsA (hpN N tx) p (u + 1))) σ = some (0, σ2) ∧ (∀ j, j < 121 → σ2 (32 + p) j = nI (lsS N tx p j) ∧ σ2 (43 + p) j = nI (lsR N tx p j)) ∧ ∀ q, q ≠ 8 → q ≠ 32 + p → q ≠ 43 + p → σ2 q = σ q := by
      by_cases qA : lsA (hpN N tx) p (u + 1) < 1000000
      · have eM : lsM (lsA (hpN N tx) p) (hpN N tx p) (u + 1) = lsA (hpN N tx) p (u + 1) + hpN N tx p (u + 1) := if_pos qA
        by_cases qB : lsM (lsA (hpN N tx) p) (hpN N tx p) (u + 1) < lsS N tx p u
        · obtain ⟨σ2, f1, f2⟩ := fin (lsA (hpN N tx) p (u + 1) + hpN N tx p (u + 1)) (u + 1) ((if_pos qB).trans eM) (if_pos qB)
          refine ⟨σ2, ob_i g1 (ite_n (nI_ge (b := 1000000) qA (by decide)) ?_), f2⟩
          rw [nI_add]
          exact ite_n (nI_ge (by omega) (by omega)) f1
        · obtain ⟨σ2, f1, f2⟩ := fin (lsS N tx p u) (lsR N tx p u) (if_neg qB) (if_neg qB)
          refine ⟨σ2, ob_i g1 (ite_n (nI_ge (b := 1000000) qA (by decide)) ?_), f2⟩
          rw [nI_add]
          exact ite_p (nI_le (by omega) (by omega)) f1
      · have eM : lsM (lsA (hpN N tx) p) (hpN N tx p) (u + 1) = 1000000 := if_neg qA
        have qB : ¬ lsM (lsA (hpN N tx) p) (hpN N tx p) (u + 1) < lsS N tx p u := by omega
        obtain ⟨σ2, f1, f2⟩ := fin (lsS N tx p u) (lsR N tx p u) (if_neg qB) (if_neg qB)
        exact ⟨σ2, ob_i g1 (ite_p (nI_le (a := 1000000) (by omega) (by omega)) f1), f2⟩
    obtain ⟨σ2, f1, f2⟩ := cases
    refine ⟨σ2, ?_, f2⟩
    show f_X4_sumUpTo_b47 (f_X4_sumUpTo_L47 F) _ _ _ _ _ σ = _
    refine ite_n (nI_nlt (a := 120) (b := u + 1) (by omega) (by decide)) ?_
    · by_cases e : p = 0
      · subst e
        exact ite_p (by decide) f1
      · refine ite_n (nI_nle (by omega) (by omega)) ?_
        have em : nI p - 1 = nI (p - 1) := pk_sub (b := 1) (by omega)
        rw [em, nI_pred]
        refine ite_p (inb_i (by omega) (by decide)) (ite_p (inb_i (by omega) (by decide)) ?_)
        rw [nI_clamp (by omega), nI_clamp (by omega), show 32 + (p - 1) = 31 + p by omega, h2 e u (by omega)]
        exact f1
theorem c_su (hK : OKN N tx) {p : Nat} (hp : p < N 0 0) {σ : St} (h1 : CV 0 σ N z wt tx) (h2 : p ≠ 0 → ∀ j, j < 121 → σ (31 + p) j = nI (lsA (hpN N tx) p (j + 1))) : ∃ σ1, f_X4_sumUpTo (nI p) σ = some (0, σ1) ∧ (∀ j, j < 121 → σ1 (32 + p) j = nI (lsS N tx p j) ∧ σ1 (43 + p) j = nI (lsR N tx p j)) ∧ ∀ q, q ≠ 8 → q ≠ 32 + p → q ≠ 43 + p → σ1 q = σ q := by
  have h10 := hK.n
  obtain ⟨σ1, g1, g2, g3⟩ := c_suL hK hp 120 LF 0 (st (st σ (32 + p) 0 1000000) (43 + p) 0 0) (h1.fr (fun q hq => by rw [st_c (by omega), st_c (by omega)])) (fun h0 j hj => by
    rw [st_c (by omega), st_c (by omega)]
    exact h2 h0 j hj) (by omega) (by decide) (fun j hj => by
    obtain rfl : j = 0 := by omega
    rw [st_c (show 32 + p ≠ 43 + p by omega), st_s, st_s]
    exact ⟨rfl, rfl⟩)
  refine ⟨σ1, ?_, g2, fun q q1 q2 q3 => by rw [g3 q q1 q2 q3, st_c q3, st_c q2]⟩
  refine ite_n (nI_nn (by omega)) (ite_p (nI_lt (b := 10) (by omega) (by decide)) (ob_i (c_houseAt h1.n h10 hp) ?_))
  rw [h1.rw hp]
  refine ite_p (inb_i (by omega) (by decide)) (ite_p (inb_l (by decide) (by decide)) (ol_i (ite_p (inb_i (by omega) (by decide)) (ite_p (inb_l (by decide) (by decide)) (ol_i ?_)))))
  rw [nI_clamp (by omega)]
  exact g1
theorem c_lrL (hK : OKN N tx) : ∀ (k F p : Nat) (σ : St), CV 0 σ N z wt tx → p + k = N 0 0 → k < F → (∀ i, i < p → ∀ j, j < 121 → σ (32 + i) j = nI (lsS N tx i j) ∧ σ (43 + i) j = nI (lsR N tx i j)) → ∃ σ1, f_X4_leastRising_L12 F (nI (N 0 0)) (nI p) σ = f_X4_leastRising_L37 LF (nI (N 0 0)) 120 (nI (N 0 0) - 1) σ1 ∧ (∀ i, i < N 0 0 → ∀ j, j < 121 → σ1 (32 + i) j = nI (lsS N tx i j) ∧ σ1 (43 + i) j = nI (lsR N tx i j)) ∧ ∀ q, q ≠ 8 → ¬ (32 ≤ q ∧ q ≤ 52) → σ1 q = σ q := by
  have h10 := hK.n
  intro k
  induction k with
  | zero =>
    intro F p σ h1 h2 h3 h4
    obtain ⟨F, rfl⟩ : ∃ F', F = F' + 1 := ⟨F - 1, by omega⟩
    refine ⟨σ, ?_, fun i hi => h4 i (by omega), fun q _ _ => rfl⟩
    show f_X4_leastRising_b12 (f_X4_leastRising_L12 F) _ _ σ = _
    exact ite_p (nI_le (by omega) (by omega)) rfl
  | succ k ih =>
    intro F p σ h1 h2 h3 h4
    obtain ⟨F, rfl⟩ : ∃ F', F = F' + 1 := ⟨F - 1, by omega⟩
    obtain ⟨σ1, g1, g2, g3⟩ := c_su hK (show p < N 0 0 by omega) h1 (fun h0 j hj => by
      obtain ⟨p', rfl⟩ : ∃ p', p = p' + 1 := ⟨p - 1, by omega⟩
      rw [show 31 + (p' + 1) = 32 + p' by omega]
      exact (h4 p' (by omega) j hj).1)
    obtain ⟨σ2, f1, f2, f3⟩ := ih F (p + 1) σ1 (h1.fr (fun q hq => g3 q (by omega) (by omega) (by omega))) (by omega) (by omega) (fun i hi j hj => by
      by_cases e : i = p
      · subst e; exact g2 j hj
      · rw [g3 _ (by omega) (by omega) (by omega), g3 _ (by omega) (by omega) (by omega)]
        exact h4 i (by omega) j hj)
    refine ⟨σ2, ?_, f2, fun q q1 q2 => by rw [f3 q q1 q2, g3 q q1 (by omega) (by omega)]⟩
    show f_X4_leastRising_b12 (f_X4_leastRising_L12 F) _ _ σ = _
    refine ite_n (nI_ge (by omega) (by omega)) (ob_i g1 ?_)
    rw [nI_1]
    exact f1
theorem c_riL {n : Nat} (hn : 1 ≤ n) (hn2 : n ≤ 10) : ∀ (p F l : Nat) (σ : St), p < n → l ≤ 120 → lsS N tx p l < 1000000 → p + 1 < F → (∀ i, i < n → ∀ j, j < 121 → σ (32 + i) j = nI (lsS N tx i j) ∧ σ (43 + i) j = nI (lsR N tx i j)) → ∃ σ1, f_X4_leastRising_L37 F (nI n) (nI l) (nI p) σ = some (nI (lsS N tx (n - 1) 120), σ1) ∧ (∀ j, j ≤ p → σ1 53 j = nI (rsD (hpN N tx) p l j)) ∧ (∀ j, p < j → σ1 53 j = σ 53 j) ∧ ∀ q, q ≠ 53 → σ1 q = σ q := by
  have key : ∀ {F p l : Nat} {σ : St} {y : Rs}, p < n → l ≤ 120 → 1 ≤ lsR N tx p l → (∀ i, i < n → ∀ j, j < 121 → σ (32 + i) j = nI (lsS N tx i j) ∧ σ (43 + i) j = nI (lsR N tx i j)) → f_X4_leastRising_L37 F (nI n) (nI (lsR N tx p l - 1)) (nI p + (-1)) (st σ 53 p (nI (lsR N tx p l))) = y → f_X4_leastRising_L37 (F + 1) (nI n) (nI l) (nI p) σ = y := by
    intro F p l σ y hp hl hr hrow hy
    show f_X4_leastRising_b37 (f_X4_leastRising_L37 F) _ _ _ σ = _
    refine ite_n (nI_nn (by omega)) (ite_n (nI_nn (by omega)) (ite_p (inb_i (by omega) (by decide)) (ite_p (inb_i (by omega) (by decide)) (ite_p (inb_i (by omega) (by decide)) (ol_i (ite_p (inb_i (by omega) (by decide)) ?_))))))
    rw [nI_clamp (by omega), nI_clamp (by omega), st_s, (hrow p hp l (by omega)).2, show nI (lsR N tx p l) - 1 = nI (lsR N tx p l - 1) from pk_sub (b := 1) hr]
    exact hy
  intro p
  induction p with
  | zero =>
    intro F l σ h1 h2 h3 h4 h5
    obtain ⟨F, rfl⟩ : ∃ F', F = F' + 2 := ⟨F - 2, by omega⟩
    have hr : 1 ≤ lsR N tx 0 l := by
      rcases lsL_e (A := lsA (hpN N tx) 0) (H := hpN N tx 0) l with ⟨i1, i2, i3⟩ | ⟨i1, i2, i3, i4⟩
      · unfold lsS at h3; omega
      · exact i1
    refine ⟨st σ 53 0 (nI (lsR N tx 0 l)), key h1 h2 hr h5 ?_, fun j hj => ?_, fun j hj => st_k (by omega), fun q hq => st_c hq⟩
    · show f_X4_leastRising_b37 (f_X4_leastRising_L37 F) _ _ _ _ = _
      refine ite_p (by decide) (ite_n (nI_nle (by omega) (by omega)) ?_)
      rw [show nI n - 1 = nI (n - 1) from pk_sub (b := 1) hn]
      refine ite_p (inb_i (by omega) (by decide)) (ite_p (inb_l (by decide) (by decide)) ?_)
      rw [nI_clamp (by omega), cl_lit (by decide), st_c (by omega), (h5 (n - 1) (by omega) 120 (by decide)).1]
    · obtain rfl : j = 0 := by omega
      rw [st_s]
      rfl
  | succ p ih =>
    intro F l σ h1 h2 h3 h4 h5
    obtain ⟨F, rfl⟩ : ∃ F', F = F' + 1 := ⟨F - 1, by omega⟩
    obtain ⟨n1, n2, n3⟩ := ls_next (H := hpN N tx) (p := p) (l := l) h3
    obtain ⟨σ1, g1, g2, g3, g4⟩ := ih F (lsR N tx (p + 1) l - 1) (st σ 53 (p + 1) (nI (lsR N tx (p + 1) l))) (by omega) (by unfold lsR; omega) n1 (by omega) (fun i hi j hj => by
      rw [st_c (by omega), st_c (by omega)]
      exact h5 i hi j hj)
    refine ⟨σ1, key h1 h2 n2 h5 ?_, fun j hj => ?_, fun j hj => by rw [g3 j (by omega), st_k (by omega)], fun q hq => by rw [g4 q hq, st_c hq]⟩
    · rw [pk_m1]; exact g1
    · by_cases e : j = p + 1
      · subst e
        rw [g3 _ (by omega), st_s, rsD_t]
        rfl
      · rw [g2 j (by omega), show rsD (hpN N tx) (p + 1) l j = rsD (hpN N tx) p (lsR N tx (p + 1) l - 1) j from if_neg e]
/-- how much LEAST is, the class -/
theorem c_lr (hK : OKN N tx) {σ : St} (h1 : CV 0 σ N z wt tx) : ∃ σ1, f_X4_leastRising σ = some (if N 0 0 = 0 then 0 else nI (lsS N tx (N 0 0 - 1) 120), σ1) ∧ (∀ j, j < N 0 0 → σ1 53 j = nI (rsD (hpN N tx) (N 0 0 - 1) 120 j)) ∧ ∀ q, q ≠ 8 → ¬ (32 ≤ q ∧ q ≤ 53) → σ1 q = σ q := by
  have h10 := hK.n
  obtain ⟨σ1, g1, g2, g3⟩ := c_lrL hK (N 0 0) LF 0 σ h1 (by omega) (by unfold LF; omega) (fun i hi => by omega)
  have e : f_X4_leastRising σ = f_X4_leastRising_L37 LF (nI (N 0 0)) 120 (nI (N 0 0) - 1) σ1 := by
    show f_X4_leastRising_L12 LF (imin (σ 1 1) 10) 0 σ = _
    rw [h1.n, show imin (nI (N 0 0)) 10 = nI (N 0 0) from ?_]
    · exact g1
    · unfold imin
      exact if_neg (nI_nlt (a := 10) h10 (by decide))
  by_cases h0 : N 0 0 = 0
  · refine ⟨σ1, ?_, fun j hj => by omega, fun q q1 q2 => g3 q q1 (by omega)⟩
    rw [e, h0]
    show f_X4_leastRising_b37 (f_X4_leastRising_L37 (LF - 1)) (nI 0) 120 (nI 0 - 1) σ1 = _
    exact ite_p (show nI 0 - 1 < 0 by decide) (ite_p (show nI 0 ≤ 0 by decide) rfl)
  · obtain ⟨σ2, f1, f2, f3, f4⟩ := c_riL (N := N) (tx := tx) (n := N 0 0) (by omega) h10 (N 0 0 - 1) LF 120 σ1 (by omega) (by decide) (by
      have := lsB_f (hpN_b N tx) (N 0 0 - 1) (by omega) 120 (by omega)
      unfold lsS
      omega) (by unfold LF; omega) g2
    refine ⟨σ2, ?_, fun j hj => f2 j (by omega), fun q q1 q2 => by rw [f4 q (by omega), g3 q q1 (by omega)]⟩
    rw [e, if_neg h0, show nI (N 0 0) - 1 = nI (N 0 0 - 1) from pk_sub (b := 1) (by omega)]
    exact f1
theorem ix121 {p v : Nat} : (121 * nI p + nI v : Int32) = nI (121 * p + v) := by
  show nI 121 * nI p + nI v = _
  rw [pk_mul, nI_add]
theorem m_flI (hK : OKN N tx) {k2 : Int32 → St → Rs} {p : Nat} (hp : p < N 0 0) : ∀ (k F u : Nat) (σ : St), MV 67 σ N z wt tx → (p ≠ 0 → ∀ j, 1 ≤ j → j ≤ 120 → σ 73 (121 * (p - 1) + j) = nI (lsC N tx (p - 1) j)) → u + k = 120 → k < F → (∀ j, 1 ≤ j → j ≤ u → σ 73 (121 * p + j) = nI (lsC N tx p j)) → ∃ σ1, f_X7_findLeast_L32 k2 F (nI p) (nI (N 5 p)) (nI (lsA (hpN N tx) p (u + 1))) (nI (u + 1)) σ = k2 (nI (p + 1)) σ1 ∧ (∀ j, 1 ≤ j → j ≤ 120 → σ1 73 (121 * p + j) = nI (lsC N tx p j)) ∧ (∀ j, j < 121 * p → σ1 73 j = σ 73 j) ∧ ∀ q, q ≠ 71 → q ≠ 72 → q ≠ 73 → σ1 q = σ q := by
  have h10 := hK.n
  have h5 := (hK.h hp).2.2.2.2.2.1
  intro k
  induction k with
  | zero =>
    intro F u σ h1 h2 h3 h4 h5'
    obtain ⟨F, rfl⟩ : ∃ F', F = F' + 1 := ⟨F - 1, by omega⟩
    refine ⟨σ, ?_, fun j j1 j2 => h5' j j1 (by omega), fun j _ => rfl, fun q _ _ _ => rfl⟩
    show f_X7_findLeast_b32 k2 (f_X7_findLeast_L32 k2 F) _ _ _ _ σ = _
    rw [show u + 1 = 121 by omega, ← nI_1]
    exact ite_p (show (120 : Int32) < nI 121 by decide) (by rw [nI_1])
  | succ k ih =>
    intro F u σ h1 h2 h3 h4 h5'
    obtain ⟨F, rfl⟩ : ∃ F', F = F' + 1 := ⟨F - 1, by omega⟩
    have hb := hpN_b N tx p (u + 1)
    have hA := lsA_b (H := hpN N tx) p (u + 1)
    have e1 : hmI N tx (N 5 p) (u + 1) = nI (hpN N tx p (u + 1)) := (hmI_n N tx (N 5 p) (u + 1)).1
    have fin : ∀ (σ1 : St), (∀ q, q ≠ 71 → q ≠ 72 → σ1 q = σ q) → ∃ σ2, f_X7_findLeast_b70 k2 (f_X7_findLeast_L32 k2 F) (nI p) (nI (N 5 p)) (nI (lsA (hpN N tx) p (u + 1))) (nI (u + 1)) (nI (121 * p + (u + 1))) (nI (lsC N tx p (u + 1))) σ1 = k2 (nI (p + 1)) σ2 ∧ (∀ j, 1 ≤ j → j ≤ 120 → σ2 73 (121 * p + j) = nI (lsC N tx p j)) ∧ (∀ j, j < 121 * p → σ2 73 j = σ 73 j) ∧ ∀ q, q ≠ 71 → q ≠ 72 → q ≠ 73 → σ2 q = σ q := by
      intro σ1 g2
      obtain ⟨σ2, f1, f2, f3, f4⟩ := ih F (u + 1) (st σ1 73 (121 * p + (u + 1)) (nI (lsC N tx p (u + 1)))) (h1.fr (by rw [st_c (by decide), g2 _ (by decide) (by decide)])) (fun h0 j j1 j2 => by
        rw [st_k (by omega), g2 _ (by decide) (by decide)]
        exact h2 h0 j j1 j2) (by omega) (by omega) (fun j j1 j2 => by
        by_cases e : j = u + 1
        · subst e; rw [st_s]
        · rw [st_k (by omega), g2 _ (by decide) (by decide)]
          exact h5' j j1 (by omega))
      refine ⟨σ2, ?_, f2, fun j hj => by rw [f3 j hj, st_k (by omega), g2 _ (by decide) (by decide)], fun q q1 q2 q3 => by rw [f4 q q1 q2 q3, st_c q3, g2 q q1 q2]⟩
      refine ite_p (inb_i (by omega) (by decide)) (ol_i ?_)
      rw [nI_clamp (by omega)]
      by_cases e : p = 0
      · subst e
        exact ite_p rfl (ite_p (show nI 0 ≤ 0 by decide) (by rw [nI_1]; exact f1))
      · refine ite_n (nI_ne0 (by omega) (by omega)) ?_
        obtain ⟨p', rfl⟩ : ∃ p', p = p' + 1 := ⟨p - 1, by omega⟩
        have c1 := h2 (by omega) (u + 1) (by omega) (by omega)
        rw [show p' + 1 - 1 = p' by omega] at c1
        rw [nI_pred, ix121]
        refine ite_p (inb_i (by omega) (by decide)) ?_
        rw [nI_clamp (by omega), st_k (by omega), g2 _ (by decide) (by decide), c1, nI_1]
        have eA : lsA (hpN N tx) (p' + 1) (u + 1) = lsS N tx p' u := rfl
        have hC : lsC N tx p' (u + 1) ≤ 1000999 := by
          have := hpN_b N tx p' (u + 1)
          have := lsA_b (H := hpN N tx) p' (u + 1)
          unfold lsC lsM
          by_cases q : lsA (hpN N tx) p' (u + 1) < 1000000
          · rw [if_pos q]; omega
          · rw [if_neg q]; omega
        by_cases qC : lsC N tx p' (u + 1) < lsS N tx p' u
        · rw [show lsA (hpN N tx) (p' + 1) (u + 1 + 1) = lsC N tx p' (u + 1) from if_pos qC] at f1
          exact ite_n (nI_ge (by omega) (by omega)) f1
        · rw [show lsA (hpN N tx) (p' + 1) (u + 1 + 1) = lsA (hpN N tx) (p' + 1) (u + 1) from if_neg qC] at f1
          exact ite_p (nI_le (by omega) (by omega)) f1
    have res : ∃ σ2, (if nI (lsA (hpN N tx) p (u + 1)) < 1000000 then (ob (f_X7_harmOf (nI (N 5 p)) (nI (u + 1)) σ) fun r1 σ1 => f_X7_findLeast_b70 k2 (f_X7_findLeast_L32 k2 F) (nI p) (nI (N 5 p)) (nI (lsA (hpN N tx) p (u + 1))) (nI (u + 1)) ((121 * nI p) + nI (u + 1)) (nI (lsA (hpN N tx) p (u + 1)) + r1) σ1) else f_X7_findLeast_b70 k2 (f_X7_findLeast_L32 k2 F) (nI p) (nI (N 5 p)) (nI (lsA (hpN N tx) p (u + 1))) (nI (u + 1)) ((121 * nI p) + nI (u + 1)) 1000000 σ) = k2 (nI (p + 1)) σ2 ∧ (∀ j, 1 ≤ j → j ≤ 120 → σ2 73 (121 * p + j) = nI (lsC N tx p j)) ∧ (∀ j, j < 121 * p → σ2 73 j = σ 73 j) ∧ ∀ q, q ≠ 71 → q ≠ 72 → q ≠ 73 → σ2 q = σ q := by
      rw [ix121]
      by_cases qA : lsA (hpN N tx) p (u + 1) < 1000000
      · obtain ⟨σ1, g1, g2⟩ := m_harm h1 hK h5 (show u + 1 ≤ 999 by omega)
        obtain ⟨σ2, f1, f2⟩ := fin σ1 g2
        refine ⟨σ2, ite_p (nI_lt (b := 1000000) qA (by decide)) (ob_i g1 ?_), f2⟩
        rw [show lsC N tx p (u + 1) = lsA (hpN N tx) p (u + 1) + hpN N tx p (u + 1) from if_pos qA] at f1
        rw [e1, nI_add]
        exact f1
      · obtain ⟨σ2, f1, f2⟩ := fin σ (fun _ _ _ => rfl)
        refine ⟨σ2, ite_n (nI_nlt (b := 1000000) (by omega) (by omega)) ?_, f2⟩
        rw [show lsC N tx p (u + 1) = 1000000 from if_neg qA] at f1
        exact f1
    obtain ⟨σ2, f1, f2⟩ := res
    refine ⟨σ2, ?_, f2⟩
    show f_X7_findLeast_b32 k2 (f_X7_findLeast_L32 k2 F) _ _ _ _ σ = _
    exact ite_n (nI_nlt (a := 120) (b := u + 1) (by omega) (by decide)) f1
theorem m_flL (hK : OKN N tx) : ∀ (k F p : Nat) (σ : St), MV 67 σ N z wt tx → p + k = N 0 0 → k < F → (∀ i, i < p → ∀ j, 1 ≤ j → j ≤ 120 → σ 73 (121 * i + j) = nI (lsC N tx i j)) → ∃ σ1, f_X7_findLeast_L2 F (nI p) σ = some (0, σ1) ∧ (∀ i, i < N 0 0 → ∀ j, 1 ≤ j → j ≤ 120 → σ1 73 (121 * i + j) = nI (lsC N tx i j)) ∧ ∀ q, q ≠ 71 → q ≠ 72 → q ≠ 73 → σ1 q = σ q := by
  have h10 := hK.n
  intro k
  induction k with
  | zero =>
    intro F p σ h1 h2 h3 h4
    obtain ⟨F, rfl⟩ : ∃ F', F = F' + 1 := ⟨F - 1, by omega⟩
    refine ⟨σ, ?_, fun i hi => h4 i (by omega), fun q _ _ _ => rfl⟩
    show f_X7_findLeast_b2 (f_X7_findLeast_L2 F) _ σ = _
    refine ite_p (inb_l (by decide) (by decide)) ?_
    rw [show σ 67 (Int32.toNatClampNeg 5) = nI (N 0 0) from h1.n]
    exact ite_p (nI_le (by omega) (by omega)) rfl
  | succ k ih =>
    intro F p σ h1 h2 h3 h4
    obtain ⟨F, rfl⟩ : ∃ F', F = F' + 1 := ⟨F - 1, by omega⟩
    obtain ⟨σ1, g1, g2, g3, g4⟩ := m_flI (k2 := f_X7_findLeast_L2 F) hK (show p < N 0 0 by omega) 120 LF 0 σ h1 (fun h0 j j1 j2 => h4 (p - 1) (by omega) j j1 j2) (by omega) (by decide) (fun j j1 j2 => by omega)
    obtain ⟨σ2, f1, f2, f3⟩ := ih F (p + 1) σ1 (h1.fr (g4 _ (by decide) (by decide) (by decide))) (by omega) (by omega) (fun i hi j j1 j2 => by
      by_cases e : i = p
      · subst e; exact g2 j j1 j2
      · rw [g3 _ (by omega)]
        exact h4 i (by omega) j j1 j2)
    refine ⟨σ2, ?_, f2, fun q q1 q2 q3 => by rw [f3 q q1 q2 q3, g4 q q1 q2 q3]⟩
    show f_X7_findLeast_b2 (f_X7_findLeast_L2 F) _ σ = _
    refine ite_p (inb_l (by decide) (by decide)) ?_
    rw [show σ 67 (Int32.toNatClampNeg 5) = nI (N 0 0) from h1.n]
    refine ite_n (nI_ge (by omega) (by omega)) (ob_i (m_at h1 hK (show p < N 0 0 by omega)) ?_)
    rw [f1] at g1
    by_cases e : p = 0
    · subst e
      exact ite_p rfl g1
    · refine ite_n (nI_ne0 (by omega) (by omega)) ?_
      obtain ⟨p', rfl⟩ : ∃ p', p = p' + 1 := ⟨p - 1, by omega⟩
      exact g1
/-- the number that the reference takes -/
def agN (N : Nat → Nat → Nat) (tx : Nat → Nat → Int32) (p v : Nat) : Nat := if lsR N tx p v = 0 then 1 else lsR N tx p v
theorem m_laL {n p l : Nat} {σ : St} (hp : p < 10) (hl : l ≤ 120) (hrow : ∀ j, 1 ≤ j → j ≤ 120 → σ 73 (121 * p + j) = nI (lsC N tx p j)) : ∀ (k F v : Nat), v + k = l → 1 ≤ v → k < F → f_X7_leastAt_L5 F (nI p) (nI (l + 1)) (nI (agN N tx p v)) (nI (v + 1)) σ = some (nI (agN N tx p l), σ) := by
  intro k
  induction k with
  | zero =>
    intro F v h1 h2 h3
    obtain ⟨F, rfl⟩ : ∃ F', F = F' + 1 := ⟨F - 1, by omega⟩
    show f_X7_leastAt_b5 (f_X7_leastAt_L5 F) _ _ _ _ σ = _
    rw [show v = l by omega]
    exact ite_p (nI_le (by omega) (by omega)) rfl
  | succ k ih =>
    intro F v h1 h2 h3
    obtain ⟨F, rfl⟩ : ∃ F', F = F' + 1 := ⟨F - 1, by omega⟩
    have hC : ∀ j, lsC N tx p j ≤ 1000999 := by
      intro j
      have := hpN_b N tx p j
      unfold lsC lsM
      by_cases q : lsA (hpN N tx) p j < 1000000
      · rw [if_pos q]; omega
      · rw [if_neg q]; omega
    have hag : 1 ≤ agN N tx p v ∧ agN N tx p v ≤ v ∧ (lsC N tx p (agN N tx p v) ≤ lsC N tx p (v + 1) ↔ ¬ lsC N tx p (v + 1) < lsS N tx p v) := by
      rcases lsL_e (A := lsA (hpN N tx) p) (H := hpN N tx p) v with ⟨i1, i2, i3⟩ | ⟨i1, i2, i3, i4⟩
      · have e : agN N tx p v = 1 := if_pos i1
        rw [e]
        have a1 : lsC N tx p 1 = 1000000 := by
          have := i3 1 (by decide) h2
          cases p with
          | zero =>
            have e1 : lsM (lsA (hpN N tx) 0) (hpN N tx 0) 1 = 0 + hpN N tx 0 1 := if_pos (show (0 : Nat) < 1000000 by decide)
            have b := hpN_b N tx 0 1
            omega
          | succ p => exact if_neg (t := lsA (hpN N tx) (p + 1) 1 + hpN N tx (p + 1) 1) (show ¬ (1000000 : Nat) < 1000000 by decide)
        unfold lsS
        rw [a1, i2]
        exact ⟨by decide, h2, by omega⟩
      · have e : agN N tx p v = lsR N tx p v := if_neg (by unfold lsR; omega)
        rw [e]
        unfold lsC lsS lsR at *
        exact ⟨i1, i2, by omega⟩
    obtain ⟨a1, a2, a3⟩ := hag
    show f_X7_leastAt_b5 (f_X7_leastAt_L5 F) _ _ _ _ σ = _
    refine ite_n (nI_ge (by omega) (by omega)) ?_
    rw [ix121, ix121]
    refine ite_p (inb_i (by omega) (by decide)) (ite_p (inb_i (by omega) (by decide)) ?_)
    rw [nI_clamp (by omega), nI_clamp (by omega), hrow _ a1 (by omega), hrow _ (by omega) (by omega), nI_1]
    have h5 := hC (agN N tx p v)
    have h6 := hC (v + 1)
    by_cases q : lsC N tx p (v + 1) < lsS N tx p v
    · have e : agN N tx p (v + 1) = v + 1 := by
        unfold agN
        rw [show lsR N tx p (v + 1) = v + 1 from if_pos q]
        rfl
      have := ih F (v + 1) (by omega) (by omega) (by omega)
      rw [e] at this
      exact ite_n (fun h => a3.mp ((nI_leI (by omega) (by omega)).mp h) q) this
    · have e : agN N tx p (v + 1) = agN N tx p v := by
        unfold agN
        rw [show lsR N tx p (v + 1) = lsR N tx p v from if_neg q]
      have := ih F (v + 1) (by omega) (by omega) (by omega)
      rw [e] at this
      exact ite_p (nI_le (a3.mpr q) (by omega)) this
theorem m_liL {n s : Nat} {x : Int32} {σ : St} (hn : n ≤ 10) (hrow : ∀ i, i < n → ∀ j, 1 ≤ j → j ≤ 120 → σ 73 (121 * i + j) = nI (lsC N tx i j)) : ∀ (k F p l : Nat), p = s + k → p < n → l ≤ 120 → lsS N tx p l < 1000000 → k + 1 < F → f_X7_least_L71 F x (nI s) (nI (l + 1)) (nI p) σ = f_X7_least_b96 x (nI (rsD (hpN N tx) p l s)) σ := by
  have step : ∀ (F p l : Nat), s ≤ p → p < n → l ≤ 120 → lsS N tx p l < 1000000 → 1 ≤ lsR N tx p l ∧ f_X7_least_L71 (F + 1) x (nI s) (nI (l + 1)) (nI p) σ = f_X7_least_L71 F x (nI s) (nI (lsR N tx p l)) (nI p + (-1)) σ := by
    intro F p l h1 h2 h3 h4
    have hr : 1 ≤ lsR N tx p l ∧ lsR N tx p l ≤ l := by
      rcases lsL_e (A := lsA (hpN N tx) p) (H := hpN N tx p) l with ⟨i1, i2, i3⟩ | ⟨i1, i2, i3, i4⟩
      · unfold lsS at h4; omega
      · exact ⟨i1, i2⟩
    have ea : agN N tx p l = lsR N tx p l := if_neg (by omega)
    have e1 : agN N tx p 1 = 1 := by
      unfold agN lsR lsL
      by_cases q : lsM (lsA (hpN N tx) p) (hpN N tx p) (0 + 1) < lsB (lsA (hpN N tx) p) (hpN N tx p) 0
      · rw [if_pos q]; rfl
      · rw [if_neg q]; rfl
    have := m_laL (n := n) (tx := tx) (N := N) (p := p) (l := l) (σ := σ) (by omega) h3 (hrow p h2) (l - 1) LF 1 (by omega) (by decide) (by unfold LF; omega)
    rw [e1, ea] at this
    refine ⟨hr.1, ?_⟩
    show f_X7_least_b71 (f_X7_least_L71 F) _ _ _ _ σ = _
    exact ite_n (nI_nlt h1 (by omega)) (ite_n (nI_nn (by omega)) (ob_i this rfl))
  intro k
  induction k with
  | zero =>
    intro F p l h1 h2 h3 h4 h5
    obtain ⟨F, rfl⟩ : ∃ F', F = F' + 2 := ⟨F - 2, by omega⟩
    obtain rfl : p = s := by omega
    rw [(step (F + 1) p l (Nat.le_refl _) h2 h3 h4).2, rsD_t]
    show f_X7_least_b71 (f_X7_least_L71 F) _ _ _ _ σ = _
    refine ite_p ?_ rfl
    cases p with
    | zero => decide
    | succ p => rw [pk_m1]; exact nI_lt (by omega) (by omega)
  | succ k ih =>
    intro F p l h1 h2 h3 h4 h5
    obtain ⟨F, rfl⟩ : ∃ F', F = F' + 1 := ⟨F - 1, by omega⟩
    obtain ⟨p, rfl⟩ : ∃ p', p = p' + 1 := ⟨p - 1, by omega⟩
    obtain ⟨s1, s2⟩ := step F (p + 1) l (by omega) h2 h3 h4
    obtain ⟨n1, n2, n3⟩ := ls_next (H := hpN N tx) (p := p) (l := l) h4
    have := ih F p (lsR N tx (p + 1) l - 1) (by omega) (by omega) (by unfold lsR; omega) n1 (by omega)
    rw [s2, pk_m1, show rsD (hpN N tx) (p + 1) l s = rsD (hpN N tx) p (lsR N tx (p + 1) l - 1) s from if_neg (by omega), ← this, show lsR N tx (p + 1) l - 1 + 1 = lsR N tx (p + 1) l by omega]
theorem m_fl (hK : OKN N tx) {σ : St} (h1 : MV 67 σ N z wt tx) : ∃ σ1, f_X7_findLeast σ = some (0, σ1) ∧ (∀ i, i < N 0 0 → ∀ j, 1 ≤ j → j ≤ 120 → σ1 73 (121 * i + j) = nI (lsC N tx i j)) ∧ ∀ q, q ≠ 71 → q ≠ 72 → q ≠ 73 → σ1 q = σ q := by
  have h10 := hK.n
  exact m_flL hK (N 0 0) LF 0 σ h1 (by omega) (by unfold LF; omega) (fun i hi => by omega)
end LS
theorem scr_ls {σ σ1 : St} (h : ∀ q, q ≠ 8 → ¬ (32 ≤ q ∧ q ≤ 53) → σ1 q = σ q) : Eqo scr σ σ1 := fun q k hq => by
  rw [h q]
  · rintro rfl; revert hq; unfold scr; simp
  · intro e
    revert hq
    unfold scr
    have : (decide (27 ≤ q) && decide (q ≤ 54)) = true := by simp; omega
    rw [this]
    simp
theorem scr_ms {σ σ1 : St} (h : ∀ q, q ≠ 71 → q ≠ 72 → q ≠ 73 → σ1 q = σ q) : Eqo scr σ σ1 := fun q k hq => by
  rw [h q] <;> (rintro rfl; revert hq; unfold scr; simp)
theorem P_least {σ : St} (hI : Inv σ) (x0 : Int32) : ∃ (r : Int32) (σ1 σ2 : St), f_X6_least x0 σ = some (r, σ1) ∧ f_X7_least x0 σ1 = some (r, σ2) ∧ Inv σ2 := by
  obtain ⟨⟨N, z, wt, tx, hC, hM, hK⟩, -⟩ := id hI
  have h10 := hK.n
  obtain ⟨σ1, g1, g2, g3⟩ := c_lr hK hC
  have hC1 : CV 0 σ1 N z wt tx := hC.fr (fun q hq => g3 q (by omega) (by omega))
  have hM1 : MV 67 σ1 N z wt tx := hM.fr (g3 _ (by decide) (by decide))
  obtain ⟨σ2, f1, f2, f3⟩ := m_fl hK hM1
  have hM2 : MV 67 σ2 N z wt tx := hM1.fr (f3 _ (by decide) (by decide) (by decide))
  have hI2 : Inv σ2 := (hI.fr (scr_ls g3)).fr (scr_ms f3)
  have c5 : σ2 67 (Int32.toNatClampNeg 5) = nI (N 0 0) := hM2.n
  have top : ∀ n, 1 ≤ n → n ≤ N 0 0 → lsS N tx (n - 1) 120 < 1000000 := by
    intro n h1 h2
    have := lsB_f (hpN_b N tx) (n - 1) (by omega) 120 (by omega)
    unfold lsS
    omega
  have mb : ∀ {x r : Int32}, x < nI (N 0 0) → ¬ x < -1 → ¬ 9 < x → (if 0 ≤ x then (ob (f_X7_its x 3 σ2) fun r4 σ4 => if inb 5 382 then f_X7_least_L71 LF x r4 121 ((σ4 67 (5 : Int32).toNatClampNeg) - 1) σ4 else none) else (if inb 5 382 then (if inb 5 382 then f_X7_least_L71 LF x ((σ2 67 (5 : Int32).toNatClampNeg) - 1) 121 ((σ2 67 (5 : Int32).toNatClampNeg) - 1) σ2 else none) else none)) = some (r, σ2) → f_X7_least x σ1 = some (r, σ2) := by
    intro x r h1 h2 h3 hy
    refine ob_i (r := 1) (σ := σ1) ?_ (ite_n (by decide) (ite_p (inb_l (by decide) (by decide)) ?_))
    · unfold f_X7_in
      exact ite_n h2 (ite_n h3 rfl)
    · rw [show σ1 67 (Int32.toNatClampNeg 5) = nI (N 0 0) from hM1.n]
      exact ite_p h1 (ob_i f1 hy)
  by_cases hv : isR 0 (N 0 0) x0
  · obtain ⟨h, -, hh, rfl⟩ := id hv
    have h4 := (hK.h hh).2.2.2.2.1
    refine ⟨nI (rsD (hpN N tx) (N 0 0 - 1) 120 (N 4 h)), σ1, σ2, ?_, mb (nI_lt hh (by omega)) (by rw [f_lt, nI_toInt (by omega), show (-1 : Int32).toInt = -1 from rfl]; omega) (nI_nlt (a := 9) (by omega) (by decide)) ?_, hI2⟩
    · refine ite_n (by rw [f_lt, nI_toInt (by omega), show (-1 : Int32).toInt = -1 from rfl]; omega) (ite_p (nI_lt (b := 10) (by omega) (by decide)) ?_)
      rw [hC.n]
      refine ite_p (nI_lt hh (by omega)) (ob_i g1 (ite_p (nI_pos' (by omega)) (ob_i (c_placeOf hK hh hC1) (ob_i (r := nI (rsD (hpN N tx) (N 0 0 - 1) 120 (N 4 h))) (σ := σ1) ?_ rfl))))
      refine ite_n (nI_nn (by omega)) (ite_n (nI_ge (b := 10) (by omega) (by decide)) (ite_p (inb_i (by omega) (by decide)) ?_))
      rw [nI_clamp (by omega), g2 _ h4]
    · refine ite_p (nI_pos' (by omega)) (ob_i (m_its (w := 3) (by omega) (by decide)) (ite_p (inb_l (by decide) (by decide)) ?_))
      rw [show 8 + 4 * h + 3 = 11 + 4 * h by omega, hM2.pc hh, c5, show nI (N 0 0) - 1 = nI (N 0 0 - 1) from pk_sub (b := 1) (by omega)]
      refine (m_liL (n := N 0 0) (x := nI h) h10 f2 (N 0 0 - 1 - N 4 h) LF (N 0 0 - 1) 120 (by omega) (by omega) (by decide) (top _ (by omega) (Nat.le_refl _)) (by unfold LF; omega)).trans ?_
      exact ite_n (nI_nn (by omega)) rfl
  · by_cases h1 : x0 = -1
    · subst h1
      have lt0 : (-1 : Int32) < nI (N 0 0) := by rw [f_lt, nI_toInt (by omega), show (-1 : Int32).toInt = -1 from rfl]; omega
      have cc : f_X6_least (-1) σ = some (if N 0 0 = 0 then 0 else nI (lsS N tx (N 0 0 - 1) 120), σ1) := by
        refine ite_n (by decide) (ite_p (by decide) ?_)
        rw [hC.n]
        exact ite_p lt0 (ob_i g1 (ite_n (by decide) rfl))
      refine ⟨_, σ1, σ2, cc, mb lt0 (by decide) (by decide) (ite_n (by decide) (ite_p (inb_l (by decide) (by decide)) (ite_p (inb_l (by decide) (by decide)) ?_))), hI2⟩
      rw [c5]
      by_cases h0 : N 0 0 = 0
      · rw [h0]
        show f_X7_least_b71 (f_X7_least_L71 (LF - 1)) (-1) (nI 0 - 1) 121 (nI 0 - 1) σ2 = _
        refine ite_n (by decide) (ite_p (by decide) (ite_p (by decide) (ite_p (inb_l (by decide) (by decide)) ?_)))
        rw [c5, h0]
        exact ite_p rfl rfl
      · rw [if_neg h0, show nI (N 0 0) - 1 = nI (N 0 0 - 1) from pk_sub (b := 1) (by omega)]
        refine (m_liL (n := N 0 0) (s := N 0 0 - 1) (x := -1) h10 f2 0 LF (N 0 0 - 1) 120 (by omega) (by omega) (by decide) (top _ (by omega) (Nat.le_refl _)) (by decide)).trans ?_
        rw [rsD_t]
        refine ite_p (by decide) (ite_p (inb_l (by decide) (by decide)) ?_)
        rw [c5]
        refine ite_n (nI_ne0 (by omega) (by omega)) (ite_p (inb_l (by decide) (by decide)) ?_)
        rcases lsL_e (A := lsA (hpN N tx) (N 0 0 - 1)) (H := hpN N tx (N 0 0 - 1)) 120 with ⟨i1, i2, i3⟩ | ⟨i1, i2, i3, i4⟩
        · have := top (N 0 0) (by omega) (Nat.le_refl _)
          unfold lsS at this
          omega
        · rw [show nI (N 0 0) - 1 = nI (N 0 0 - 1) from pk_sub (b := 1) (by omega), ix121]
          refine ite_p (inb_i (by omega) (by decide)) ?_
          rw [nI_clamp (by omega), f2 _ (by omega) _ i1 i2]
          unfold lsC lsS
          rw [i3]
    · by_cases h9 : isR 0 10 x0
      · obtain ⟨x, -, hx, rfl⟩ := id h9
        have nl : ¬ nI x < nI (N 0 0) := nI_nlt (by
          by_cases q : x < N 0 0
          · exact absurd (isR_n q) hv
          · omega) (by omega)
        have n1 : ¬ nI x < -1 := by rw [f_lt, nI_toInt (by omega), show (-1 : Int32).toInt = -1 from rfl]; omega
        refine P_err (FC := f_X6_least (nI x)) (FM := f_X7_least (nI x)) (k := 2) hI ?_ ?_
        · refine ite_n n1 (ite_p (nI_lt (b := 10) hx (by decide)) ?_)
          rw [hC.n]
          exact ite_n nl (ob_i (p_failing (k := 2) (by decide)) rfl)
        · refine ob_i (r := 1) (σ := eC 2 σ) ?_ (ite_n (by decide) (ite_p (inb_l (by decide) (by decide)) ?_))
          · unfold f_X7_in
            exact ite_n n1 (ite_n (nI_nlt (a := 9) (by omega) (by decide)) rfl)
          · rw [show eC 2 σ 67 (Int32.toNatClampNeg 5) = nI (N 0 0) by rw [eC_c (by decide)]; exact hM.n]
            exact ite_n nl (ob_i (p_error (k := 2) (by decide)) rfl)
      · rw [isR_iff (by decide)] at h9
        have hne : x0.toInt ≠ -1 := fun q => h1 (by rw [f_eq]; exact q)
        refine P_err (FC := f_X6_least x0) (FM := f_X7_least x0) (k := 1) hI ?_ ?_
        · by_cases q : x0 < -1
          · exact ite_p q (ob_i (p_failing (k := 1) (by decide)) rfl)
          · refine ite_n q (ite_n ?_ (ob_i (p_failing (k := 1) (by decide)) rfl))
            rw [f_lt, show (-1 : Int32).toInt = -1 from rfl] at q
            rw [f_lt, show (10 : Int32).toInt = 10 from rfl]
            omega
        · refine ob_i (r := 0) (σ := eC 1 σ) ?_ (ite_p rfl (ob_i (p_error (k := 1) (by decide)) rfl))
          unfold f_X7_in
          by_cases q : x0 < -1
          · exact ite_p q rfl
          · refine ite_n q (ite_p ?_ rfl)
            rw [f_lt, show (-1 : Int32).toInt = -1 from rfl] at q
            rw [f_lt, show (9 : Int32).toInt = 9 from rfl]
            omega
