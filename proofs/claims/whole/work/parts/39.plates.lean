/-! plates -/
theorem c_platesL {s : Nat} (hs : s < 4) {f : Nat → Int32} {n c m : Nat} (h10 : n ≤ 10) (hc : c ≤ 24) (hm : m ≤ n ∧ m ≤ c) : ∀ (k i : Nat) (σ : St), σ 1 1 = nI n → σ 64 s = nI c → (∀ j, j < 24 → σ (59 + s) j = f j) → i ≤ m → m < k + i → ∃ (e : Nat) (σ1 : St), f_X6_plates_L51 k (nI s) (nI m) (nI i) σ = some (nI e, σ1) ∧ i ≤ e ∧ e ≤ m ∧ (∀ j, i ≤ j → j < e → isR 1 1000 (f j)) ∧ (e < m → ¬ isR 1 1000 (f e)) ∧ (∀ q, q ≠ 11 → σ1 q = σ q) ∧ ∀ j, σ1 11 j = if i ≤ j ∧ j < e then f j else σ 11 j := by
  intro k
  induction k with
  | zero => intro i σ h1 h2 h3 h4 h5; omega
  | succ k ih =>
    intro i σ h1 h2 h3 h4 h5
    by_cases e : i = m
    · subst e
      refine ⟨i, σ, ?_, Nat.le_refl _, Nat.le_refl _, fun j _ _ => by omega, fun h => by omega, fun q _ => rfl, fun j => (if_neg (by omega)).symm⟩
      show f_X6_plates_b51 _ _ _ _ _ = _
      exact ite_p (nI_le (by omega) (by omega)) rfl
    · have hnum : f_X2_number (nI s) (nI i) σ = some (f i, σ) := by
        refine ob_i (c_holds_t hs hc h2 ⟨i, 1, by omega, rfl, rfl⟩) (ite_n (by decide) (ite_p (inb_i hs (by decide)) (ite_p (inb_i (by omega) (by decide)) ?_)))
        rw [nI_clamp (by omega), nI_clamp (by omega), h3 i (by omega)]
      by_cases hp : isR 1 1000 (f i)
      · obtain ⟨e', σ1, g1, g2, g3, g4, g5, g6, g7⟩ := ih (i + 1) (st σ 11 i (f i)) (by rw [st_c (by decide)]; exact h1) (by rw [st_c (by decide)]; exact h2) (fun j hj => by rw [st_c (by omega)]; exact h3 j hj) (by omega) (by omega)
        refine ⟨e', σ1, ?_, by omega, g3, fun j q1 q2 => ?_, g5, fun q hq => by rw [g6 q hq, st_c hq], fun j => ?_⟩
        · show f_X6_plates_b51 _ _ _ _ _ = _
          refine ite_n (nI_ge (by omega) (by omega)) (ob_i hnum (ob_i (isPlate_t hp) (ite_n (by decide) (ob_i (c_setPlate h1 h10 (by omega)) ?_))))
          rw [nI_1]
          exact g1
        · by_cases ej : j = i
          · rw [ej]; exact hp
          · exact g4 j (by omega) q2
        · rw [g7 j]
          by_cases ej : j = i
          · rw [if_neg (by omega), if_pos (by omega), ej, st_s]
          · rw [st_k ej]
            by_cases q : i + 1 ≤ j ∧ j < e'
            · rw [if_pos q, if_pos (by omega)]
            · rw [if_neg q, if_neg (by omega)]
      · refine ⟨i, σ, ?_, Nat.le_refl _, by omega, fun j _ _ => by omega, fun _ => hp, fun q _ => rfl, fun j => (if_neg (by omega)).symm⟩
        show f_X6_plates_b51 _ _ _ _ _ = _
        exact ite_n (nI_ge (by omega) (by omega)) (ob_i hnum (ob_i (isPlate_f hp) (ite_p rfl rfl)))
theorem m_platesL {s : Nat} (hs : s < 4) {f : Nat → Int32} {n c m : Nat} (h10 : n ≤ 10) (hc : c ≤ 24) (hm : (m = n ∧ n ≤ c) ∨ (m = c ∧ c ≤ n)) : ∀ (k i : Nat) (σ : St), σ 67 5 = nI n → σ 77 s = nI c → (∀ j, j < 24 → σ 78 (24 * s + j) = f j) → i ≤ m → m < k + i → ∃ (e : Nat) (σ1 : St), f_X7_plates_L18 k (nI s) (nI i) σ = some (nI e, σ1) ∧ i ≤ e ∧ e ≤ m ∧ (∀ j, i ≤ j → j < e → isR 1 1000 (f j)) ∧ (e < m → ¬ isR 1 1000 (f e)) ∧ (∀ q, q ≠ 67 → σ1 q = σ q) ∧ (∀ j, i ≤ j → j < e → σ1 67 (10 + 4 * j) = f j) ∧ ∀ x, (∀ j, i ≤ j → j < e → x ≠ 10 + 4 * j) → σ1 67 x = σ 67 x := by
  intro k
  induction k with
  | zero => intro i σ h1 h2 h3 h4 h5; omega
  | succ k ih =>
    intro i σ h1 h2 h3 h4 h5
    by_cases e : i = m
    · refine ⟨i, σ, ?_, Nat.le_refl _, by omega, fun j _ _ => by omega, fun h => by omega, fun q _ => rfl, fun j _ _ => by omega, fun x _ => rfl⟩
      show f_X7_plates_b18 _ _ _ _ = _
      refine ite_p (inb_i hs (by decide)) ?_
      rw [nI_clamp (by omega), h2]
      by_cases hci : c ≤ i
      · exact ite_p (nI_le hci (by omega)) rfl
      · refine ite_n (nI_ge (by omega) (by omega)) (ob_i (m_isHouse_f h1 h10 ?_) (ite_p rfl rfl))
        rw [isR_iff (by omega), nI_toInt (by omega)]
        omega
    · by_cases hp : isR 1 1000 (f i)
      · obtain ⟨e', σ1, g1, g2, g3, g4, g5, g6, g7, g8⟩ := ih (i + 1) (st σ 67 (8 + 4 * i + 2) (f i)) (by rw [st_k (by omega)]; exact h1) (by rw [st_c (by decide)]; exact h2) (fun j hj => by rw [st_c (by omega)]; exact h3 j hj) (by omega) (by omega)
        refine ⟨e', σ1, ?_, by omega, g3, fun j q1 q2 => ?_, g5, fun q hq => by rw [g6 q hq, st_c hq], fun j q1 q2 => ?_, fun x hx => ?_⟩
        · show f_X7_plates_b18 _ _ _ _ = _
          refine ite_p (inb_i hs (by decide)) ?_
          rw [nI_clamp (by omega), h2]
          refine ite_n (nI_ge (by omega) (by omega)) (ob_i (m_isHouse_t h1 h10 (isR_n (by omega))) (ite_n (by decide) ?_))
          rw [ix24]
          refine ite_p (inb_i (by omega) (by decide)) ?_
          simp (disch := omega) only [nI_clamp]
          rw [h3 i (by omega)]
          refine ob_i (isNumber_t hp) (ite_n (by decide) (ite_p (inb_i (by omega) (by decide)) ?_))
          rw [h3 i (by omega)]
          refine ob_i (m_lays1 (w := 2) (by omega) (by decide)) ?_
          rw [nI_1]
          exact g1
        · by_cases ej : j = i
          · rw [ej]; exact hp
          · exact g4 j (by omega) q2
        · by_cases ej : j = i
          · subst ej
            rw [g8 _ (fun j2 q3 q4 => by omega), show 10 + 4 * j = 8 + 4 * j + 2 by omega, st_s]
          · exact g7 j (by omega) q2
        · rw [g8 x (fun j q1 q2 => hx j (by omega) q2), st_k (by have := hx i (by omega) (by omega); omega)]
      · refine ⟨i, σ, ?_, Nat.le_refl _, by omega, fun j _ _ => by omega, fun _ => hp, fun q _ => rfl, fun j _ _ => by omega, fun x _ => rfl⟩
        show f_X7_plates_b18 _ _ _ _ = _
        refine ite_p (inb_i hs (by decide)) ?_
        rw [nI_clamp (by omega), h2]
        refine ite_n (nI_ge (by omega) (by omega)) (ob_i (m_isHouse_t h1 h10 (isR_n (by omega))) (ite_n (by decide) ?_))
        rw [ix24]
        refine ite_p (inb_i (by omega) (by decide)) ?_
        simp (disch := omega) only [nI_clamp]
        rw [h3 i (by omega)]
        exact ob_i (isNumber_f hp) (ite_p rfl rfl)
theorem isR_cl {lo hi : Nat} {x : Int32} (h : isR lo hi x) (hh : hi ≤ 2 ^ 31) : x = nI x.toNatClampNeg ∧ lo ≤ x.toNatClampNeg ∧ x.toNatClampNeg < hi := by
  obtain ⟨j, h1, h2, rfl⟩ := h
  rw [nI_clamp (by omega)]
  exact ⟨rfl, h1, h2⟩
theorem m_lacks {σ : St} {s w : Nat} (hs : s < 4) (hw : w ≤ 32) (h : σ 76 s = nI w) : f_X7_lacks (nI s) σ = some (if w = 0 then 2 else 0, σ) := by
  refine ob_i (isSheetM_t (isR_n hs)) (ite_n (by decide) (ite_p (inb_i hs (by decide)) ?_))
  rw [nI_clamp (by omega), h]
  by_cases h0 : w = 0
  · rw [if_pos h0]
    exact ite_p (by rw [h0]; rfl) rfl
  · rw [if_neg h0]
    exact ite_n (nI_ne0 (by omega) (by omega)) rfl
theorem P_plates {σ : St} (hI : Inv σ) (x0 : Int32) : ∃ (r : Int32) (σ1 σ2 : St), f_X6_plates x0 σ = some (r, σ1) ∧ f_X7_plates x0 σ1 = some (r, σ2) ∧ Inv σ2 := by
  obtain ⟨⟨N, z, wt, tx, hC, hM, hK⟩, -, -, ⟨w, c, hS⟩, -⟩ := id hI
  have h10 := hK.n
  by_cases hv : isR 0 4 x0
  · obtain ⟨s, -, hs, rfl⟩ := id hv
    obtain ⟨a1, a2, a3, a4, a5, a6, a7⟩ := hS s hs
    have ms := c_miss hs (by omega) a3
    by_cases h0 : w s = 0
    · rw [if_pos h0] at ms
      refine P_err (FC := f_X6_plates (nI s)) (FM := f_X7_plates (nI s)) (k := 2) hI ?_ ?_
      · exact ob_i (isSheet_t hv) (ite_n (by decide) (ob_i ms (ite_n (by decide) (ob_i (p_failing (k := 2) (by decide)) rfl))))
      · have := m_lacks (σ := eC 2 σ) hs (show w s ≤ 32 by omega) (by rw [eC_c (by decide)]; exact a4)
        rw [if_pos h0] at this
        exact ob_i this (ite_n (by decide) (ob_i (p_error (k := 2) (by decide)) rfl))
    · rw [if_neg h0] at ms
      obtain ⟨m, hm, hmin⟩ : ∃ m : Nat, ((m = N 0 0 ∧ N 0 0 ≤ c s) ∨ (m = c s ∧ c s ≤ N 0 0)) ∧ imin (nI (c s)) (nI (N 0 0)) = nI m := by
        unfold imin
        by_cases q : N 0 0 < c s
        · exact ⟨N 0 0, Or.inl ⟨rfl, by omega⟩, if_pos (nI_lt q (by omega))⟩
        · exact ⟨c s, Or.inr ⟨rfl, by omega⟩, if_neg (nI_nlt (by omega) (by omega))⟩
      obtain ⟨e, σ1, g1, g2, g3, g4, g5, g6, g7⟩ := c_platesL hs (f := fun j => σ (59 + s) j) (m := m) h10 a2 (by omega) LF 0 σ hC.n a5 (fun j _ => rfl) (by omega) (by unfold LF; omega)
      obtain ⟨e', σ2, f1, f2, f3, f4, f5, f6, f7, f8⟩ := m_platesL hs (f := fun j => σ (59 + s) j) (m := m) h10 a2 hm LF 0 σ1 (by rw [g6 _ (by decide)]; exact hM.n) (by rw [g6 _ (by decide)]; exact a6) (fun j hj => by rw [g6 _ (by decide)]; exact (a7 j hj).symm) (by omega) (by unfold LF; omega)
      obtain rfl : e = e' := by
        rcases Nat.lt_trichotomy e e' with h | h | h
        · exact absurd (f4 e (by omega) h) (g5 (by omega))
        · exact h
        · exact absurd (g4 e' (by omega) h) (f5 (by omega))
      refine ⟨nI e, σ1, σ2, ?_, ?_, ?_⟩
      · refine ob_i (isSheet_t hv) (ite_n (by decide) (ob_i ms (ite_p rfl (ob_i (c_size hs a5) ?_))))
        rw [hC.n, hmin]
        exact g1
      · have := m_lacks (σ := σ1) hs (show w s ≤ 32 by omega) (by rw [g6 _ (by decide)]; exact a4)
        rw [if_neg h0] at this
        exact ob_i this (ite_p rfl f1)
      · have e1 : ∀ q, q ≠ 11 → q ≠ 67 → σ2 q = σ q := fun q q1 q2 => by rw [f6 q q2, g6 q q1]
        have hL : ∀ j, j < N 0 0 → σ2 11 j = nI (if j < e then (σ (59 + s) j).toNatClampNeg else N 3 j) ∧ σ2 67 (10 + 4 * j) = nI (if j < e then (σ (59 + s) j).toNatClampNeg else N 3 j) ∧ 1 ≤ (if j < e then (σ (59 + s) j).toNatClampNeg else N 3 j) ∧ (if j < e then (σ (59 + s) j).toNatClampNeg else N 3 j) ≤ 999 := by
          intro j hj
          by_cases q : j < e
          · obtain ⟨r1, r2, r3⟩ := isR_cl (f4 j (Nat.zero_le _) q) (by decide)
            rw [if_pos q, ← r1, f6 _ (by decide), g7 j, if_pos ⟨Nat.zero_le _, q⟩, f7 j (Nat.zero_le _) q]
            exact ⟨rfl, rfl, r2, by omega⟩
          · rw [if_neg q, f6 _ (by decide), g7 j, if_neg (by omega), f8 _ (fun j2 q1 q2 => by omega), g6 _ (by decide)]
            exact ⟨hC.pl hj, hM.pl hj, (hK.h hj).2.2.1, (hK.h hj).2.2.2.1⟩
        refine hI.main (fun q k hq => ?_) ⟨hsN N (N 1) (N 2) (fun j => if j < e then (σ (59 + s) j).toNatClampNeg else N 3 j), z, wt, tx, hC.hs (fun q hq => e1 q (by omega) (by omega)) (fun j hj => ?_), hM.hs h10 (fun k hk => ?_) (fun j hj => ?_), hK.hs (fun j hj => ?_)⟩
        · rw [e1 q] <;> (rintro rfl; revert hq; unfold mnP; simp)
        · rw [e1 9 (by decide) (by decide), e1 10 (by decide) (by decide)]
          exact ⟨hC.kd hj, hC.em hj, (hL j hj).1⟩
        · rw [f8 k (fun j q1 q2 => by omega), g6 _ (by decide)]
        · rw [f8 _ (fun j q1 q2 => by omega), f8 _ (fun j q1 q2 => by omega), g6 _ (by decide)]
          exact ⟨hM.kd hj, hM.em hj, (hL j hj).2.1⟩
        · exact ⟨(hK.h hj).1, (hK.h hj).2.1, (hL j hj).2.2⟩
  · refine P_err (FC := f_X6_plates x0) (FM := f_X7_plates x0) (k := 1) hI (ob_i (isSheet_f hv) (ite_p rfl (ob_i (p_failing (k := 1) (by decide)) rfl))) ?_
    exact ob_i (r := 1) (σ := eC 1 σ) (ob_i (isSheetM_f hv) (ite_p rfl rfl)) (ite_n (by decide) (ob_i (p_error (k := 1) (by decide)) rfl))
