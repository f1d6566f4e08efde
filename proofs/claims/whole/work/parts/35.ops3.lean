/-! become, tell, check, untell, feed, build -/
/-- kinds, m's and plates as they become -/
def hsN (N : Nat → Nat → Nat) (K E L : Nat → Nat) : Nat → Nat → Nat
  | 1, b => K b
  | 2, b => E b
  | 3, b => L b
  | a, b => N a b
theorem hsN_o {N : Nat → Nat → Nat} {K E L : Nat → Nat} {a b : Nat} (h : a ≠ 1 ∧ a ≠ 2 ∧ a ≠ 3) : hsN N K E L a b = N a b := by
  unfold hsN
  split <;> first | rfl | omega
theorem CV.hs {σ σ1 : St} {N : Nat → Nat → Nat} {z : Int32} {wt : Nat → Int32} {tx : Nat → Nat → Int32} {K E L : Nat → Nat} (h : CV 0 σ N z wt tx) (r : ∀ q, (1 ≤ q ∧ q ≤ 7) ∨ q = 12 ∨ q = 13 → σ1 q = σ q) (hv : ∀ j, j < N 0 0 → σ1 9 j = nI (K j) ∧ σ1 10 j = nI (E j) ∧ σ1 11 j = nI (L j)) : CV 0 σ1 (hsN N K E L) z wt tx := by
  obtain ⟨a1, a2, a3, a4, a5, a6, a7, a8, a9, a10⟩ := h
  have r1 := r 1 (by omega)
  refine ⟨?_, ?_, ?_, ?_, ?_, ?_, fun j hj => ?_, fun j hj => ?_, fun j hj => ?_, fun u hu => ⟨?_, fun j hj => ?_⟩⟩
  · rw [r1]; exact a1
  · rw [r1]; exact a2
  · rw [r1]; exact a3
  · rw [r1]; exact a4
  · rw [r1]; exact a5
  · rw [r _ (by omega)]; exact a6
  · exact ⟨(hv j hj).1, (hv j hj).2.1, (hv j hj).2.2, by rw [r _ (by omega)]; exact (a7 j hj).2.2.2⟩
  · rw [r _ (by omega)]; exact a8 j hj
  · rw [r _ (by omega)]; exact a9 j hj
  · rw [r _ (by omega)]; exact (a10 u hu).1
  · rw [r _ (by omega)]; exact (a10 u hu).2 j hj
theorem MV.hs {σ σ1 : St} {N : Nat → Nat → Nat} {z : Int32} {wt : Nat → Int32} {tx : Nat → Nat → Int32} {K E L : Nat → Nat} (h : MV 67 σ N z wt tx) (h10 : N 0 0 ≤ 10) (r : ∀ k, k < 8 ∨ 48 ≤ k ∨ k % 4 = 3 → σ1 67 k = σ 67 k) (hv : ∀ j, j < N 0 0 → σ1 67 (8 + 4 * j) = nI (K j) ∧ σ1 67 (9 + 4 * j) = nI (E j) ∧ σ1 67 (10 + 4 * j) = nI (L j)) : MV 67 σ1 (hsN N K E L) z wt tx := by
  obtain ⟨a1, a2, a3, a4, a5, a6, a7, a8, a9, a10⟩ := h
  refine ⟨?_, ?_, ?_, ?_, ?_, ?_, fun j hj => ?_, fun j hj => ?_, fun j hj => ?_, fun u hu => ⟨?_, fun j hj => ?_⟩⟩
  · rw [r _ (by omega)]; exact a1
  · rw [r _ (by omega)]; exact a2
  · rw [r _ (by omega)]; exact a3
  · rw [r _ (by omega)]; exact a4
  · rw [r _ (by omega)]; exact a5
  · rw [r _ (by omega)]; exact a6
  · exact ⟨(hv j hj).1, (hv j hj).2.1, (hv j hj).2.2, by rw [r _ (by omega)]; exact (a7 j hj).2.2.2⟩
  · rw [r _ (by omega)]; exact a8 j hj
  · rw [r _ (by omega)]; exact a9 j hj
  · rw [r _ (by omega)]; exact (a10 u hu).1
  · rw [r _ (by omega), r _ (by omega)]; exact (a10 u hu).2 j hj
theorem OKN.hs {N : Nat → Nat → Nat} {tx : Nat → Nat → Int32} {K E L : Nat → Nat} (h : OKN N tx) (hv : ∀ j, j < N 0 0 → K j < 7 ∧ E j < 10 ∧ 1 ≤ L j ∧ L j ≤ 999) : OKN (hsN N K E L) tx := by
  obtain ⟨a1, a2, a3, a4, a5, a6, a7, a8⟩ := h
  exact ⟨a1, a2, a3, a4, a5, fun j hj => ⟨(hv j hj).1, (hv j hj).2.1, (hv j hj).2.2.1, (hv j hj).2.2.2, (a6 j hj).2.2.2.2⟩, a7, a8⟩
theorem irm_nI {a d : Nat} (ha : a < 2 ^ 31) (h0 : 0 < d) (hd : d < 2 ^ 31) : irm (nI a) (nI d) = nI (a % d) := pk_rem ha h0 hd
theorem uf_s {f : Nat → Nat} {i v : Nat} : (fun j => if j = i then v else f j) i = v := if_pos rfl
theorem P_become {σ : St} (hI : Inv σ) (x0 : Int32) (x1 : Int32) : ∃ (r : Int32) (σ1 σ2 : St), f_X6_become x0 x1 σ = some (r, σ1) ∧ f_X7_become x0 x1 σ1 = some (r, σ2) ∧ Inv σ2 := by
  obtain ⟨⟨N, z, wt, tx, hC, hM, hK⟩, -⟩ := id hI
  have h10 := hK.n
  by_cases hv : isR 0 (N 0 0) x0
  · obtain ⟨h, -, hh, rfl⟩ := id hv
    by_cases hw : isR 0 70 x1
    · obtain ⟨v, -, hv2, rfl⟩ := id hw
      have e1 : (nI v / 10 : Int32) = nI (v / 10) := pk_div (by omega) (by decide) (by decide)
      have e2 : irm (nI v) 10 = nI (v % 10) := irm_nI (by omega) (by decide) (by decide)
      refine ⟨nI (N 1 h), st (st σ 9 h (nI (v / 10))) 10 h (nI (v % 10)), st (st (st (st σ 9 h (nI (v / 10))) 10 h (nI (v % 10))) 67 (8 + 4 * h + 1) (nI (v % 10))) 67 (8 + 4 * h) (nI (v / 10)), ?_, ?_, ?_⟩
      · refine ob_i (hasHouse_t hC.n h10 hv) (ite_n (by decide) (ob_i (isKm_t hw) (ite_n (by decide) (ob_i (c_kind hC.n h10 hh) (ob_i (c_setKind hC.n h10 hh) ?_)))))
        rw [hC.kd hh, e1, e2]
      · refine ob_i (m_isHouse_t (n := N 0 0) ?_ h10 hv) (ite_n (by decide) (ob_i (isKind_t hw) (ite_n (by decide) (ob_i (m_lays1 (w := 1) (by omega) (by decide)) ?_))))
        · rw [st_c (by decide), st_c (by decide)]; exact hM.n
        · rw [show ((8 + 4 * nI h) + 0 : Int32) = nI (8 + 4 * h + 0) from ix4 (w := 0) (by omega) (by decide), e1, e2]
          refine ob_i (m_change1 (by omega)) ?_
          rw [st_k (by omega), st_c (by decide), st_c (by decide), show 8 + 4 * h + 0 = 8 + 4 * h from rfl, hM.kd hh]
      · refine hI.main (eqm (eqm (eqm (eqm Eqo.rf (by omega)) (by omega)) (by omega)) (by omega)) ⟨hsN N (fun j => if j = h then v / 10 else N 1 j) (fun j => if j = h then v % 10 else N 2 j) (N 3), z, wt, tx, hC.hs (fun q hq => ?_) (fun j hj => ?_), hM.hs h10 (fun k hk => ?_) (fun j hj => ?_), hK.hs (fun j hj => ?_)⟩
        · rw [st_c (by omega), st_c (by omega), st_c (by omega), st_c (by omega)]
        · by_cases e : j = h
          · subst e
            rw [if_pos rfl, if_pos rfl]
            simp (disch := omega) only [Nat.add_zero, st_c, st_k, st_s]
            exact ⟨trivial, trivial, hC.pl hj⟩
          · rw [if_neg e, if_neg e]
            simp (disch := omega) only [Nat.add_zero, st_c, st_k, st_s]
            exact ⟨hC.kd hj, hC.em hj, hC.pl hj⟩
        · rw [st_k (by omega), st_k (by omega), st_c (by decide), st_c (by decide)]
        · by_cases e : j = h
          · subst e
            rw [if_pos rfl, if_pos rfl]
            refine ⟨st_s, ?_, ?_⟩
            · rw [st_k (by omega), show 8 + 4 * j + 1 = 9 + 4 * j by omega, st_s]
            · rw [st_k (by omega), st_k (by omega), st_c (by decide), st_c (by decide)]; exact hM.pl hj
          · rw [if_neg e, if_neg e]
            refine ⟨?_, ?_, ?_⟩ <;> rw [st_k (by omega), st_k (by omega), st_c (by decide), st_c (by decide)]
            · exact hM.kd hj
            · exact hM.em hj
            · exact hM.pl hj
        · obtain ⟨g1, g2, g3, g4, -⟩ := hK.h hj
          by_cases e : j = h
          · simp only [if_pos e]; omega
          · simp only [if_neg e]; omega
    · refine P_err (FC := f_X6_become (nI h) x1) (FM := f_X7_become (nI h) x1) (k := 1) hI ?_ ?_
      · exact ob_i (hasHouse_t hC.n h10 hv) (ite_n (by decide) (ob_i (isKm_f hw) (ite_p rfl (ob_i (p_failing (k := 1) (by decide)) rfl))))
      · exact ob_i (m_isHouse_t (by rw [eC_c (by decide)]; exact hM.n) h10 hv) (ite_n (by decide) (ob_i (isKind_f hw) (ite_p rfl (ob_i (p_error (k := 1) (by decide)) rfl))))
  · exact P_err (FC := f_X6_become x0 x1) (FM := f_X7_become x0 x1) (k := 1) hI (ob_i (hasHouse_f hC.n h10 hv) (ite_p rfl (ob_i (p_failing (k := 1) (by decide)) rfl))) (ob_i (m_isHouse_f (by rw [eC_c (by decide)]; exact hM.n) h10 hv) (ite_p rfl (ob_i (p_error (k := 1) (by decide)) rfl)))
theorem P_tell {σ : St} (hI : Inv σ) (x0 : Int32) : ∃ (r : Int32) (σ1 σ2 : St), f_X6_tell x0 σ = some (r, σ1) ∧ f_X7_tell x0 σ1 = some (r, σ2) ∧ Inv σ2 := by
  obtain ⟨⟨N, z, wt, tx, hC, hM, hK⟩, -⟩ := id hI
  have h24 := hK.w
  by_cases hv : N 0 3 < 24
  · refine ⟨nI (N 0 3 + 1), st (st σ 13 (N 0 3) x0) 1 5 (nI (N 0 3 + 1)), st (st (st (st σ 13 (N 0 3) x0) 1 5 (nI (N 0 3 + 1))) 67 (358 + N 0 3) x0) 67 4 (nI (N 0 3 + 1)), ?_, ?_, ?_⟩
    · unfold f_X6_tell f_X3_addWaiting
      rw [hC.w]
      refine ite_p (nI_lt (b := 24) hv (by decide)) (ob_i (r := nI (N 0 3 + 1)) (σ := st (st σ 13 (N 0 3) x0) 1 5 (nI (N 0 3 + 1))) (ite_n (nI_nn (by omega)) (ite_n (nI_ge (b := 24) hv (by decide)) (ite_p (inb_i hv (by decide)) (ol_i (ol_i ?_))))) rfl)
      rw [nI_clamp (by omega), st_s, st_c (by decide), hC.w, nI_1]
    · unfold f_X7_tell
      have e : (st (st σ 13 (N 0 3) x0) 1 5 (nI (N 0 3 + 1))) 67 4 = nI (N 0 3) := by
        rw [st_c (by decide), st_c (by decide)]; exact hM.w
      simp only [cl_lit (show 4 < 2 ^ 31 by decide), e]
      rw [show (358 + nI (N 0 3) : Int32) = nI (358 + N 0 3) from nI_add 358 _]
      refine ite_p (inb_l (by decide) (by decide)) (ite_n ?_ (ite_p (inb_l (by decide) (by decide)) (ite_p (inb_i (by omega) (by decide)) (ol_i (ite_p (inb_l (by decide) (by decide)) (ite_p (inb_l (by decide) (by decide)) (ol_i (ite_p (inb_l (by decide) (by decide)) ?_))))))))
      · rw [show (24 : Int32) = nI 24 from rfl, nI_eq (by omega) (by decide)]; omega
      · rw [nI_clamp (by omega), st_s, st_k (by omega), e, nI_1]
    · refine hI.main (eqm (eqm (eqm (eqm Eqo.rf (by omega)) (by omega)) (by omega)) (by omega)) ⟨uN N 0 3 (N 0 3 + 1), z, fun i => if i = N 0 3 then x0 else wt i, tx, ?_, ?_, ?_⟩
      · obtain ⟨a1, a2, a3, a4, a5, a6, a7, a8, a9, a10⟩ := hC
        refine ⟨?_, ?_, ?_, ?_, ?_, ?_, fun j hj => ?_, fun j hj => ?_, fun j hj => ?_, fun u hu => ⟨?_, fun j hj => ?_⟩⟩
        · simp (disch := omega) only [Nat.add_zero, st_c, st_k, st_s]; exact a1
        · simp (disch := omega) only [Nat.add_zero, st_c, st_k, st_s]; exact a2
        · simp (disch := omega) only [Nat.add_zero, st_c, st_k, st_s]; exact a3
        · simp (disch := omega) only [Nat.add_zero, st_c, st_k, st_s]; exact a4
        · simp (disch := omega) only [Nat.add_zero, st_c, st_k, st_s]; rfl
        · simp (disch := omega) only [Nat.add_zero, st_c, st_k, st_s]; exact a6
        · simp (disch := omega) only [Nat.add_zero, st_c, st_k, st_s]; exact a7 j hj
        · show _ = if j = N 0 3 then x0 else wt j
          simp (disch := omega) only [Nat.add_zero, st_c, st_k, st_s]
          by_cases ej : j = N 0 3
          · rw [if_pos ej, ej, st_s]
          · rw [if_neg ej, st_k ej]
            exact a8 j (by have : j < N 0 3 + 1 := hj; omega)
        · simp (disch := omega) only [Nat.add_zero, st_c, st_k, st_s]; exact a9 j hj
        · simp (disch := omega) only [Nat.add_zero, st_c, st_k, st_s]; exact (a10 u hu).1
        · simp (disch := omega) only [Nat.add_zero, st_c, st_k, st_s]; exact (a10 u hu).2 j hj
      · obtain ⟨a1, a2, a3, a4, a5, a6, a7, a8, a9, a10⟩ := hM
        have t60 : ∀ u, u < 2 → ∀ j, j < N 7 u → j < 60 := fun u hu j hj => by have := hK.tn hu; omega
        have h10 := hK.n
        have h60 := hK.t
        refine ⟨?_, ?_, ?_, ?_, ?_, ?_, fun j hj => ?_, fun j hj => ?_, fun j hj => ?_, fun u hu => ⟨?_, fun j hj => ?_⟩⟩
        · simp (disch := omega) only [Nat.add_zero, st_c, st_k, st_s]; exact a1
        · simp (disch := omega) only [Nat.add_zero, st_c, st_k, st_s]; exact a2
        · simp (disch := omega) only [Nat.add_zero, st_c, st_k, st_s]; exact a3
        · simp (disch := omega) only [Nat.add_zero, st_c, st_k, st_s]; exact a4
        · simp (disch := omega) only [Nat.add_zero, st_c, st_k, st_s]; rfl
        · simp (disch := omega) only [Nat.add_zero, st_c, st_k, st_s]; exact a6
        · have hj2 : j < N 0 0 := hj
          simp (disch := omega) only [Nat.add_zero, st_c, st_k, st_s]; exact a7 j hj
        · show _ = if j = N 0 3 then x0 else wt j
          by_cases ej : j = N 0 3
          · rw [if_pos ej, ej]; simp (disch := omega) only [Nat.add_zero, st_c, st_k, st_s]
          · have hj2 : j < N 0 3 + 1 := hj
            rw [if_neg ej]; simp (disch := omega) only [Nat.add_zero, st_c, st_k, st_s]
            exact a8 j (by omega)
        · have hj2 : j < N 0 4 := hj
          simp (disch := omega) only [Nat.add_zero, st_c, st_k, st_s]; exact a9 j hj
        · simp (disch := omega) only [Nat.add_zero, st_c, st_k, st_s]; exact (a10 u hu).1
        · have := t60 u hu j hj
          simp (disch := omega) only [Nat.add_zero, st_c, st_k, st_s]; exact (a10 u hu).2 j hj
      · obtain ⟨a1, a2, a3, a4, a5, a6, a7, a8⟩ := hK
        exact ⟨a1, a2, a3, (show N 0 3 + 1 ≤ 24 by omega), a5, a6, a7, a8⟩
  · have e : N 0 3 = 24 := by omega
    refine P_err (k := 4) hI ?_ ?_
    · unfold f_X6_tell
      rw [hC.w, e]
      exact ite_n (by decide) (ob_i (p_failing (k := 4) (by decide)) rfl)
    · unfold f_X7_tell
      refine ite_p (inb_l (by decide) (by decide)) (ite_p ?_ (ob_i (p_error (k := 4) (by decide)) rfl))
      rw [cl_lit (by decide), eC_c (by decide), hM.w, e]
      rfl
theorem P_check {σ : St} (hI : Inv σ)  : ∃ (r : Int32) (σ1 σ2 : St), f_X6_check  σ = some (r, σ1) ∧ f_X7_check  σ1 = some (r, σ2) ∧ Inv σ2 := by
  obtain ⟨⟨N, z, wt, tx, hC, hM, hK⟩, -⟩ := id hI
  have h24 := hK.w
  have h10 := hK.n
  let s1 := st σ 1 5 0
  let s2 := st s1 67 4 0
  have j1 : s2 67 5 = nI (N 0 0) := by
    show st (st σ 1 5 0) 67 4 0 67 5 = _
    simp (disch := omega) only [Nat.add_zero, st_c, st_k, st_s]
    exact hM.n
  have j2 : s1 1 1 = nI (N 0 0) := by
    show st σ 1 5 0 1 1 = _
    simp (disch := omega) only [Nat.add_zero, st_c, st_k, st_s]
    exact hC.n
  have lp : ∀ k i : Nat, i ≤ N 0 3 → N 0 3 < k + i → ∃ r : Int32, f_X6_check_L18 k (nI (N 0 3)) (nI i) s1 = some (r, s1) ∧ f_X7_check_L16 k (nI (N 0 3)) (nI i) s2 = some (r, s2) := by
    intro k
    induction k with
    | zero => intro i h1 h2; omega
    | succ k ih =>
      intro i h1 h2
      show ∃ r : Int32, f_X6_check_b18 (f_X6_check_L18 k) (nI (N 0 3)) (nI i) s1 = some (r, s1) ∧ f_X7_check_b16 (f_X7_check_L16 k) (nI (N 0 3)) (nI i) s2 = some (r, s2)
      by_cases e : i = N 0 3
      · exact ⟨0, ite_p (nI_le (by omega) (by omega)) rfl, ite_p (nI_le (by omega) (by omega)) rfl⟩
      · have hw1 : f_X3_waitingAt (nI i) s1 = some (wt i, s1) := by
          refine ite_n (nI_nn (by omega)) (ite_n (nI_ge (b := 24) (by omega) (by decide)) (ite_p (inb_i (by omega) (by decide)) ?_))
          rw [nI_clamp (by omega), show s1 13 i = σ 13 i from congrFun (st_c (by decide)) i, hC.wt (by omega)]
        have hw2 : s2 67 (358 + i) = wt i := by
          show st (st σ 1 5 0) 67 4 0 67 (358 + i) = _
          simp (disch := omega) only [Nat.add_zero, st_c, st_k, st_s]
          exact hM.wt (by omega)
        by_cases hh : i < N 0 0
        · have hp1 : f_X3_plate (nI i) s1 = some (nI (N 3 i), s1) := by
            rw [c_plate j2 h10 hh, show s1 11 i = σ 11 i from congrFun (st_c (by decide)) i, hC.pl hh]
          have hp2 : f_X7_its (nI i) 2 s2 = some (nI (N 3 i), s2) := by
            refine (m_its (w := 2) (by omega) (by decide)).trans ?_
            rw [show s2 67 (8 + 4 * i + 2) = σ 67 (10 + 4 * i) by
              show st (st σ 1 5 0) 67 4 0 67 _ = _
              rw [show 8 + 4 * i + 2 = 10 + 4 * i by omega]
              simp (disch := omega) only [Nat.add_zero, st_c, st_k, st_s], hM.pl hh]
          have e2 : (358 + nI i : Int32) = nI (358 + i) := nI_add 358 i
          by_cases q : wt i = nI (N 3 i)
          · obtain ⟨r, g1, g2⟩ := ih (i + 1) (by omega) (by omega)
            refine ⟨r, ite_n (nI_ge (by omega) (by omega)) (ob_i (hasHouse_t j2 h10 (isR_n hh)) (ite_n (by decide) (ob_i hw1 (ob_i hp1 (ite_p q ?_))))), ite_n (nI_ge (by omega) (by omega)) (ob_i (m_isHouse_t j1 h10 (isR_n hh)) (ite_n (by decide) ?_))⟩
            · rw [nI_1]; exact g1
            · rw [e2]
              refine ite_p (inb_i (by omega) (by decide)) (ob_i hp2 (ite_p ?_ ?_))
              · rw [nI_clamp (by omega), hw2]; exact q
              · rw [nI_1]; exact g2
          · refine ⟨_, ite_n (nI_ge (by omega) (by omega)) (ob_i (hasHouse_t j2 h10 (isR_n hh)) (ite_n (by decide) (ob_i hw1 (ob_i hp1 (ite_n q rfl))))), ite_n (nI_ge (by omega) (by omega)) (ob_i (m_isHouse_t j1 h10 (isR_n hh)) (ite_n (by decide) ?_))⟩
            rw [e2]
            refine ite_p (inb_i (by omega) (by decide)) (ob_i hp2 (ite_n ?_ rfl))
            rw [nI_clamp (by omega), hw2]; exact q
        · have hv : ¬ isR 0 (N 0 0) (nI i) := by
            rw [isR_iff (by omega), nI_toInt (by omega)]
            omega
          exact ⟨_, ite_n (nI_ge (by omega) (by omega)) (ob_i (hasHouse_f j2 h10 hv) (ite_p rfl rfl)), ite_n (nI_ge (by omega) (by omega)) (ob_i (m_isHouse_f j1 h10 hv) (ite_p rfl rfl))⟩
  obtain ⟨r, g1, g2⟩ := lp LF 0 (by omega) (by unfold LF; omega)
  refine ⟨r, s1, s2, ?_, ?_, ?_⟩
  · unfold f_X6_check
    rw [hC.w]
    exact ol_i g1
  · refine ite_p (inb_l (by decide) (by decide)) (ite_p (inb_l (by decide) (by decide)) (ol_i ?_))
    rw [cl_lit (by decide), show s1 67 4 = σ 67 4 from congrFun (st_c (by decide)) 4, hM.w]
    exact g2
  · show Inv (st (st σ 1 5 0) 67 4 0)
    refine hI.main (eqm (eqm Eqo.rf (by omega)) (by omega)) ⟨uN N 0 3 0, z, wt, tx, ?_, ?_, ?_⟩
    · obtain ⟨a1, a2, a3, a4, a5, a6, a7, a8, a9, a10⟩ := hC
      refine ⟨?_, ?_, ?_, ?_, ?_, ?_, fun j hj => ?_, fun j hj => absurd hj (Nat.not_lt_zero _), fun j hj => ?_, fun u hu => ⟨?_, fun j hj => ?_⟩⟩
      · simp (disch := omega) only [Nat.add_zero, st_c, st_k, st_s]; exact a1
      · simp (disch := omega) only [Nat.add_zero, st_c, st_k, st_s]; exact a2
      · simp (disch := omega) only [Nat.add_zero, st_c, st_k, st_s]; exact a3
      · simp (disch := omega) only [Nat.add_zero, st_c, st_k, st_s]; exact a4
      · simp (disch := omega) only [Nat.add_zero, st_c, st_k, st_s]; rfl
      · simp (disch := omega) only [Nat.add_zero, st_c, st_k, st_s]; exact a6
      · simp (disch := omega) only [Nat.add_zero, st_c, st_k, st_s]; exact a7 j hj
      · simp (disch := omega) only [Nat.add_zero, st_c, st_k, st_s]; exact a9 j hj
      · simp (disch := omega) only [Nat.add_zero, st_c, st_k, st_s]; exact (a10 u hu).1
      · simp (disch := omega) only [Nat.add_zero, st_c, st_k, st_s]; exact (a10 u hu).2 j hj
    · obtain ⟨a1, a2, a3, a4, a5, a6, a7, a8, a9, a10⟩ := hM
      refine ⟨?_, ?_, ?_, ?_, ?_, ?_, fun j hj => ?_, fun j hj => absurd hj (Nat.not_lt_zero _), fun j hj => ?_, fun u hu => ⟨?_, fun j hj => ?_⟩⟩
      · simp (disch := omega) only [Nat.add_zero, st_c, st_k, st_s]; exact a1
      · simp (disch := omega) only [Nat.add_zero, st_c, st_k, st_s]; exact a2
      · simp (disch := omega) only [Nat.add_zero, st_c, st_k, st_s]; exact a3
      · simp (disch := omega) only [Nat.add_zero, st_c, st_k, st_s]; exact a4
      · simp (disch := omega) only [Nat.add_zero, st_c, st_k, st_s]; rfl
      · simp (disch := omega) only [Nat.add_zero, st_c, st_k, st_s]; exact a6
      · simp (disch := omega) only [Nat.add_zero, st_c, st_k, st_s]; exact a7 j hj
      · simp (disch := omega) only [Nat.add_zero, st_c, st_k, st_s]; exact a9 j hj
      · simp (disch := omega) only [Nat.add_zero, st_c, st_k, st_s]; exact (a10 u hu).1
      · simp (disch := omega) only [Nat.add_zero, st_c, st_k, st_s]; exact (a10 u hu).2 j hj
    · obtain ⟨a1, a2, a3, a4, a5, a6, a7, a8⟩ := hK
      exact ⟨a1, a2, a3, (show 0 ≤ 24 by omega), a5, a6, a7, a8⟩
theorem m_hasText {σ : St} {N : Nat → Nat → Nat} {z : Int32} {wt : Nat → Int32} {tx : Nat → Nat → Int32} {u : Nat} (hM : MV 67 σ N z wt tx) (hK : OKN N tx) (hu : u < 2) : f_X7_hasText (nI u) σ = some (if N 7 u = 0 then 0 else 1, σ) := by
  unfold f_X7_hasText
  have := hK.tn hu
  rw [show (48 + 125 * nI u : Int32) = nI (48 + 125 * u) by
    show nI 48 + nI 125 * nI u = _
    rw [pk_mul, nI_add]]
  refine ite_p (inb_i (by omega) (by decide)) ?_
  rw [nI_clamp (by omega), hM.tn hu, show (0 : Int32) = nI 0 from rfl]
  by_cases h0 : N 7 u = 0
  · rw [if_pos h0]
    exact ite_p (nI_le (by omega) (by omega)) rfl
  · rw [if_neg h0]
    exact ite_n (nI_ge (by omega) (by omega)) rfl
theorem P_untell {σ : St} (hI : Inv σ) (x0 : Int32) : ∃ (r : Int32) (σ1 σ2 : St), f_X6_untell x0 σ = some (r, σ1) ∧ f_X7_untell x0 σ1 = some (r, σ2) ∧ Inv σ2 := by
  obtain ⟨⟨N, z, wt, tx, hC, hM, hK⟩, -⟩ := id hI
  by_cases hv : isR 0 2 x0
  · obtain ⟨u, -, hu, rfl⟩ := id hv
    have h60 := hK.tn hu
    have hm : ∀ (s : St), MV 67 s N z wt tx → f_X7_untell (nI u) s = some (if N 7 u = 0 then 0 else 1, st s 67 (48 + 125 * u) 0) := by
      intro s hs
      refine ob_i (in_t hv (by decide) rfl rfl) (ite_n (by decide) (ob_i (m_hasText hs hK hu) ?_))
      rw [show (48 + 125 * nI u : Int32) = nI (48 + 125 * u) by
        show nI 48 + nI 125 * nI u = _
        rw [pk_mul, nI_add]]
      simp (disch := omega) only [nI_clamp]
      by_cases h0 : N 7 u = 0
      · rw [if_pos h0]
        exact ite_p rfl (ite_p (inb_i (by omega) (by decide)) (ol_i rfl))
      · rw [if_neg h0]
        exact ite_n (by decide) (ite_p (inb_i (by omega) (by decide)) (ol_i rfl))
    have hi : ∀ s : St, CV 0 s (uN N 7 u 0) z wt tx → Eqo mnP σ s → s 67 = σ 67 → Inv (st s 67 (48 + 125 * u) 0) := by
      intro s hs he h67
      refine hI.main (eqm he (by omega)) ⟨uN N 7 u 0, z, wt, tx, hs.fr (fun q hq => st_c (by omega)), ?_, ?_⟩
      · obtain ⟨a1, a2, a3, a4, a5, a6, a7, a8, a9, a10⟩ := hM
        have h10 := hK.n
        refine ⟨?_, ?_, ?_, ?_, ?_, ?_, fun j hj => ?_, fun j hj => ?_, fun j hj => ?_, fun w hw => ?_⟩
        · simp (disch := omega) only [Nat.add_zero, st_c, st_k, st_s]; rw [h67]; exact a1
        · simp (disch := omega) only [Nat.add_zero, st_c, st_k, st_s]; rw [h67]; exact a2
        · simp (disch := omega) only [Nat.add_zero, st_c, st_k, st_s]; rw [h67]; exact a3
        · simp (disch := omega) only [Nat.add_zero, st_c, st_k, st_s]; rw [h67]; exact a4
        · simp (disch := omega) only [Nat.add_zero, st_c, st_k, st_s]; rw [h67]; exact a5
        · simp (disch := omega) only [Nat.add_zero, st_c, st_k, st_s]; rw [h67]; exact a6
        · have hj2 : j < N 0 0 := hj
          simp (disch := omega) only [Nat.add_zero, st_c, st_k, st_s]; rw [h67]; exact a7 j hj
        · simp (disch := omega) only [Nat.add_zero, st_c, st_k, st_s]; rw [h67]; exact a8 j hj
        · simp (disch := omega) only [Nat.add_zero, st_c, st_k, st_s]; rw [h67]; exact a9 j hj
        · by_cases ew : w = u
          · subst ew
            rw [uN_s]
            exact ⟨st_s, fun j hj => absurd hj (Nat.not_lt_zero _)⟩
          · rw [uN_n (by omega)]
            refine ⟨?_, fun j hj => ?_⟩
            · simp (disch := omega) only [Nat.add_zero, st_c, st_k, st_s]; rw [h67]; exact (a10 w hw).1
            · have := hK.tn hw
              simp (disch := omega) only [Nat.add_zero, st_c, st_k, st_s]; rw [h67]; exact (a10 w hw).2 j hj
      · obtain ⟨a1, a2, a3, a4, a5, a6, a7, a8⟩ := hK
        refine ⟨a1, a2, a3, a4, a5, a6, a7, fun w hw => ?_⟩
        by_cases ew : w = u
        · subst ew
          rw [uN_s]
          exact ⟨by decide, fun h => absurd rfl h⟩
        · rw [uN_n (by omega)]
          exact a8 w hw
    by_cases h0 : N 7 u = 0
    · refine ⟨0, σ, st σ 67 (48 + 125 * u) 0, ?_, ?_, hi σ ?_ Eqo.rf rfl⟩
      · refine ob_i (isUse_t hv) (ite_n (by decide) (ob_i (ob_i (isUse_t hv) (ite_n (by decide) (ite_p (inb_i hu (by decide)) (ite_p ?_ (ite_p rfl rfl))))) (ite_p rfl rfl)))
        rw [nI_clamp (by omega), hC.tn hu, h0]
        decide
      · rw [hm σ hM, if_pos h0]
      · rw [show uN N 7 u 0 = N by rw [← h0]; exact uN_id]
        exact hC
    · refine ⟨1, st σ 7 u 0, st (st σ 7 u 0) 67 (48 + 125 * u) 0, ?_, ?_, hi _ ?_ (eqm Eqo.rf (by omega)) (st_c (by decide))⟩
      · refine ob_i (isUse_t hv) (ite_n (by decide) (ob_i (σ := st σ 7 u 0) (r := 1) (ob_i (isUse_t hv) (ite_n (by decide) (ite_p (inb_i hu (by decide)) (ite_n ?_ (ite_n (by decide) (ite_p (inb_i hu (by decide)) (ol_i ?_))))))) (ite_n (by decide) rfl)))
        · rw [nI_clamp (by omega), hC.tn hu]
          exact nI_nle (by omega) (by omega)
        · rw [nI_clamp (by omega)]
      · rw [hm _ (hM.fr (st_c (by decide))), if_neg h0]
      · obtain ⟨a1, a2, a3, a4, a5, a6, a7, a8, a9, a10⟩ := hC
        refine ⟨?_, ?_, ?_, ?_, ?_, ?_, fun j hj => ?_, fun j hj => ?_, fun j hj => ?_, fun w hw => ?_⟩
        · simp (disch := omega) only [Nat.add_zero, st_c, st_k, st_s]; exact a1
        · simp (disch := omega) only [Nat.add_zero, st_c, st_k, st_s]; exact a2
        · simp (disch := omega) only [Nat.add_zero, st_c, st_k, st_s]; exact a3
        · simp (disch := omega) only [Nat.add_zero, st_c, st_k, st_s]; exact a4
        · simp (disch := omega) only [Nat.add_zero, st_c, st_k, st_s]; exact a5
        · simp (disch := omega) only [Nat.add_zero, st_c, st_k, st_s]; exact a6
        · simp (disch := omega) only [Nat.add_zero, st_c, st_k, st_s]; exact a7 j hj
        · simp (disch := omega) only [Nat.add_zero, st_c, st_k, st_s]; exact a8 j hj
        · simp (disch := omega) only [Nat.add_zero, st_c, st_k, st_s]; exact a9 j hj
        · by_cases ew : w = u
          · subst ew
            rw [uN_s]
            exact ⟨st_s, fun j hj => absurd hj (Nat.not_lt_zero _)⟩
          · rw [uN_n (by omega)]
            refine ⟨?_, fun j hj => ?_⟩
            · simp (disch := omega) only [Nat.add_zero, st_c, st_k, st_s]; exact (a10 w hw).1
            · simp (disch := omega) only [Nat.add_zero, st_c, st_k, st_s]; exact (a10 w hw).2 j hj
  · exact P_err (FC := f_X6_untell x0) (FM := f_X7_untell x0) (k := 1) hI (ob_i (isUse_f hv) (ite_p rfl (ob_i (p_failing (k := 1) (by decide)) rfl))) (ob_i (in_f hv (by decide) rfl rfl) (ite_p rfl (ob_i (p_error (k := 1) (by decide)) rfl)))
