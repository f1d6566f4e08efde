/-! The single acts that need neither texts nor sums -/
section AC
variable {σ : St} {N : Nat → Nat → Nat} {zz : Int32} {ww : Nat → Int32} {xx : Nat → Nat → Int32}
theorem CV.n (h : CV 0 σ N zz ww xx) : σ 1 1 = nI (N 0 0) := h.1
theorem CV.y (h : CV 0 σ N zz ww xx) : σ 1 2 = nI (N 0 1) := h.2.1
theorem CV.d (h : CV 0 σ N zz ww xx) : σ 1 3 = nI (N 0 2) := h.2.2.1
theorem CV.z (h : CV 0 σ N zz ww xx) : σ 1 4 = zz := h.2.2.2.1
theorem CV.w (h : CV 0 σ N zz ww xx) : σ 1 5 = nI (N 0 3) := h.2.2.2.2.1
theorem CV.t (h : CV 0 σ N zz ww xx) : σ 2 1 = nI (N 0 4) := h.2.2.2.2.2.1
theorem CV.kd (h : CV 0 σ N zz ww xx) {j : Nat} (hj : j < N 0 0) : σ 9 j = nI (N 1 j) := (h.2.2.2.2.2.2.1 j hj).1
theorem CV.em (h : CV 0 σ N zz ww xx) {j : Nat} (hj : j < N 0 0) : σ 10 j = nI (N 2 j) := (h.2.2.2.2.2.2.1 j hj).2.1
theorem CV.pl (h : CV 0 σ N zz ww xx) {j : Nat} (hj : j < N 0 0) : σ 11 j = nI (N 3 j) := (h.2.2.2.2.2.2.1 j hj).2.2.1
theorem CV.rw (h : CV 0 σ N zz ww xx) {j : Nat} (hj : j < N 0 0) : σ 12 j = nI (N 5 j) := (h.2.2.2.2.2.2.1 j hj).2.2.2
theorem CV.wt (h : CV 0 σ N zz ww xx) {j : Nat} (hj : j < N 0 3) : σ 13 j = ww j := h.2.2.2.2.2.2.2.1 j hj
theorem CV.tp (h : CV 0 σ N zz ww xx) {j : Nat} (hj : j < N 0 4) : σ 3 j = nI (N 6 j) := h.2.2.2.2.2.2.2.2.1 j hj
theorem CV.tn (h : CV 0 σ N zz ww xx) {u : Nat} (hu : u < 2) : σ 7 u = nI (N 7 u) := (h.2.2.2.2.2.2.2.2.2 u hu).1
theorem CV.tx (h : CV 0 σ N zz ww xx) {u j : Nat} (hu : u < 2) (hj : j < N 7 u) : σ (5 + u) j = xx u j := (h.2.2.2.2.2.2.2.2.2 u hu).2 j hj
theorem MV.n (h : MV 67 σ N zz ww xx) : σ 67 5 = nI (N 0 0) := h.1
theorem MV.y (h : MV 67 σ N zz ww xx) : σ 67 0 = nI (N 0 1) := h.2.1
theorem MV.d (h : MV 67 σ N zz ww xx) : σ 67 1 = nI (N 0 2) := h.2.2.1
theorem MV.z (h : MV 67 σ N zz ww xx) : σ 67 2 = zz := h.2.2.2.1
theorem MV.w (h : MV 67 σ N zz ww xx) : σ 67 4 = nI (N 0 3) := h.2.2.2.2.1
theorem MV.t (h : MV 67 σ N zz ww xx) : σ 67 3 = nI (N 0 4) := h.2.2.2.2.2.1
theorem MV.kd (h : MV 67 σ N zz ww xx) {j : Nat} (hj : j < N 0 0) : σ 67 (8 + 4 * j) = nI (N 1 j) := (h.2.2.2.2.2.2.1 j hj).1
theorem MV.em (h : MV 67 σ N zz ww xx) {j : Nat} (hj : j < N 0 0) : σ 67 (9 + 4 * j) = nI (N 2 j) := (h.2.2.2.2.2.2.1 j hj).2.1
theorem MV.pl (h : MV 67 σ N zz ww xx) {j : Nat} (hj : j < N 0 0) : σ 67 (10 + 4 * j) = nI (N 3 j) := (h.2.2.2.2.2.2.1 j hj).2.2.1
theorem MV.pc (h : MV 67 σ N zz ww xx) {j : Nat} (hj : j < N 0 0) : σ 67 (11 + 4 * j) = nI (N 4 j) := (h.2.2.2.2.2.2.1 j hj).2.2.2
theorem MV.wt (h : MV 67 σ N zz ww xx) {j : Nat} (hj : j < N 0 3) : σ 67 (358 + j) = ww j := h.2.2.2.2.2.2.2.1 j hj
theorem MV.tp (h : MV 67 σ N zz ww xx) {j : Nat} (hj : j < N 0 4) : σ 67 (298 + j) = nI (N 6 j) := h.2.2.2.2.2.2.2.2.1 j hj
theorem MV.tn (h : MV 67 σ N zz ww xx) {u : Nat} (hu : u < 2) : σ 67 (48 + 125 * u) = nI (N 7 u) := (h.2.2.2.2.2.2.2.2.2 u hu).1
theorem MV.tw (h : MV 67 σ N zz ww xx) {u j : Nat} (hu : u < 2) (hj : j < N 7 u) : σ 67 (49 + 125 * u + 2 * j) = mW (xx u j) := ((h.2.2.2.2.2.2.2.2.2 u hu).2 j hj).1
theorem MV.ta (h : MV 67 σ N zz ww xx) {u j : Nat} (hu : u < 2) (hj : j < N 7 u) : σ 67 (50 + 125 * u + 2 * j) = mA u (xx u j) := ((h.2.2.2.2.2.2.2.2.2 u hu).2 j hj).2
theorem OKN.n (h : OKN N xx) : N 0 0 ≤ 10 := h.1
theorem OKN.y (h : OKN N xx) : N 0 1 ≤ 9999 := h.2.1
theorem OKN.d (h : OKN N xx) : N 0 2 ≤ 99999 := h.2.2.1
theorem OKN.w (h : OKN N xx) : N 0 3 ≤ 24 := h.2.2.2.1
theorem OKN.t (h : OKN N xx) : N 0 4 ≤ 60 := h.2.2.2.2.1
theorem OKN.h (h : OKN N xx) {j : Nat} (hj : j < N 0 0) : N 1 j < 7 ∧ N 2 j < 10 ∧ 1 ≤ N 3 j ∧ N 3 j ≤ 999 ∧ N 4 j < N 0 0 ∧ N 5 j < N 0 0 ∧ N 5 (N 4 j) = j ∧ N 4 (N 5 j) = j := h.2.2.2.2.2.1 j hj
theorem OKN.tp (h : OKN N xx) {j : Nat} (hj : j < N 0 4) : N 6 j < 256 := h.2.2.2.2.2.2.1 j hj
theorem OKN.tn (h : OKN N xx) {u : Nat} (hu : u < 2) : N 7 u ≤ 60 := (h.2.2.2.2.2.2.2 u hu).1
theorem OKN.wf (h : OKN N xx) {u : Nat} (hu : u < 2) (h0 : N 7 u ≠ 0) : wfT (xx u) (N 7 u) := (h.2.2.2.2.2.2.2 u hu).2 h0
end AC
def uN (N : Nat → Nat → Nat) (i j v : Nat) : Nat → Nat → Nat := fun a b => if a = i ∧ b = j then v else N a b
theorem uN_s {N : Nat → Nat → Nat} {i j v : Nat} : uN N i j v i j = v := if_pos ⟨rfl, rfl⟩
theorem uN_n {N : Nat → Nat → Nat} {i j v a b : Nat} (h : ¬ (a = i ∧ b = j)) : uN N i j v a b = N a b := if_neg h
/-- what a change of the street may touch -/
def mnP (q k : Nat) : Bool := scr q k || (1 ≤ q && q ≤ 13) || q == 67
theorem mnP_f {q : Nat} (k : Nat) (h : q = 0 ∨ (14 ≤ q ∧ q ≤ 26 ∧ q ≠ 21) ∨ (56 ≤ q ∧ q ≤ 65) ∨ q = 68 ∨ q = 69 ∨ (75 ≤ q ∧ q ≤ 78)) : mnP q k = false := by
  unfold mnP
  rw [scr_f k (by omega)]
  have h1 : (decide (1 ≤ q) && decide (q ≤ 13)) = false := by simp; omega
  have h2 : (q == 67) = false := by simp; omega
  rw [h1, h2]
  rfl
theorem mnP_s {q k : Nat} (h : scr q k = true) : mnP q k = true := by unfold mnP; rw [h]; rfl
theorem Inv.main {σ σ1 : St} (hI : Inv σ) (e : Eqo mnP σ σ1) (h : IMain 0 67 σ1) : Inv σ1 := by
  obtain ⟨-, h2, h3, h4, h5⟩ := hI
  have r : ∀ q, (q = 0 ∨ (14 ≤ q ∧ q ≤ 26 ∧ q ≠ 21) ∨ (56 ≤ q ∧ q ≤ 65) ∨ q = 68 ∨ q = 69 ∨ (75 ≤ q ∧ q ≤ 78)) → σ1 q = σ q := fun q hq => e.row (fun k => mnP_f k hq)
  exact ⟨h, h2.fr (r _ (by omega)) (r _ (by omega)), h3.fr (e _ _ rfl) (e _ _ rfl) (r _ (by omega)) (r _ (by omega)), h4.fr (fun q hq => r q (by omega)), h5.fr (by rw [r _ (by omega)]) (e _ _ rfl) (fun q hq => r q (by omega)) (r _ (by omega))⟩
theorem eqm {σ σ1 : St} {q k : Nat} {v : Int32} (h : Eqo mnP σ σ1) (hq : (1 ≤ q ∧ q ≤ 13) ∨ q = 67) : Eqo mnP σ (st σ1 q k v) := h.st (by
  unfold mnP
  rcases hq with hq | hq
  · rw [show (decide (1 ≤ q) && decide (q ≤ 13)) = true by simp; omega]
    simp
  · subst hq
    simp)
/-- YEAR, DONE and z as they become; all else stays -/
theorem CV.sc {σ σ1 : St} {N : Nat → Nat → Nat} {z z2 : Int32} {wt : Nat → Int32} {tx : Nat → Nat → Int32} {y d : Nat} (h : CV 0 σ N z wt tx) (r : ∀ q, 2 ≤ q → q ≤ 13 → q ≠ 8 → σ1 q = σ q) (h1 : σ1 1 1 = σ 1 1) (h5 : σ1 1 5 = σ 1 5) (hy : σ1 1 2 = nI y) (hd : σ1 1 3 = nI d) (hz : σ1 1 4 = z2) : CV 0 σ1 (uN (uN N 0 1 y) 0 2 d) z2 wt tx := by
  obtain ⟨a1, a2, a3, a4, a5, a6, a7, a8, a9, a10⟩ := h
  refine ⟨h1.trans a1, hy, hd, hz, h5.trans a5, by rw [r _ (by decide) (by decide) (by decide)]; exact a6, fun j hj => ?_, fun j hj => ?_, fun j hj => ?_, fun u hu => ⟨?_, fun j hj => ?_⟩⟩
  · rw [r _ (by decide) (by decide) (by decide), r _ (by decide) (by decide) (by decide), r _ (by decide) (by decide) (by decide), r _ (by decide) (by decide) (by decide)]
    exact a7 j hj
  · rw [r _ (by decide) (by decide) (by decide)]; exact a8 j hj
  · rw [r _ (by decide) (by decide) (by decide)]; exact a9 j hj
  · rw [r _ (by decide) (by decide) (by decide)]; exact (a10 u hu).1
  · rw [r _ (by omega) (by omega) (by omega)]; exact (a10 u hu).2 j hj
theorem MV.sc {σ σ1 : St} {N : Nat → Nat → Nat} {z z2 : Int32} {wt : Nat → Int32} {tx : Nat → Nat → Int32} {y d : Nat} (h : MV 67 σ N z wt tx) (r : ∀ k, 3 ≤ k → σ1 67 k = σ 67 k) (hy : σ1 67 0 = nI y) (hd : σ1 67 1 = nI d) (hz : σ1 67 2 = z2) : MV 67 σ1 (uN (uN N 0 1 y) 0 2 d) z2 wt tx := by
  obtain ⟨a1, a2, a3, a4, a5, a6, a7, a8, a9, a10⟩ := h
  refine ⟨by rw [r _ (by decide)]; exact a1, hy, hd, hz, by rw [r _ (by decide)]; exact a5, by rw [r _ (by decide)]; exact a6, fun j hj => ?_, fun j hj => ?_, fun j hj => ?_, fun u hu => ⟨?_, fun j hj => ?_⟩⟩
  · rw [r _ (by omega), r _ (by omega), r _ (by omega), r _ (by omega)]
    exact a7 j hj
  · rw [r _ (by omega)]; exact a8 j hj
  · rw [r _ (by omega)]; exact a9 j hj
  · rw [r _ (by omega)]; exact (a10 u hu).1
  · rw [r _ (by omega), r _ (by omega)]; exact (a10 u hu).2 j hj
theorem OKN.sc {N : Nat → Nat → Nat} {tx : Nat → Nat → Int32} {y d : Nat} (h : OKN N tx) (hy : y ≤ 9999) (hd : d ≤ 99999) : OKN (uN (uN N 0 1 y) 0 2 d) tx := by
  obtain ⟨a1, a2, a3, a4, a5, a6, a7, a8⟩ := h
  exact ⟨a1, hy, hd, a4, a5, a6, a7, a8⟩
theorem uN_id {N : Nat → Nat → Nat} {i j : Nat} : uN N i j (N i j) = N := by
  funext a b
  by_cases h : a = i ∧ b = j
  · rw [h.1, h.2, uN_s]
  · rw [uN_n h]
/-- the house that stands at a place, asked of the reference -/
theorem m_at {σ : St} {N : Nat → Nat → Nat} {z : Int32} {wt : Nat → Int32} {tx : Nat → Nat → Int32} (hM : MV 67 σ N z wt tx) (hK : OKN N tx) {p : Nat} (hp : p < N 0 0) : f_X7_at1 (nI p) σ = some (nI (N 5 p), σ) :=
  m_at1 (n := N 0 0) (pc := N 4) (rw' := N 5) hK.n (fun j hj => hM.pc hj) (fun j hj => ⟨(hK.h hj).2.2.2.2.1, (hK.h hj).2.2.2.2.2.2.1⟩) (hK.h hp).2.2.2.2.2.1 (hK.h hp).2.2.2.2.2.2.2
theorem eC_c {σ : St} {k q : Nat} (h : q ≠ 65) : eC k σ q = σ q := st_c h
theorem eM_c {σ : St} {k q : Nat} (h : q ≠ 69) : eM k σ q = σ q := st_c h
/-- both sides told the same error -/
theorem P_err {σ : St} (hI : Inv σ) {FC FM : St → Rs} {k : Nat} (hC : FC σ = some ((-1000000000) - nI k, eC k σ)) (hM : FM (eC k σ) = some ((-1000000000) - nI k, eM k (eC k σ))) : ∃ (r : Int32) (σ1 σ2 : St), FC σ = some (r, σ1) ∧ FM σ1 = some (r, σ2) ∧ Inv σ2 := ⟨_, _, _, hC, hM, hI.err Eqo.rf Eqo.rf⟩
theorem P_standing {σ : St} (hI : Inv σ) (x0 : Int32) : ∃ (r : Int32) (σ1 σ2 : St), f_X6_standing x0 σ = some (r, σ1) ∧ f_X7_standing x0 σ1 = some (r, σ2) ∧ Inv σ2 := by
  obtain ⟨⟨N, z, wt, tx, hC, hM, hK⟩, -⟩ := id hI
  have h10 := hK.n
  by_cases hv : isR 0 (N 0 0) x0
  · obtain ⟨p, -, hp, rfl⟩ := hv
    refine ⟨nI (N 5 p), σ, σ, ?_, ?_, hI⟩
    · unfold f_X6_standing
      rw [hC.n]
      refine ite_n (nI_nn (by omega)) (ite_p (nI_lt hp (by omega)) (ob_i (c_houseAt hC.n h10 hp) ?_))
      rw [hC.rw hp]
    · exact ob_i (m_isHouse_t hM.n h10 (isR_n hp)) (ite_n (by decide) (ob_i (m_at hM hK hp) rfl))
  · refine P_err (k := 1) hI ?_ (ob_i (m_isHouse_f (by rw [eC_c (by decide)]; exact hM.n) h10 hv) (ite_p rfl (ob_i (p_error (k := 1) (by decide)) rfl)))
    unfold f_X6_standing
    by_cases h0 : x0 < 0
    · exact ite_p h0 (ob_i (p_failing (k := 1) (by decide)) rfl)
    · refine ite_n h0 (ite_n ?_ (ob_i (p_failing (k := 1) (by decide)) rfl))
      rw [isR_iff (by omega)] at hv
      rw [f_lt, show (0 : Int32).toInt = 0 from rfl] at h0
      rw [hC.n, f_lt, nI_toInt (by omega)]
      omega
theorem P_seed {σ : St} (hI : Inv σ) (x0 : Int32) : ∃ (r : Int32) (σ1 σ2 : St), f_X6_seed x0 σ = some (r, σ1) ∧ f_X7_seed x0 σ1 = some (r, σ2) ∧ Inv σ2 := by
  obtain ⟨⟨N, z, wt, tx, hC, hM, hK⟩, h2, h3, h4, h5⟩ := id hI
  refine ⟨z, st σ 1 4 x0, st (st σ 1 4 x0) 67 2 x0, ?_, ?_, ?_⟩
  · exact ol_i (by rw [hC.z])
  · refine ob_i (m_change1 (i := 2) (by decide)) ?_
    rw [st_c (by decide), hM.z]
  · refine hI.main (eqm (eqm Eqo.rf (by omega)) (by omega)) ⟨_, x0, wt, tx, hC.sc (y := N 0 1) (d := N 0 2) (fun q h1 h2 h3 => ?_) ?_ ?_ ?_ ?_ ?_, hM.sc (fun k hk => ?_) ?_ ?_ ?_, hK.sc hK.y hK.d⟩ <;> simp (disch := omega) only [Nat.add_zero, st_c, st_k, st_s]
    · exact hC.y
    · exact hC.d
    · exact hM.y
    · exact hM.d
theorem P_year {σ : St} (hI : Inv σ) (x0 : Int32) : ∃ (r : Int32) (σ1 σ2 : St), f_X6_year x0 σ = some (r, σ1) ∧ f_X7_year x0 σ1 = some (r, σ2) ∧ Inv σ2 := by
  obtain ⟨⟨N, z, wt, tx, hC, hM, hK⟩, -⟩ := id hI
  by_cases hv : isR 0 10000 x0
  · obtain ⟨y, -, hy, rfl⟩ := id hv
    refine ⟨nI (N 0 1), st σ 1 2 (nI y), st (st σ 1 2 (nI y)) 67 0 (nI y), ?_, ?_, ?_⟩
    · unfold f_X6_year
      refine ite_n (nI_nn (by omega)) (ite_p (nI_le (b := 9999) (by omega) (by decide)) (ol_i (by rw [hC.y])))
    · refine ob_i (in_t hv (by decide) rfl rfl) (ite_n (by decide) (ob_i (m_change1 (i := 0) (by decide)) ?_))
      rw [st_c (by decide), hM.y]
    · refine hI.main (eqm (eqm Eqo.rf (by omega)) (by omega)) ⟨_, z, wt, tx, hC.sc (y := y) (d := N 0 2) (fun q h1 h2 h3 => ?_) ?_ ?_ ?_ ?_ ?_, hM.sc (fun k hk => ?_) ?_ ?_ ?_, hK.sc (by omega) hK.d⟩ <;> simp (disch := omega) only [Nat.add_zero, st_c, st_k, st_s]
      · exact hC.d
      · exact hC.z
      · exact hM.d
      · exact hM.z
  · refine P_err (k := 1) hI ?_ (ob_i (in_f hv (by decide) rfl rfl) (ite_p rfl (ob_i (p_error (k := 1) (by decide)) rfl)))
    unfold f_X6_year
    rw [isR_iff (by decide)] at hv
    by_cases h0 : x0 < 0
    · exact ite_p h0 (ob_i (p_failing (k := 1) (by decide)) rfl)
    · refine ite_n h0 (ite_n ?_ (ob_i (p_failing (k := 1) (by decide)) rfl))
      rw [f_lt, show (0 : Int32).toInt = 0 from rfl] at h0
      rw [f_le, show (9999 : Int32).toInt = 9999 from rfl]
      omega
theorem P_told {σ : St} (hI : Inv σ) (x0 : Int32) : ∃ (r : Int32) (σ1 σ2 : St), f_X6_told x0 σ = some (r, σ1) ∧ f_X7_told x0 σ1 = some (r, σ2) ∧ Inv σ2 := by
  by_cases hv : isR 1 7 x0
  · obtain ⟨k, h1, h2, rfl⟩ := id hv
    refine ⟨σ 65 k, σ, σ, ?_, ?_, hI⟩
    · unfold f_X6_told
      refine ite_n (nI_nlt (b := 1) h1 (by omega)) (ite_n (nI_nlt (a := 6) (by omega) (by decide)) (ite_p (nI_lt (b := 7) h2 (by decide)) (ite_p (inb_i h2 (by decide)) ?_)))
      rw [nI_clamp (by omega)]
    · refine ob_i (in_t hv (by decide) rfl rfl) (ite_n (by decide) (ite_p (inb_i h2 (by decide)) ?_))
      rw [nI_clamp (by omega), hI.2.1 k h2]
  · refine P_err (k := 1) hI ?_ (ob_i (in_f hv (by decide) rfl rfl) (ite_p rfl (ob_i (p_error (k := 1) (by decide)) rfl)))
    have hb : f_X6_told_b20 σ = some ((-1000000000) - nI 1, eC 1 σ) := ob_i (p_failing (k := 1) (by decide)) rfl
    unfold f_X6_told
    rw [isR_iff (by decide)] at hv
    by_cases h0 : x0 < 1
    · exact ite_p h0 hb
    · refine ite_n h0 (ite_p ?_ hb)
      rw [f_lt, show (1 : Int32).toInt = 1 from rfl] at h0
      rw [f_lt, show (6 : Int32).toInt = 6 from rfl]
      omega
theorem P_count {σ : St} (hI : Inv σ) (x0 : Int32) : ∃ (r : Int32) (σ1 σ2 : St), f_X6_count x0 σ = some (r, σ1) ∧ f_X7_count x0 σ1 = some (r, σ2) ∧ Inv σ2 := by
  obtain ⟨⟨N, z, wt, tx, hC, hM, hK⟩, -, ⟨t, ht, ht1, ht2, -⟩, -⟩ := id hI
  unfold f_X6_count f_X7_count
  have h5 := hC.n.trans hM.n.symm
  have h0 := hC.y.trans hM.y.symm
  have h1 := hC.d.trans hM.d.symm
  have h3 := hC.t.trans hM.t.symm
  have h4 := hC.w.trans hM.w.symm
  have h6 := ht1.trans ht2.symm
  have h2 := hC.z.trans hM.z.symm
  by_cases c0 : x0 = 0
  · exact ⟨_, σ, σ, ite_p c0 rfl, ite_p c0 (ite_p (inb_l (by decide) (by decide)) (by rw [h5]; rfl)), hI⟩
  by_cases c1 : x0 = 1
  · exact ⟨_, σ, σ, ite_n c0 (ite_p c1 rfl), ite_n c0 (ite_p c1 (ite_p (inb_l (by decide) (by decide)) (by rw [h0]; rfl))), hI⟩
  by_cases c2 : x0 = 2
  · exact ⟨_, σ, σ, ite_n c0 (ite_n c1 (ite_p c2 rfl)), ite_n c0 (ite_n c1 (ite_p c2 (ite_p (inb_l (by decide) (by decide)) (by rw [h1]; rfl)))), hI⟩
  by_cases c3 : x0 = 3
  · exact ⟨_, σ, σ, ite_n c0 (ite_n c1 (ite_n c2 (ite_p c3 rfl))), ite_n c0 (ite_n c1 (ite_n c2 (ite_p c3 (ite_p (inb_l (by decide) (by decide)) (by rw [h3]; rfl))))), hI⟩
  by_cases c4 : x0 = 4
  · exact ⟨_, σ, σ, ite_n c0 (ite_n c1 (ite_n c2 (ite_n c3 (ite_p c4 rfl)))), ite_n c0 (ite_n c1 (ite_n c2 (ite_n c3 (ite_p c4 (ite_p (inb_l (by decide) (by decide)) (by rw [h4]; rfl)))))), hI⟩
  by_cases c5 : x0 = 5
  · exact ⟨_, σ, σ, ite_n c0 (ite_n c1 (ite_n c2 (ite_n c3 (ite_n c4 (ite_p c5 rfl))))), ite_n c0 (ite_n c1 (ite_n c2 (ite_n c3 (ite_n c4 (ite_p c5 (by rw [h6])))))), hI⟩
  by_cases c6 : x0 = 6
  · exact ⟨_, σ, σ, ite_n c0 (ite_n c1 (ite_n c2 (ite_n c3 (ite_n c4 (ite_n c5 (ite_p c6 rfl)))))), ite_n c0 (ite_n c1 (ite_n c2 (ite_n c3 (ite_n c4 (ite_n c5 (ite_p c6 (ite_p (inb_l (by decide) (by decide)) (by rw [h2]; rfl)))))))), hI⟩
  exact P_err (FC := f_X6_count x0) (FM := f_X7_count x0) (k := 1) hI (ite_n c0 (ite_n c1 (ite_n c2 (ite_n c3 (ite_n c4 (ite_n c5 (ite_n c6 (ob_i (p_failing (k := 1) (by decide)) rfl)))))))) (ite_n c0 (ite_n c1 (ite_n c2 (ite_n c3 (ite_n c4 (ite_n c5 (ite_n c6 (ob_i (p_error (k := 1) (by decide)) rfl))))))))
theorem P_body {σ : St} (hI : Inv σ) (x0 : Int32) : ∃ (r : Int32) (σ1 σ2 : St), f_X6_body x0 σ = some (r, σ1) ∧ f_X7_body x0 σ1 = some (r, σ2) ∧ Inv σ2 := by
  obtain ⟨-, -, ⟨t, ht, ht1, ht2, ht3⟩, -⟩ := id hI
  have hb : (nI t - 1 : Int32).toInt = (t : Int) - 1 := pk_sub_toInt (a := t) (b := 1) (by omega) (by decide)
  by_cases hv : isR 0 t x0
  · obtain ⟨i, -, h2, rfl⟩ := id hv
    refine ⟨σ 56 i, σ, σ, ?_, ?_, hI⟩
    · unfold f_X6_body f_X5_bodyAt
      rw [ht1]
      refine ite_n (nI_nn (by omega)) (ite_p (nI_lt h2 (by omega)) (ob_i (ite_n (nI_nn (by omega)) (ite_n (nI_ge (b := 30) (by omega) (by decide)) (ite_p (inb_i (by omega) (by decide)) rfl))) ?_))
      rw [nI_clamp (by omega)]
    · unfold f_X7_body
      rw [ht2]
      refine ob_i (in_t hv (by omega) rfl hb) (ite_n (by decide) (ite_p (inb_i (by omega) (by decide)) ?_))
      rw [nI_clamp (by omega), ht3 i h2]
  · refine P_err (k := 2) hI ?_ ?_
    · unfold f_X6_body
      rw [isR_iff (by omega)] at hv
      by_cases h0 : x0 < 0
      · exact ite_p h0 (ob_i (p_failing (k := 2) (by decide)) rfl)
      · refine ite_n h0 (ite_n ?_ (ob_i (p_failing (k := 2) (by decide)) rfl))
        rw [f_lt, show (0 : Int32).toInt = 0 from rfl] at h0
        rw [ht1, f_lt, nI_toInt (by omega)]
        omega
    · unfold f_X7_body
      rw [eC_c (by decide), ht2]
      exact ob_i (in_f hv (by omega) rfl hb) (ite_p rfl (ob_i (p_error (k := 2) (by decide)) rfl))
