/-! sheet, put, move -/
def shP (q k : Nat) : Bool := scr q k || (59 ≤ q && q ≤ 64) || (76 ≤ q && q ≤ 78)
theorem shP_f {q : Nat} (k : Nat) (h : (q ≤ 26 ∧ q ≠ 8 ∧ q ≠ 21) ∨ (56 ≤ q ∧ q ≤ 58) ∨ (65 ≤ q ∧ q ≤ 69 ∧ q ≠ 66) ∨ q = 75) : shP q k = false := by
  unfold shP
  rw [scr_f k (by omega)]
  have h1 : (decide (59 ≤ q) && decide (q ≤ 64)) = false := by simp; omega
  have h2 : (decide (76 ≤ q) && decide (q ≤ 78)) = false := by simp; omega
  rw [h1, h2]
  rfl
theorem Inv.sh {σ σ1 : St} (hI : Inv σ) (e : Eqo shP σ σ1) (h : ISh σ1) : Inv σ1 := by
  obtain ⟨h1, h2, h3, h4, h5⟩ := hI
  have r : ∀ q, ((q ≤ 26 ∧ q ≠ 8 ∧ q ≠ 21) ∨ (56 ≤ q ∧ q ≤ 58) ∨ (65 ≤ q ∧ q ≤ 69 ∧ q ≠ 66) ∨ q = 75) → σ1 q = σ q := fun q hq => e.row (fun k => shP_f k hq)
  exact ⟨h1.fr (fun q hq => r q (by omega)) (r _ (by omega)), h2.fr (r _ (by omega)) (r _ (by omega)), h3.fr (e _ _ rfl) (e _ _ rfl) (r _ (by omega)) (r _ (by omega)), h, h5.fr (by rw [r _ (by omega)]) (e _ _ rfl) (fun q hq => r q (by omega)) (r _ (by omega))⟩
theorem eqs {σ σ1 : St} (h : ∀ q, ¬ ((59 ≤ q ∧ q ≤ 64) ∨ (76 ≤ q ∧ q ≤ 79)) → σ1 q = σ q) : Eqo shP σ σ1 := fun q k hq => by
  rw [h q]
  intro h2
  unfold shP scr at hq
  simp at hq
  omega
theorem ix24 {s i : Nat} : (24 * nI s + nI i : Int32) = nI (24 * s + i) := by
  show nI 24 * nI s + nI i = _
  rw [pk_mul, nI_add]
theorem c_renewL {s : Nat} (hs : s < 4) : ∀ (k i : Nat) (σ : St), i ≤ 24 → 24 < k + i → ∃ σ1, f_X2_renew_L31 k (nI s) (nI i) σ = some (0, σ1) ∧ (∀ q, q ≠ 59 + s → σ1 q = σ q) ∧ (∀ j, j < i → σ1 (59 + s) j = σ (59 + s) j) ∧ ∀ j, i ≤ j → j < 24 → σ1 (59 + s) j = 0 := by
  intro k
  induction k with
  | zero => intro i σ h1 h2; omega
  | succ k ih =>
    intro i σ h1 h2
    by_cases e : i = 24
    · subst e
      refine ⟨σ, ?_, fun q _ => rfl, fun j _ => rfl, fun j h3 h4 => by omega⟩
      show f_X2_renew_b31 (f_X2_renew_L31 k) (nI s) (nI 24) σ = some (0, σ)
      unfold f_X2_renew_b31
      exact if_pos (nI_le (a := 24) (b := 24) (by decide) (by decide))
    · obtain ⟨σ1, g1, g2, g3, g4⟩ := ih (i + 1) (st σ (59 + s) i 0) (by omega) (by omega)
      refine ⟨σ1, ?_, fun q hq => by rw [g2 q hq, st_c hq], fun j hj => by rw [g3 j (by omega), st_k (by omega)], fun j h3 h4 => ?_⟩
      · show f_X2_renew_b31 _ _ _ _ = _
        unfold f_X2_renew_b31
        simp (disch := omega) only [nI_clamp, nI_1]
        exact ite_n (nI_ge (b := 24) (by omega) (by decide)) (ite_p (inb_i hs (by decide)) (ite_p (inb_i (by omega) (by decide)) (ol_i g1)))
      · by_cases ej : j = i
        · subst ej; rw [g3 j (by omega), st_s]
        · exact g4 j (by omega) h4
theorem m_sheetL {s : Nat} (hs : s < 4) : ∀ (k i : Nat) (σ : St), i ≤ 24 → 24 < k + i → ∃ σ1, f_X7_sheet_L90 k (nI s) (nI i) σ = some (1, σ1) ∧ (∀ q, q ≠ 78 → σ1 q = σ q) ∧ (∀ j, j < 24 * s + i ∨ 24 * s + 24 ≤ j → σ1 78 j = σ 78 j) ∧ ∀ j, i ≤ j → j < 24 → σ1 78 (24 * s + j) = 0 := by
  intro k
  induction k with
  | zero => intro i σ h1 h2; omega
  | succ k ih =>
    intro i σ h1 h2
    by_cases e : i = 24
    · subst e
      refine ⟨σ, ?_, fun q _ => rfl, fun j _ => rfl, fun j h3 h4 => by omega⟩
      show f_X7_sheet_b90 (f_X7_sheet_L90 k) (nI s) (nI 24) σ = some (1, σ)
      unfold f_X7_sheet_b90
      exact if_pos (nI_le (a := 24) (b := 24) (by decide) (by decide))
    · obtain ⟨σ1, g1, g2, g3, g4⟩ := ih (i + 1) (st σ 78 (24 * s + i) 0) (by omega) (by omega)
      refine ⟨σ1, ?_, fun q hq => by rw [g2 q hq, st_c hq], fun j hj => by rw [g3 j (by omega), st_k (by omega)], fun j h3 h4 => ?_⟩
      · show f_X7_sheet_b90 _ _ _ _ = _
        unfold f_X7_sheet_b90
        rw [ix24]
        simp (disch := omega) only [nI_clamp, nI_1]
        exact ite_n (nI_ge (b := 24) (by omega) (by decide)) (ite_p (inb_i (by omega) (by decide)) (ol_i g1))
      · by_cases ej : j = i
        · subst ej; rw [g3 _ (by omega), st_s]
        · exact g4 j (by omega) h4
theorem held24 {c : Nat} (hc : c ≤ 24) {σ : St} : f_X6_held (nI c) 0 24 σ = some (nI c, σ) := by
  rcases (show c = 0 ∨ c = 24 ∨ (0 < c ∧ c < 24) by omega) with rfl | rfl | ⟨h1, h2⟩
  · rfl
  · rfl
  · unfold f_X6_held imin imax
    rw [if_pos (show nI c < 24 from nI_lt (b := 24) h2 (by decide)), if_pos (show 0 < nI c from nI_lt (a := 0) h1 (by omega))]
/-- both sides' sheet s is new: w wide, c long, all 0 -/
theorem sh_new {σ : St} (hI : Inv σ) {s w c : Nat} (hs : s < 4) (hw : w = 0 ∨ w = 8 ∨ w = 16 ∨ w = 32) (hc : c ≤ 24) : ∃ σ1, f_X2_renew (nI s) (nI w) (nI c) σ = some (0, σ1) ∧ ∃ σ2, f_X7_sheet_L90 LF (nI s) 0 (st (st σ1 76 s (nI w)) 77 s (nI c)) = some (1, σ2) ∧ Inv σ2 := by
  obtain ⟨σ1, g1, g2, g3, g4⟩ := c_renewL hs LF 0 (st (st σ 63 s (nI w)) 64 s (nI c)) (by decide) (by decide)
  obtain ⟨σ2, f1, f2, f3, f4⟩ := m_sheetL hs LF 0 (st (st σ1 76 s (nI w)) 77 s (nI c)) (by decide) (by decide)
  refine ⟨σ1, ?_, σ2, f1, ?_⟩
  · refine ob_i (isSheet_t (isR_n hs)) (ite_n (by decide) (ite_p (inb_i hs (by decide)) (ol_i (ob_i (held24 hc) (ite_p (inb_i hs (by decide)) (ol_i ?_))))))
    rw [nI_clamp (by omega)]
    exact g1
  · have e : ∀ q, q ≠ 59 + s → q ≠ 63 → q ≠ 64 → q ≠ 76 → q ≠ 77 → q ≠ 78 → σ2 q = σ q := fun q h1 h2 h3 h4 h5 h6 => by
      rw [f2 q h6, st_c h5, st_c h4, g2 q h1, st_c h3, st_c h2]
    refine hI.sh (eqs fun q hq => e q (by omega) (by omega) (by omega) (by omega) (by omega) (by omega)) ?_
    obtain ⟨w', z', hS⟩ := hI.2.2.2.1
    refine ⟨fun j => if j = s then w else w' j, fun j => if j = s then c else z' j, fun j hj => ?_⟩
    obtain ⟨a1, a2, a3, a4, a5, a6, a7⟩ := hS j hj
    have r63 : σ2 63 = st σ 63 s (nI w) 63 := by rw [f2 _ (by decide), st_c (by decide), st_c (by decide), g2 _ (by omega), st_c (by decide)]
    have r64 : σ2 64 j = st (st σ 63 s (nI w)) 64 s (nI c) 64 j := by rw [f2 _ (by decide), st_c (by decide), st_c (by decide), g2 _ (by omega)]
    have r76 : σ2 76 j = st σ1 76 s (nI w) 76 j := by rw [f2 _ (by decide), st_c (by decide)]
    have r77 : σ2 77 j = st (st σ1 76 s (nI w)) 77 s (nI c) 77 j := by rw [f2 _ (by decide)]
    rw [r63, r64, r76, r77]
    by_cases ej : j = s
    · subst ej
      dsimp only
      rw [if_pos rfl, if_pos rfl, st_s, st_s, st_s, st_s]
      refine ⟨hw, hc, rfl, rfl, rfl, rfl, fun i hi => ?_⟩
      rw [f4 i (Nat.zero_le _) hi, f2 _ (by omega), st_c (by omega), st_c (by omega), g4 i (Nat.zero_le _) hi]
    · dsimp only
      rw [if_neg ej, if_neg ej, st_k ej, st_k ej, st_k ej, st_k ej, st_c (by decide), st_c (by decide), g2 _ (by omega), g2 _ (by omega)]
      refine ⟨a1, a2, a3, ?_, a5, ?_, fun i hi => ?_⟩
      · rw [st_c (by decide), st_c (by decide)]; exact a4
      · rw [st_c (by decide), st_c (by decide)]; exact a6
      · rw [f3 _ (by omega), f2 _ (by omega), st_c (by omega), st_c (by omega), st_c (by omega), st_c (by omega), g2 _ (by omega), g2 _ (by omega), st_c (by omega), st_c (by omega), st_c (by omega), st_c (by omega)]
        exact a7 i hi
theorem P_sheet {σ : St} (hI : Inv σ) (x0 : Int32) (x1 : Int32) (x2 : Int32) : ∃ (r : Int32) (σ1 σ2 : St), f_X6_sheet x0 x1 x2 σ = some (r, σ1) ∧ f_X7_sheet x0 x1 x2 σ1 = some (r, σ2) ∧ Inv σ2 := by
  by_cases hv : isR 0 4 x0
  · obtain ⟨s, -, hs, rfl⟩ := id hv
    -- what follows the width's test
    have rest : ∀ w : Nat, (w = 0 ∨ w = 8 ∨ w = 16 ∨ w = 32) → ∃ (r : Int32) (σ1 σ2 : St), f_X6_sheet_b35 (nI s) (nI w) x2 σ = some (r, σ1) ∧ f_X7_sheet_b35 (nI s) (nI w) x2 σ1 = some (r, σ2) ∧ Inv σ2 := by
      intro w hw
      by_cases h0 : w = 0
      · subst h0
        obtain ⟨σ1, g1, σ2, g2, g3⟩ := sh_new hI hs hw (c := 0) (by decide)
        refine ⟨1, σ1, σ2, ite_p rfl (ob_i g1 rfl), ite_p rfl (ite_p rfl (ite_p (inb_i hs (by decide)) (ol_i (ite_p rfl (ite_p (inb_i hs (by decide)) (ol_i ?_)))))), g3⟩
        rw [nI_clamp (by omega)]
        exact g2
      · have n0 : ¬ nI w = 0 := nI_ne0 (by omega) (by omega)
        by_cases c0 : 0 ≤ x2
        · by_cases c1 : x2 ≤ 24
          · obtain ⟨c, hc, rfl⟩ := nI_of2 (n := 24) (M := 24) rfl (by rw [f_lt]; rw [f_le] at c0; omega) c1
            obtain ⟨σ1, g1, σ2, g2, g3⟩ := sh_new hI hs hw (c := c) hc
            refine ⟨1, σ1, σ2, ite_n n0 (ite_p c0 (ite_p c1 (ob_i g1 rfl))), ite_n n0 (ite_p c0 (ite_n n0 (ite_p c1 (ite_p (inb_i hs (by decide)) (ol_i (ite_n n0 (ite_p (inb_i hs (by decide)) (ol_i ?_)))))))), g3⟩
            rw [nI_clamp (by omega)]
            exact g2
          · exact P_err (FC := f_X6_sheet_b35 (nI s) (nI w) x2) (FM := f_X7_sheet_b35 (nI s) (nI w) x2) (k := 1) hI (ite_n n0 (ite_p c0 (ite_n c1 (ob_i (p_failing (k := 1) (by decide)) rfl)))) (ite_n n0 (ite_p c0 (ite_n n0 (ite_n c1 (ob_i (p_error (k := 1) (by decide)) rfl)))))
        · exact P_err (FC := f_X6_sheet_b35 (nI s) (nI w) x2) (FM := f_X7_sheet_b35 (nI s) (nI w) x2) (k := 3) hI (ite_n n0 (ite_n c0 (ob_i (p_failing (k := 3) (by decide)) rfl))) (ite_n n0 (ite_n c0 (ob_i (p_error (k := 3) (by decide)) rfl)))
    by_cases w0 : x1 = 0
    · obtain ⟨r, σ1, σ2, g1, g2, g3⟩ := rest 0 (by omega)
      rw [w0]
      exact ⟨r, σ1, σ2, ob_i (isSheet_t hv) (ite_n (by decide) (ite_p rfl g1)), ob_i (isSheetM_t hv) (ite_n (by decide) (ite_p rfl g2)), g3⟩
    · by_cases w8 : x1 = 8
      · obtain ⟨r, σ1, σ2, g1, g2, g3⟩ := rest 8 (by omega)
        rw [w8]
        exact ⟨r, σ1, σ2, ob_i (isSheet_t hv) (ite_n (by decide) (ite_n (by decide) (ite_p rfl g1))), ob_i (isSheetM_t hv) (ite_n (by decide) (ite_n (by decide) (ite_p rfl g2))), g3⟩
      · by_cases w16 : x1 = 16
        · obtain ⟨r, σ1, σ2, g1, g2, g3⟩ := rest 16 (by omega)
          rw [w16]
          exact ⟨r, σ1, σ2, ob_i (isSheet_t hv) (ite_n (by decide) (ite_n (by decide) (ite_n (by decide) (ite_p rfl g1)))), ob_i (isSheetM_t hv) (ite_n (by decide) (ite_n (by decide) (ite_n (by decide) (ite_p rfl g2)))), g3⟩
        · by_cases w32 : x1 = 32
          · obtain ⟨r, σ1, σ2, g1, g2, g3⟩ := rest 32 (by omega)
            rw [w32]
            exact ⟨r, σ1, σ2, ob_i (isSheet_t hv) (ite_n (by decide) (ite_n (by decide) (ite_n (by decide) (ite_n (by decide) (ite_p rfl g1))))), ob_i (isSheetM_t hv) (ite_n (by decide) (ite_n (by decide) (ite_n (by decide) (ite_n (by decide) (ite_p rfl g2))))), g3⟩
          · exact P_err (FC := f_X6_sheet (nI s) x1 x2) (FM := f_X7_sheet (nI s) x1 x2) (k := 1) hI (ob_i (isSheet_t hv) (ite_n (by decide) (ite_n w0 (ite_n w8 (ite_n w16 (ite_n w32 (ob_i (p_failing (k := 1) (by decide)) rfl))))))) (ob_i (isSheetM_t hv) (ite_n (by decide) (ite_n w0 (ite_n w8 (ite_n w16 (ite_n w32 (ob_i (p_error (k := 1) (by decide)) rfl)))))))
  · exact P_err (FC := f_X6_sheet x0 x1 x2) (FM := f_X7_sheet x0 x1 x2) (k := 1) hI (ob_i (isSheet_f hv) (ite_p rfl (ob_i (p_failing (k := 1) (by decide)) rfl))) (ob_i (isSheetM_f hv) (ite_p rfl (ob_i (p_error (k := 1) (by decide)) rfl)))
-- what the class asks of its sheets
theorem c_bits {σ : St} {s w : Nat} (hs : s < 4) (h : σ 63 s = nI w) : f_X2_bits (nI s) σ = some (nI w, σ) := by
  refine ob_i (isSheet_t (isR_n hs)) (ite_n (by decide) (ite_p (inb_i hs (by decide)) ?_))
  rw [nI_clamp (by omega), h]
theorem c_miss {σ : St} {s w : Nat} (hs : s < 4) (hw : w ≤ 32) (h : σ 63 s = nI w) : f_X2_isMissing (nI s) σ = some (if w = 0 then 1 else 0, σ) := by
  refine ob_i (c_bits hs h) ?_
  by_cases h0 : w = 0
  · subst h0; rfl
  · rw [if_neg h0]
    exact ite_n (nI_ne0 (by omega) (by omega)) rfl
theorem c_size {σ : St} {s c : Nat} (hs : s < 4) (h : σ 64 s = nI c) : f_X2_size (nI s) σ = some (nI c, σ) := by
  refine ob_i (isSheet_t (isR_n hs)) (ite_n (by decide) (ite_p (inb_i hs (by decide)) ?_))
  rw [nI_clamp (by omega), h]
/-- n cells from i on lie on a sheet c long -/
def Hd (c : Nat) (x n : Int32) : Prop := ∃ i m : Nat, i + m ≤ c ∧ x = nI i ∧ n = nI m
theorem c_holds_t {σ : St} {s c : Nat} {x n : Int32} (hs : s < 4) (hc : c ≤ 24) (h : σ 64 s = nI c) (hh : Hd c x n) : f_X2_holds (nI s) x n σ = some (1, σ) := by
  obtain ⟨i, m, h1, rfl, rfl⟩ := hh
  refine ite_n (nI_nn (by omega)) (ite_n (nI_nn (by omega)) (ob_i (c_size hs h) (ite_n (nI_nlt (by omega) (by omega)) (ob_i (c_size hs h) (ite_n ?_ rfl)))))
  rw [pk_sub (by omega)]
  exact nI_nlt (by omega) (by omega)
theorem c_holds_f {σ : St} {s c : Nat} {x n : Int32} (hs : s < 4) (hc : c ≤ 24) (h : σ 64 s = nI c) (hh : ¬ Hd c x n) : f_X2_holds (nI s) x n σ = some (0, σ) := by
  unfold f_X2_holds
  by_cases h1 : n < 0
  · exact ite_p h1 rfl
  · obtain ⟨m, hm, rfl⟩ := nI_of h1
    refine ite_n h1 ?_
    by_cases h2 : x < 0
    · exact ite_p h2 rfl
    · obtain ⟨i, hi, rfl⟩ := nI_of h2
      refine ite_n h2 (ob_i (c_size hs h) ?_)
      by_cases h3 : c < m
      · exact ite_p (nI_lt h3 hm) rfl
      · refine ite_n (nI_nlt (by omega) (by omega)) (ob_i (c_size hs h) (ite_p ?_ rfl))
        rw [pk_sub (by omega)]
        refine nI_lt (Nat.not_le.mp fun q => hh ⟨i, m, by omega, rfl, rfl⟩) hi
theorem sx8 (x : Int32) : (x <<< (24 : Int32)) >>> (24 : Int32) = x.toInt8.toInt32 := by
  refine Int32.toBitVec_inj.mp ?_
  show (x.toBitVec <<< (24 : Nat)).sshiftRight 24 = (x.toBitVec.signExtend 8).signExtend 32
  refine BitVec.eq_of_getLsbD_eq fun i hi => ?_
  rw [BitVec.getLsbD_sshiftRight, BitVec.getLsbD_signExtend, BitVec.msb_eq_getLsbD_last, BitVec.msb_eq_getLsbD_last, BitVec.getLsbD_shiftLeft, BitVec.getLsbD_shiftLeft, BitVec.getLsbD_signExtend, BitVec.getLsbD_signExtend]
  by_cases h8 : i < 8
  · have e1 : 24 + i < 32 := by omega
    have e2 : ¬ 32 ≤ i := by omega
    have e3 : ¬ 24 + i < 24 := by omega
    simp [h8, hi, e1, e2, e3]
  · have : ¬ 24 + i < 32 := by omega
    simp [h8, this, hi]
theorem sx16 (x : Int32) : (x <<< (16 : Int32)) >>> (16 : Int32) = x.toInt16.toInt32 := by
  refine Int32.toBitVec_inj.mp ?_
  show (x.toBitVec <<< (16 : Nat)).sshiftRight 16 = (x.toBitVec.signExtend 16).signExtend 32
  refine BitVec.eq_of_getLsbD_eq fun i hi => ?_
  rw [BitVec.getLsbD_sshiftRight, BitVec.getLsbD_signExtend, BitVec.msb_eq_getLsbD_last, BitVec.msb_eq_getLsbD_last, BitVec.getLsbD_shiftLeft, BitVec.getLsbD_shiftLeft, BitVec.getLsbD_signExtend, BitVec.getLsbD_signExtend]
  by_cases h8 : i < 16
  · have e1 : 16 + i < 32 := by omega
    have e2 : ¬ 32 ≤ i := by omega
    have e3 : ¬ 16 + i < 16 := by omega
    simp [h8, hi, e1, e2, e3]
  · have : ¬ 16 + i < 32 := by omega
    simp [h8, this, hi]
theorem sx32 (x : Int32) : (x <<< (0 : Int32)) >>> (0 : Int32) = x := by
  refine Int32.toBitVec_inj.mp ?_
  show (x.toBitVec <<< (0 : Nat)).sshiftRight 0 = x.toBitVec
  refine BitVec.eq_of_getLsbD_eq fun i hi => ?_
  rw [BitVec.getLsbD_sshiftRight, BitVec.getLsbD_shiftLeft]
  simp [hi]
theorem lowest {w : Nat} (hw : w = 8 ∨ w = 16 ∨ w = 32) (x : Int32) (σ : St) : f_X2_lowest x (nI w) σ = some ((x <<< ((32 - nI w) &&& 31)) >>> ((32 - nI w) &&& 31), σ) := by
  rcases hw with rfl | rfl | rfl
  · rw [show ((32 - nI 8) &&& 31 : Int32) = 24 from rfl, sx8]; rfl
  · rw [show ((32 - nI 16) &&& 31 : Int32) = 16 from rfl, sx16]; rfl
  · rw [show ((32 - nI 32) &&& 31 : Int32) = 0 from rfl, sx32]; rfl
theorem P_put {σ : St} (hI : Inv σ) (x0 : Int32) (x1 : Int32) (x2 : Int32) : ∃ (r : Int32) (σ1 σ2 : St), f_X6_put x0 x1 x2 σ = some (r, σ1) ∧ f_X7_put x0 x1 x2 σ1 = some (r, σ2) ∧ Inv σ2 := by
  obtain ⟨w, c, hS⟩ := hI.2.2.2.1
  by_cases hv : isR 0 4 x0
  · obtain ⟨s, -, hs, rfl⟩ := id hv
    obtain ⟨a1, a2, a3, a4, a5, a6, a7⟩ := hS s hs
    have hms := c_miss hs (by omega) a3
    by_cases h0 : w s = 0
    · rw [if_pos h0] at hms
      refine P_err (FC := f_X6_put (nI s) x1 x2) (FM := f_X7_put (nI s) x1 x2) (k := 2) hI ?_ ?_
      · exact ob_i (isSheet_t hv) (ite_n (by decide) (ob_i hms (ite_n (by decide) (ob_i (p_failing (k := 2) (by decide)) rfl))))
      · refine ob_i (isSheetM_t hv) (ite_n (by decide) (ite_p (inb_i hs (by decide)) (ite_p ?_ (ob_i (p_error (k := 2) (by decide)) rfl))))
        rw [nI_clamp (by omega), eC_c (by decide), a4, h0]; rfl
    · rw [if_neg h0] at hms
      have e24 : ∀ i, (24 * nI s + nI i : Int32) = nI (24 * s + i) := fun i => ix24
      have hb : (nI (c s) - 1 : Int32).toInt = (c s : Int) - 1 := pk_sub_toInt (a := c s) (b := 1) (by omega) (by decide)
      by_cases hx : isR 0 (c s) x1
      · obtain ⟨i, -, hi, rfl⟩ := id hx
        have lw := lowest (w := w s) (by omega) x2 σ
        generalize hvv : ((x2 <<< ((32 - nI (w s)) &&& 31)) >>> ((32 - nI (w s)) &&& 31) : Int32) = vv at lw
        refine ⟨1, st σ (59 + s) i vv, st (st σ (59 + s) i vv) 78 (24 * s + i) vv, ?_, ?_, ?_⟩
        · refine ob_i (isSheet_t hv) (ite_n (by decide) (ob_i hms (ite_p rfl (ite_n (nI_nn (by omega)) (ob_i (c_size hs a5) (ite_p (nI_lt hi (by omega)) (ob_i (σ := st σ (59 + s) i vv) (r := 0) (ob_i (c_holds_t hs a2 a5 ⟨i, 1, by omega, rfl, rfl⟩) (ite_n (by decide) (ite_p (inb_i hs (by decide)) (ite_p (inb_i hs (by decide)) ?_)))) rfl)))))))
          rw [nI_clamp (show s < 2 ^ 31 by omega), a3]
          refine ob_i lw (ite_p (inb_i (by omega) (by decide)) (ol_i ?_))
          rw [nI_clamp (by omega)]
        · have g76 : st σ (59 + s) i vv 76 s = nI (w s) := by rw [st_c (by omega)]; exact a4
          have g77 : st σ (59 + s) i vv 77 s = nI (c s) := by rw [st_c (by omega)]; exact a6
          refine ob_i (isSheetM_t hv) (ite_n (by decide) (ite_p (inb_i hs (by decide)) (ite_n ?_ (ite_p (inb_i hs (by decide)) (ob_i (in_t hx (by omega) rfl ?_) (ite_n (by decide) (ite_p (inb_i hs (by decide)) (ite_p ?_ (ol_i ?_)))))))))
          · rw [nI_clamp (by omega), g76]; exact nI_ne0 (by omega) (by omega)
          · rw [nI_clamp (by omega), g77]; exact hb
          · rw [e24]; exact inb_i (by omega) (by decide)
          · rw [e24, nI_clamp (by omega), nI_clamp (by omega), g76, hvv]
        · refine hI.sh (eqs fun q hq => by rw [st_c (by omega), st_c (by omega)]) ⟨w, c, fun j hj => ?_⟩
          obtain ⟨b1, b2, b3, b4, b5, b6, b7⟩ := hS j hj
          refine ⟨b1, b2, ?_, ?_, ?_, ?_, fun t ht => ?_⟩
          · rw [st_c (by omega), st_c (by omega)]; exact b3
          · rw [st_c (by omega), st_c (by omega)]; exact b4
          · rw [st_c (by omega), st_c (by omega)]; exact b5
          · rw [st_c (by omega), st_c (by omega)]; exact b6
          · rw [st_c (by omega)]
            by_cases ej : j = s
            · subst ej
              by_cases et : t = i
              · subst et; rw [st_s, st_s]
              · rw [st_k et, st_k (by omega), st_c (by omega)]; exact b7 t ht
            · rw [st_c (by omega), st_k (by omega), st_c (by omega)]; exact b7 t ht
      · refine P_err (FC := f_X6_put (nI s) x1 x2) (FM := f_X7_put (nI s) x1 x2) (k := 1) hI ?_ ?_
        · refine ob_i (isSheet_t hv) (ite_n (by decide) (ob_i hms (ite_p rfl ?_)))
          rw [isR_iff (by omega)] at hx
          by_cases q : x1 < 0
          · exact ite_p q (ob_i (p_failing (k := 1) (by decide)) rfl)
          · refine ite_n q (ob_i (c_size hs a5) (ite_n ?_ (ob_i (p_failing (k := 1) (by decide)) rfl)))
            rw [f_lt, show (0 : Int32).toInt = 0 from rfl] at q
            rw [f_lt, nI_toInt (by omega)]
            omega
        · refine ob_i (isSheetM_t hv) (ite_n (by decide) (ite_p (inb_i hs (by decide)) (ite_n ?_ (ite_p (inb_i hs (by decide)) (ob_i (in_f hx (by omega) rfl ?_) (ite_p rfl (ob_i (p_error (k := 1) (by decide)) rfl)))))))
          · rw [nI_clamp (by omega), eC_c (by decide), a4]; exact nI_ne0 (by omega) (by omega)
          · rw [nI_clamp (by omega), eC_c (by decide), a6]; exact hb
  · exact P_err (FC := f_X6_put x0 x1 x2) (FM := f_X7_put x0 x1 x2) (k := 1) hI (ob_i (isSheet_f hv) (ite_p rfl (ob_i (p_failing (k := 1) (by decide)) rfl))) (ob_i (isSheetM_f hv) (ite_p rfl (ob_i (p_error (k := 1) (by decide)) rfl)))
theorem m_moveL2 {d b n : Nat} (hd : d < 4) (hb : b + n ≤ 24) : ∀ (k i : Nat) (σ : St), i ≤ n → n < k + i → ∃ σ1, f_X7_move_L152 k (nI d) (nI b) (nI n) (nI i) σ = some (nI n, σ1) ∧ (∀ q, q ≠ 78 → σ1 q = σ q) ∧ (∀ j, j < 24 * d + b + i ∨ 24 * d + b + n ≤ j → σ1 78 j = σ 78 j) ∧ ∀ j, i ≤ j → j < n → σ1 78 (24 * d + b + j) = σ 79 j := by
  intro k
  induction k with
  | zero => intro i σ h1 h2; omega
  | succ k ih =>
    intro i σ h1 h2
    by_cases e : i = n
    · subst e
      refine ⟨σ, ?_, fun q _ => rfl, fun j _ => rfl, fun j h3 h4 => by omega⟩
      show f_X7_move_b152 _ _ _ _ _ _ = _
      exact ite_p (nI_le (by omega) (by omega)) rfl
    · obtain ⟨σ1, g1, g2, g3, g4⟩ := ih (i + 1) (st σ 78 (24 * d + b + i) (σ 79 i)) (by omega) (by omega)
      refine ⟨σ1, ?_, fun q hq => by rw [g2 q hq, st_c hq], fun j hj => by rw [g3 j (by omega), st_k (by omega)], fun j h3 h4 => ?_⟩
      · show f_X7_move_b152 _ _ _ _ _ _ = _
        unfold f_X7_move_b152
        rw [ix24, nI_add]
        simp (disch := omega) only [nI_clamp, nI_1]
        exact ite_n (nI_ge (by omega) (by omega)) (ite_p (inb_i (by omega) (by decide)) (ite_p (inb_i (by omega) (by decide)) (ol_i g1)))
      · by_cases ej : j = i
        · subst ej; rw [g3 _ (by omega), st_s]
        · rw [g4 j (by omega) h4, st_c (by decide)]
theorem m_moveL1 {s a d b n : Nat} (hs : s < 4) (ha : a + n ≤ 24) : ∀ (k i : Nat) (σ : St), i ≤ n → n < k + i → ∃ σ1, f_X7_move_L115 k (nI s) (nI a) (nI d) (nI b) (nI n) (nI i) σ = f_X7_move_L152 LF (nI d) (nI b) (nI n) (nI 0) σ1 ∧ (∀ q, q ≠ 79 → σ1 q = σ q) ∧ (∀ j, j < i → σ1 79 j = σ 79 j) ∧ ∀ j, i ≤ j → j < n → σ1 79 j = σ 78 (24 * s + a + j) := by
  intro k
  induction k with
  | zero => intro i σ h1 h2; omega
  | succ k ih =>
    intro i σ h1 h2
    by_cases e : i = n
    · subst e
      refine ⟨σ, ?_, fun q _ => rfl, fun j _ => rfl, fun j h3 h4 => by omega⟩
      show f_X7_move_b115 _ _ _ _ _ _ _ _ = _
      exact ite_p (nI_le (by omega) (by omega)) rfl
    · obtain ⟨σ1, g1, g2, g3, g4⟩ := ih (i + 1) (st σ 79 i (σ 78 (24 * s + a + i))) (by omega) (by omega)
      refine ⟨σ1, ?_, fun q hq => by rw [g2 q hq, st_c hq], fun j hj => by rw [g3 j (by omega), st_k (by omega)], fun j h3 h4 => ?_⟩
      · show f_X7_move_b115 _ _ _ _ _ _ _ _ = _
        unfold f_X7_move_b115
        rw [ix24, nI_add]
        simp (disch := omega) only [nI_clamp, nI_1]
        exact ite_n (nI_ge (by omega) (by omega)) (ite_p (inb_i (by omega) (by decide)) (ite_p (inb_i (by omega) (by decide)) (ol_i g1)))
      · by_cases ej : j = i
        · subst ej; rw [g3 _ (by omega), st_s]
        · rw [g4 j (by omega) h4, st_c (by decide)]
theorem P_move {σ : St} (hI : Inv σ) (x0 : Int32) (x1 : Int32) (x2 : Int32) (x3 : Int32) (x4 : Int32) : ∃ (r : Int32) (σ1 σ2 : St), f_X6_move x0 x1 x2 x3 x4 σ = some (r, σ1) ∧ f_X7_move x0 x1 x2 x3 x4 σ1 = some (r, σ2) ∧ Inv σ2 := by
  obtain ⟨w, c, hS⟩ := hI.2.2.2.1
  by_cases hv : isR 0 4 x0
  · by_cases hu : isR 0 4 x2
    · obtain ⟨s, -, hs, rfl⟩ := id hv
      obtain ⟨d, -, hd, rfl⟩ := id hu
      obtain ⟨a1, a2, a3, a4, a5, a6, a7⟩ := hS s hs
      obtain ⟨b1, b2, b3, b4, b5, b6, b7⟩ := hS d hd
      have ms := c_miss hs (by omega) a3
      have md := c_miss hd (by omega) b3
      by_cases h0 : w s = 0
      · rw [if_pos h0] at ms
        refine P_err (FC := f_X6_move (nI s) x1 (nI d) x3 x4) (FM := f_X7_move (nI s) x1 (nI d) x3 x4) (k := 2) hI ?_ ?_
        · exact ob_i (isSheet_t hv) (ite_n (by decide) (ob_i (isSheet_t hu) (ite_n (by decide) (ob_i ms (ite_n (by decide) (ob_i (p_failing (k := 2) (by decide)) rfl))))))
        · refine ob_i (isSheetM_t hv) (ite_n (by decide) (ob_i (isSheetM_t hu) (ite_n (by decide) (ite_p (inb_i hs (by decide)) (ite_p ?_ (ob_i (p_error (k := 2) (by decide)) rfl))))))
          rw [nI_clamp (by omega), eC_c (by decide), a4, h0]; rfl
      · rw [if_neg h0] at ms
        by_cases h1 : w d = 0
        · rw [if_pos h1] at md
          refine P_err (FC := f_X6_move (nI s) x1 (nI d) x3 x4) (FM := f_X7_move (nI s) x1 (nI d) x3 x4) (k := 2) hI ?_ ?_
          · exact ob_i (isSheet_t hv) (ite_n (by decide) (ob_i (isSheet_t hu) (ite_n (by decide) (ob_i ms (ite_p rfl (ob_i md (ite_n (by decide) (ob_i (p_failing (k := 2) (by decide)) rfl))))))))
          · refine ob_i (isSheetM_t hv) (ite_n (by decide) (ob_i (isSheetM_t hu) (ite_n (by decide) (ite_p (inb_i hs (by decide)) (ite_n ?_ (ite_p (inb_i hd (by decide)) (ite_p ?_ (ob_i (p_error (k := 2) (by decide)) rfl))))))))
            · rw [nI_clamp (by omega), eC_c (by decide), a4]; exact nI_ne0 (by omega) (by omega)
            · rw [nI_clamp (by omega), eC_c (by decide), b4, h1]; rfl
        · rw [if_neg h1] at md
          -- the widths
          by_cases hw : w s = w d
          · have M : ∀ (t : St) {y : Option (Int32 × St)}, t 76 = σ 76 → (if x4 < 0 then f_X7_move_b106 t else (if x1 < 0 then f_X7_move_b106 t else (if x3 < 0 then f_X7_move_b106 t else (if inb (nI s) 4 then (if ((t 77 (nI s).toNatClampNeg) - x4) < x1 then f_X7_move_b106 t else (if inb (nI d) 4 then (if x3 ≤ ((t 77 (nI d).toNatClampNeg) - x4) then f_X7_move_L115 LF (nI s) x1 (nI d) x3 x4 0 t else f_X7_move_b106 t) else none)) else none)))) = y → f_X7_move (nI s) x1 (nI d) x3 x4 t = y := by
              intro t y h76 hy
              refine ob_i (isSheetM_t hv) (ite_n (by decide) (ob_i (isSheetM_t hu) (ite_n (by decide) (ite_p (inb_i hs (by decide)) (ite_n ?_ (ite_p (inb_i hd (by decide)) (ite_n ?_ (ite_p (inb_i hs (by decide)) (ite_p (inb_i hd (by decide)) (ite_p ?_ hy))))))))))
              · rw [nI_clamp (by omega), h76, a4]; exact nI_ne0 (by omega) (by omega)
              · rw [nI_clamp (by omega), h76, b4]; exact nI_ne0 (by omega) (by omega)
              · rw [nI_clamp (by omega), nI_clamp (by omega), h76, a4, b4, hw]
            have C : ∀ {y : Option (Int32 × St)}, (ob (f_X2_holds (nI s) x1 x4 σ) fun r9 σ9 => if r9 = 0 then ob (f_X6_failing 1 σ9) fun r10 σ10 => some (r10, σ10) else ob (f_X2_holds (nI d) x3 x4 σ9) fun r11 σ11 => if r11 = 0 then ob (f_X6_failing 1 σ11) fun r13 σ13 => some (r13, σ13) else ob (f_X2_copy (nI s) x1 (nI d) x3 x4 σ11) fun _ σ12 => some (x4, σ12)) = y → f_X6_move (nI s) x1 (nI d) x3 x4 σ = y := by
              intro y hy
              exact ob_i (isSheet_t hv) (ite_n (by decide) (ob_i (isSheet_t hu) (ite_n (by decide) (ob_i ms (ite_p rfl (ob_i md (ite_p rfl (ob_i (c_bits hs a3) (ob_i (c_bits hd b3) (ite_p (by rw [hw]) hy))))))))))
            have hb : f_X7_move_b106 (eC 1 σ) = some ((-1000000000) - nI 1, eM 1 (eC 1 σ)) := ob_i (p_error (k := 1) (by decide)) rfl
            have g77 : ∀ j, eC 1 σ 77 j = σ 77 j := fun j => by rw [eC_c (by decide)]
            by_cases q1 : Hd (c s) x1 x4
            · obtain ⟨a, n, ha, rfl, rfl⟩ := id q1
              by_cases q2 : Hd (c d) x3 (nI n)
              · obtain ⟨b, n2, hb2, rfl, hn⟩ := id q2
                obtain rfl : n = n2 := by
                  by_cases hnn : n2 < 2 ^ 31
                  · exact (nI_eq (by omega) hnn).mp hn
                  · omega
                let σ1 : St := sR σ (59 + d) (va_cpy (σ (59 + s)) (σ (59 + d)) a b n)
                have e1 : ∀ q, q ≠ 59 + d → σ1 q = σ q := fun q hq => sR_c hq
                obtain ⟨σ2, g1, g2, g3, g4⟩ := m_moveL1 (d := d) (b := b) hs (show a + n ≤ 24 by omega) LF 0 σ1 (by omega) (by unfold LF; omega)
                obtain ⟨σ3, f1, f2, f3, f4⟩ := m_moveL2 hd (show b + n ≤ 24 by omega) LF 0 σ2 (by omega) (by unfold LF; omega)
                refine ⟨nI n, σ1, σ3, C ?_, M σ1 (e1 _ (by omega)) ?_, ?_⟩
                · refine ob_i (c_holds_t hs a2 a5 q1) (ite_n (by decide) (ob_i (c_holds_t hd b2 b5 q2) (ite_n (by decide) (ob_i (r := 0) (σ := σ1) (ob_i (c_holds_t hs a2 a5 q1) (ite_n (by decide) (ob_i (c_holds_t hd b2 b5 q2) (ite_n (by decide) (ob_i (isSheet_t hv) (ite_n (by decide) (ob_i (isSheet_t hu) (ite_n (by decide) (ite_p (inb_i hs (by decide)) (ite_p (inb_i hd (by decide)) (ite_p ?_ (ol_i ?_)))))))))))) rfl))))
                  · rw [nI_clamp (by omega), nI_clamp (by omega), nI_clamp (by omega)]
                    exact ⟨nI_nn (by omega), nI_nn (by omega), nI_nn (by omega), by omega, by omega⟩
                  · simp (disch := omega) only [nI_clamp]
                    rfl
                · refine ite_n (nI_nn (by omega)) (ite_n (nI_nn (by omega)) (ite_n (nI_nn (by omega)) (ite_p (inb_i hs (by decide)) (ite_n ?_ (ite_p (inb_i hd (by decide)) (ite_p ?_ (g1.trans f1)))))))
                  · rw [nI_clamp (by omega), e1 _ (by omega), a6, pk_sub (by omega)]
                    exact nI_nlt (by omega) (by omega)
                  · rw [nI_clamp (by omega), e1 _ (by omega), b6, pk_sub (by omega)]
                    exact nI_le (by omega) (by omega)
                · have e3 : ∀ q, q ≠ 59 + d → q ≠ 78 → q ≠ 79 → σ3 q = σ q := fun q h1 h2 h3 => by rw [f2 q h2, g2 q h3, e1 q h1]
                  have e78 : ∀ j, σ2 78 j = σ 78 j := fun j => by rw [g2 _ (by decide), e1 _ (by omega)]
                  refine hI.sh (eqs fun q hq => e3 q (by omega) (by omega) (by omega)) ⟨w, c, fun j hj => ?_⟩
                  obtain ⟨c1, c2, c3, c4, c5, c6, c7⟩ := hS j hj
                  refine ⟨c1, c2, ?_, ?_, ?_, ?_, fun t ht => ?_⟩
                  · rw [e3 _ (by omega) (by decide) (by decide)]; exact c3
                  · rw [e3 _ (by omega) (by decide) (by decide)]; exact c4
                  · rw [e3 _ (by omega) (by decide) (by decide)]; exact c5
                  · rw [e3 _ (by omega) (by decide) (by decide)]; exact c6
                  · by_cases ej : j = d
                    · subst ej
                      rw [f2 _ (by omega), g2 _ (by omega)]
                      show sR σ (59 + j) _ (59 + j) t = _
                      rw [sR_s]
                      by_cases et : b ≤ t ∧ t < b + n
                      · rw [pk_cpy_in et.1 et.2, show 24 * j + t = 24 * j + b + (t - b) by omega, f4 _ (by omega) (by omega), g4 _ (by omega) (by omega), e1 _ (by omega), a7 _ (by omega), show 24 * s + a + (t - b) = 24 * s + (a + (t - b)) by omega]
                      · rw [pk_cpy_out (by omega), f3 _ (by omega), e78]
                        exact c7 t ht
                    · rw [e3 _ (by omega) (by omega) (by omega), f3 _ (by omega), e78]
                      exact c7 t ht
              · refine P_err (FC := f_X6_move (nI s) (nI a) (nI d) x3 (nI n)) (FM := f_X7_move (nI s) (nI a) (nI d) x3 (nI n)) (k := 1) hI (C ?_) (M _ (eC_c (by decide)) ?_)
                · exact ob_i (c_holds_t hs a2 a5 q1) (ite_n (by decide) (ob_i (c_holds_f hd b2 b5 q2) (ite_p rfl (ob_i (p_failing (k := 1) (by decide)) rfl))))
                · refine ite_n (nI_nn (by omega)) (ite_n (nI_nn (by omega)) ?_)
                  by_cases p1 : x3 < 0
                  · exact ite_p p1 hb
                  · obtain ⟨b, hb3, rfl⟩ := nI_of p1
                    refine ite_n p1 (ite_p (inb_i hs (by decide)) (ite_n ?_ (ite_p (inb_i hd (by decide)) (ite_n ?_ hb))))
                    · rw [nI_clamp (by omega), g77, a6, pk_sub (by omega)]
                      exact nI_nlt (by omega) (by omega)
                    · rw [nI_clamp (by omega), g77, b6]
                      by_cases p2 : n ≤ c d
                      · rw [pk_sub p2]
                        exact nI_ge (Nat.not_le.mp fun q => q2 ⟨b, n, by omega, rfl, rfl⟩) hb3
                      · intro q
                        have := pk_sneg (a := c d) (b := n) (by omega) (by omega)
                        rw [f_le, nI_toInt hb3] at q
                        rw [f_lt, show (0 : Int32).toInt = 0 from rfl] at this
                        omega
            · refine P_err (FC := f_X6_move (nI s) x1 (nI d) x3 x4) (FM := f_X7_move (nI s) x1 (nI d) x3 x4) (k := 1) hI (C ?_) (M _ (eC_c (by decide)) ?_)
              · exact ob_i (c_holds_f hs a2 a5 q1) (ite_p rfl (ob_i (p_failing (k := 1) (by decide)) rfl))
              · by_cases p0 : x4 < 0
                · exact ite_p p0 hb
                · refine ite_n p0 ?_
                  by_cases p1 : x1 < 0
                  · exact ite_p p1 hb
                  · refine ite_n p1 ?_
                    by_cases p2 : x3 < 0
                    · exact ite_p p2 hb
                    · refine ite_n p2 (ite_p (inb_i hs (by decide)) (ite_p ?_ hb))
                      obtain ⟨n, hn, rfl⟩ := nI_of p0
                      obtain ⟨a, ha, rfl⟩ := nI_of p1
                      rw [nI_clamp (by omega), g77, a6]
                      by_cases p3 : n ≤ c s
                      · rw [pk_sub p3]
                        exact nI_lt (Nat.not_le.mp fun q => q1 ⟨a, n, by omega, rfl, rfl⟩) ha
                      · have e : (nI (c s) - nI n : Int32).toInt = (c s : Int) - n := by
                          rw [Int32.toInt_sub, nI_toInt (by omega), nI_toInt hn]
                          exact Int.bmod_eq_of_le (by omega) (by omega)
                        rw [f_lt, e, nI_toInt ha]
                        omega
          · have hw2 : ¬ nI (w s) = nI (w d) := by rw [nI_eq (by omega) (by omega)]; exact hw
            refine P_err (FC := f_X6_move (nI s) x1 (nI d) x3 x4) (FM := f_X7_move (nI s) x1 (nI d) x3 x4) (k := 5) hI ?_ ?_
            · exact ob_i (isSheet_t hv) (ite_n (by decide) (ob_i (isSheet_t hu) (ite_n (by decide) (ob_i ms (ite_p rfl (ob_i md (ite_p rfl (ob_i (c_bits hs a3) (ob_i (c_bits hd b3) (ite_n hw2 (ob_i (p_failing (k := 5) (by decide)) rfl)))))))))))
            · refine ob_i (isSheetM_t hv) (ite_n (by decide) (ob_i (isSheetM_t hu) (ite_n (by decide) (ite_p (inb_i hs (by decide)) (ite_n ?_ (ite_p (inb_i hd (by decide)) (ite_n ?_ (ite_p (inb_i hs (by decide)) (ite_p (inb_i hd (by decide)) (ite_n ?_ (ob_i (p_error (k := 5) (by decide)) rfl)))))))))))
              · rw [nI_clamp (by omega), eC_c (by decide), a4]; exact nI_ne0 (by omega) (by omega)
              · rw [nI_clamp (by omega), eC_c (by decide), b4]; exact nI_ne0 (by omega) (by omega)
              · rw [nI_clamp (by omega), nI_clamp (by omega), eC_c (by decide), a4, b4]; exact hw2
    · exact P_err (FC := f_X6_move x0 x1 x2 x3 x4) (FM := f_X7_move x0 x1 x2 x3 x4) (k := 1) hI (ob_i (isSheet_t hv) (ite_n (by decide) (ob_i (isSheet_f hu) (ite_p rfl (ob_i (p_failing (k := 1) (by decide)) rfl))))) (ob_i (isSheetM_t hv) (ite_n (by decide) (ob_i (isSheetM_f hu) (ite_p rfl (ob_i (p_error (k := 1) (by decide)) rfl)))))
  · exact P_err (FC := f_X6_move x0 x1 x2 x3 x4) (FM := f_X7_move x0 x1 x2 x3 x4) (k := 1) hI (ob_i (isSheet_f hv) (ite_p rfl (ob_i (p_failing (k := 1) (by decide)) rfl))) (ob_i (isSheetM_f hv) (ite_p rfl (ob_i (p_error (k := 1) (by decide)) rfl)))
