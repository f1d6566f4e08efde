/-! feed, build -/
/-- byte i of a long -/
def bt (x : Int64) (i : Nat) : Nat := x.toBitVec.toNat / 2 ^ (8 * i) % 256
theorem bt_l (x : Int64) (i : Nat) : bt x i < 256 := Nat.mod_lt _ (by decide)
theorem and255 (y : Int64) : (y &&& 255).toInt32 = nI (y.toBitVec.toNat % 256) := by
  rw [← lN_i]
  refine congrArg Int64.toInt32 (Int64.toBitVec_inj.mp (BitVec.eq_of_toNat_eq ?_))
  have h : y.toBitVec.toNat % 256 < 2 ^ 64 := by omega
  show (y.toBitVec &&& 255#64).toNat = (BitVec.ofNat 64 (y.toBitVec.toNat % 256)).toNat
  rw [BitVec.toNat_and, BitVec.toNat_ofNat (x := y.toBitVec.toNat % 256), Nat.mod_eq_of_lt h, show (255#64 : BitVec 64).toNat = 2 ^ 8 - 1 from rfl, Nat.and_two_pow_sub_one_eq_mod]
theorem lushr8 (y : Int64) : (lushr y 8).toBitVec.toNat = y.toBitVec.toNat / 256 := by
  have : (lushr y 8).toBitVec = y.toBitVec >>> (8 : Nat) := rfl
  rw [this, BitVec.toNat_ushiftRight, Nat.shiftRight_eq_div_pow]
theorem lshr8 (x : Int64) {i : Nat} (hi : i < 8) : ((lshr x (nI (8 * i))) &&& 255).toInt32 = nI (bt x i) := by
  have e : (lshr x (nI (8 * i))).toBitVec = x.toBitVec.sshiftRight (8 * i) := by
    rcases (show i = 0 ∨ i = 1 ∨ i = 2 ∨ i = 3 ∨ i = 4 ∨ i = 5 ∨ i = 6 ∨ i = 7 by omega) with rfl | rfl | rfl | rfl | rfl | rfl | rfl | rfl <;> rfl
  rw [and255, e]
  refine congrArg nI ?_
  unfold bt
  rw [show (256 : Nat) = 2 ^ 8 from rfl, ← Nat.shiftRight_eq_div_pow, ← BitVec.toNat_ushiftRight]
  refine Nat.eq_of_testBit_eq fun j => ?_
  rw [Nat.testBit_mod_two_pow, Nat.testBit_mod_two_pow]
  by_cases hj : j < 8
  · have h1 : 8 * i + j < 64 := by omega
    have h2 : j < 64 := by omega
    simp [BitVec.testBit_toNat, BitVec.getLsbD_sshiftRight, BitVec.getLsbD_ushiftRight, hj, h1]
    omega
  · simp [hj]
theorem bt_y {x y : Int64} {i : Nat} (h : y.toBitVec.toNat = x.toBitVec.toNat / 2 ^ (8 * i)) : (y &&& 255).toInt32 = nI (bt x i) ∧ (lushr y 8).toBitVec.toNat = x.toBitVec.toNat / 2 ^ (8 * (i + 1)) := by
  refine ⟨by rw [and255, h]; rfl, ?_⟩
  rw [lushr8, h, Nat.div_div_eq_div_mul, show (256 : Nat) = 2 ^ 8 from rfl, ← Nat.pow_add, show 8 * i + 8 = 8 * (i + 1) by omega]
theorem c_feedL (x : Int64) {n : Nat} (hn : n ≤ 8) : ∀ (k i t : Nat) (σ : St) (y : Int64), σ 2 1 = nI t → t + (n - i) ≤ 60 → i ≤ n → n < k + i → y.toBitVec.toNat = x.toBitVec.toNat / 2 ^ (8 * i) → ∃ σ1, f_X0_addBytes_L6 k (nI n) y (nI i) σ = some (nI (t + (n - i)), σ1) ∧ σ1 2 1 = nI (t + (n - i)) ∧ (∀ q, q ≠ 2 → q ≠ 3 → σ1 q = σ q) ∧ (∀ j, j < t → σ1 3 j = σ 3 j) ∧ (∀ j, i ≤ j → j < n → σ1 3 (t + (j - i)) = nI (bt x j)) := by
  intro k
  induction k with
  | zero => intro i t σ y h1 h2 h3 h4; omega
  | succ k ih =>
    intro i t σ y h1 h2 h3 h4 h5
    by_cases e : i = n
    · subst e
      refine ⟨σ, ?_, ?_, fun q _ _ => rfl, fun j _ => rfl, fun j h6 h7 => by omega⟩
      · show f_X0_addBytes_b6 _ _ _ _ _ = _
        refine ite_p (nI_le (by omega) (by omega)) ?_
        rw [h1, Nat.sub_self, Nat.add_zero]
      · rw [h1, Nat.sub_self, Nat.add_zero]
    · obtain ⟨b1, b2⟩ := bt_y h5
      obtain ⟨σ1, g1, g2, g3, g4, g5⟩ := ih (i + 1) (t + 1) (st (st σ 3 t (nI (bt x i))) 2 1 (nI (t + 1))) (lushr y 8) st_s (by omega) (by omega) (by omega) b2
      refine ⟨σ1, ?_, ?_, fun q h6 h7 => ?_, fun j h6 => ?_, fun j h6 h7 => ?_⟩
      · show f_X0_addBytes_b6 _ _ _ _ _ = _
        unfold f_X0_addBytes_b6
        rw [h1]
        refine ite_n (nI_ge (by omega) (by omega)) (ite_n (nI_ge (b := 60) (by omega) (by decide)) (ite_p (inb_i (by omega) (by decide)) (ol_i (ol_i ?_))))
        rw [nI_clamp (by omega), st_c (by decide), h1, nI_1, nI_1, b1, g1, show t + 1 + (n - (i + 1)) = t + (n - i) by omega]
      · rw [g2, show t + 1 + (n - (i + 1)) = t + (n - i) by omega]
      · rw [g3 q h6 h7, st_c h6, st_c h7]
      · rw [g4 j (by omega), st_c (by decide), st_k (by omega)]
      · by_cases ej : j = i
        · subst ej
          rw [Nat.sub_self, Nat.add_zero, g4 t (by omega), st_c (by decide), st_s]
        · rw [show t + (j - i) = t + 1 + (j - (i + 1)) by omega]
          exact g5 j (by omega) h7
theorem m_feedL (x : Int64) {n : Nat} (hn : n ≤ 8) : ∀ (k i t : Nat) (σ : St), σ 67 3 = nI t → t + (n - i) ≤ 60 → i ≤ n → n < k + i → ∃ σ1, f_X7_feed_L38 k x (nI n) (nI i) σ = some (nI (t + (n - i)), σ1) ∧ σ1 67 3 = nI (t + (n - i)) ∧ (∀ q, q ≠ 67 → σ1 q = σ q) ∧ (∀ j, j ≠ 3 → j < 298 + t ∨ 358 ≤ j → σ1 67 j = σ 67 j) ∧ (∀ j, i ≤ j → j < n → σ1 67 (298 + t + (j - i)) = nI (bt x j)) := by
  intro k
  induction k with
  | zero => intro i t σ h1 h2 h3 h4; omega
  | succ k ih =>
    intro i t σ h1 h2 h3 h4
    have h1' : σ 67 (Int32.toNatClampNeg 3) = nI t := h1
    by_cases e : i = n
    · subst e
      refine ⟨σ, ?_, ?_, fun q _ => rfl, fun j _ _ => rfl, fun j h6 h7 => by omega⟩
      · show f_X7_feed_b38 _ _ _ _ _ = _
        refine ite_p (nI_le (by omega) (by omega)) (ite_p (inb_l (by decide) (by decide)) ?_)
        rw [h1', Nat.sub_self, Nat.add_zero]
      · rw [h1, Nat.sub_self, Nat.add_zero]
    · obtain ⟨σ1, g1, g2, g3, g4, g5⟩ := ih (i + 1) (t + 1) (st (st σ 67 (298 + t) (nI (bt x i))) 67 3 (nI (t + 1))) st_s (by omega) (by omega) (by omega)
      refine ⟨σ1, ?_, ?_, fun q h6 => ?_, fun j h6 h7 => ?_, fun j h6 h7 => ?_⟩
      · show f_X7_feed_b38 _ _ _ _ _ = _
        unfold f_X7_feed_b38
        simp only [h1']
        rw [show (298 + nI t : Int32) = nI (298 + t) from nI_add 298 _, show (8 * nI i : Int32) = nI (8 * i) from pk_mul 8 _, lshr8 x (by omega)]
        refine ite_n (nI_ge (by omega) (by omega)) (ite_p (inb_l (by decide) (by decide)) (ite_p (inb_i (by omega) (by decide)) (ol_i (ite_p (inb_l (by decide) (by decide)) (ite_p (inb_l (by decide) (by decide)) (ol_i ?_))))))
        rw [nI_clamp (by omega), st_k (show Int32.toNatClampNeg 3 ≠ 298 + t by show 3 ≠ 298 + t; omega), h1', nI_1, nI_1, cl_lit (by decide), g1, show t + 1 + (n - (i + 1)) = t + (n - i) by omega]
      · rw [g2, show t + 1 + (n - (i + 1)) = t + (n - i) by omega]
      · rw [g3 q h6, st_c h6, st_c h6]
      · rw [g4 j h6 (by omega), st_k h6, st_k (by omega)]
      · by_cases ej : j = i
        · subst ej
          rw [Nat.sub_self, Nat.add_zero, g4 (298 + t) (by omega) (by omega), st_k (by omega), st_s]
        · rw [show 298 + t + (j - i) = 298 + (t + 1) + (j - (i + 1)) by omega]
          exact g5 j (by omega) h7
theorem P_feed {σ : St} (hI : Inv σ) (x0 : Int64) (x1 : Int32) : ∃ (r : Int32) (σ1 σ2 : St), f_X6_feed x0 x1 σ = some (r, σ1) ∧ f_X7_feed x0 x1 σ1 = some (r, σ2) ∧ Inv σ2 := by
  obtain ⟨⟨N, z, wt, tx, hC, hM, hK⟩, -⟩ := id hI
  have h60 := hK.t
  by_cases hv : isR 1 9 x1
  · obtain ⟨n, hn1, hn2, rfl⟩ := id hv
    have hadd : ∀ a, (nI a + nI n : Int32) = nI (a + n) := fun a => nI_add a n
    by_cases hf : N 0 4 + n ≤ 60
    · obtain ⟨σ1, a1, a2, a3, a4, a5⟩ := c_feedL x0 (n := n) (by omega) LF 0 (N 0 4) σ x0 hC.t (by omega) (by omega) (by unfold LF; omega) (by simp)
      have hMt : σ1 67 3 = nI (N 0 4) := by rw [a3 67 (by decide) (by decide)]; exact hM.t
      obtain ⟨σ2, b1, b2, b3, b4, b5⟩ := m_feedL x0 (n := n) (by omega) LF 0 (N 0 4) σ1 hMt (by omega) (by omega) (by unfold LF; omega)
      have m67 : σ1 67 = σ 67 := a3 67 (by decide) (by decide)
      refine ⟨nI (N 0 4 + (n - 0)), σ1, σ2, ?_, ?_, ?_⟩
      · unfold f_X6_feed
        rw [hC.t, hadd]
        exact ite_n (nI_nlt (b := 1) (by omega) (by omega)) (ite_p (nI_le (b := 8) (by omega) (by decide)) (ite_p (nI_le (b := 60) hf (by decide)) (ob_i a1 rfl)))
      · refine ob_i (in_t hv (by decide) rfl rfl) (ite_n (by decide) (ite_p (inb_l (by decide) (by decide)) (ite_p ?_ b1)))
        rw [cl_lit (by decide), hMt, hadd]
        exact nI_le (b := 60) hf (by decide)
      · rw [Nat.sub_zero] at a2 b2
        have e1 : ∀ q, q ≠ 2 → q ≠ 3 → q ≠ 67 → σ2 q = σ q := fun q h1 h2 h3 => by rw [b3 q h3, a3 q h1 h2]
        have e2 : σ2 2 = σ1 2 := b3 2 (by decide)
        have e3 : σ2 3 = σ1 3 := b3 3 (by decide)
        refine hI.main (fun q k hp => ?_) ⟨fun a b => if a = 0 ∧ b = 4 then N 0 4 + n else if a = 6 ∧ N 0 4 ≤ b then bt x0 (b - N 0 4) else N a b, z, wt, tx, ?_, ?_, ?_⟩
        · rw [e1 q] <;> (rintro rfl; revert hp; unfold mnP; simp)
        · obtain ⟨c1, c2, c3, c4, c5, c6, c7, c8, c9, c10⟩ := hC
          refine ⟨?_, ?_, ?_, ?_, ?_, ?_, fun j hj => ?_, fun j hj => ?_, fun j hj => ?_, fun u hu => ⟨?_, fun j hj => ?_⟩⟩
          · rw [e1 _ (by omega) (by omega) (by omega)]; exact c1
          · rw [e1 _ (by omega) (by omega) (by omega)]; exact c2
          · rw [e1 _ (by omega) (by omega) (by omega)]; exact c3
          · rw [e1 _ (by omega) (by omega) (by omega)]; exact c4
          · rw [e1 _ (by omega) (by omega) (by omega)]; exact c5
          · show σ2 2 1 = _
            rw [e2, a2]; rfl
          · rw [e1 _ (by omega) (by omega) (by omega), e1 _ (by omega) (by omega) (by omega), e1 _ (by omega) (by omega) (by omega), e1 _ (by omega) (by omega) (by omega)]; exact c7 j hj
          · rw [e1 _ (by omega) (by omega) (by omega)]; exact c8 j hj
          · show σ2 3 j = nI (if 6 = 6 ∧ N 0 4 ≤ j then _ else _)
            have hj2 : j < N 0 4 + n := hj
            rw [e3]
            by_cases q : N 0 4 ≤ j
            · have := a5 (j - N 0 4) (by omega) (by omega)
              rw [show N 0 4 + (j - N 0 4 - 0) = j by omega] at this
              rw [this, if_pos ⟨rfl, q⟩]
            · rw [if_neg (fun h => q h.2), a4 j (by omega)]
              exact c9 j (by omega)
          · rw [e1 _ (by omega) (by omega) (by omega)]; exact (c10 u hu).1
          · rw [e1 _ (by omega) (by omega) (by omega)]; exact (c10 u hu).2 j hj
        · obtain ⟨c1, c2, c3, c4, c5, c6, c7, c8, c9, c10⟩ := hM
          have h10 := hK.n
          have f : ∀ j, j ≠ 3 → j < 298 + N 0 4 ∨ 358 ≤ j → σ2 67 j = σ 67 j := fun j h1 h2 => by rw [b4 j h1 h2, m67]
          refine ⟨?_, ?_, ?_, ?_, ?_, ?_, fun j hj => ?_, fun j hj => ?_, fun j hj => ?_, fun u hu => ⟨?_, fun j hj => ?_⟩⟩
          · rw [f _ (by omega) (by omega)]; exact c1
          · rw [f _ (by omega) (by omega)]; exact c2
          · rw [f _ (by omega) (by omega)]; exact c3
          · rw [f _ (by omega) (by omega)]; exact c4
          · rw [f _ (by omega) (by omega)]; exact c5
          · rw [b2]; rfl
          · have hj2 : j < N 0 0 := hj
            rw [f _ (by omega) (by omega), f _ (by omega) (by omega), f _ (by omega) (by omega), f _ (by omega) (by omega)]; exact c7 j hj
          · rw [f _ (by omega) (by omega)]; exact c8 j hj
          · show σ2 67 (298 + j) = nI (if 6 = 6 ∧ N 0 4 ≤ j then _ else _)
            have hj2 : j < N 0 4 + n := hj
            by_cases q : N 0 4 ≤ j
            · have := b5 (j - N 0 4) (by omega) (by omega)
              rw [show 298 + N 0 4 + (j - N 0 4 - 0) = 298 + j by omega] at this
              rw [this, if_pos ⟨rfl, q⟩]
            · rw [if_neg (fun h => q h.2), f _ (by omega) (by omega)]
              exact c9 j (by omega)
          · rw [f _ (by omega) (by omega)]; exact (c10 u hu).1
          · have hj2 : j < N 7 u := hj
            have := hK.tn hu
            rw [f _ (by omega) (by omega), f _ (by omega) (by omega)]; exact (c10 u hu).2 j hj
        · obtain ⟨c1, c2, c3, c4, c5, c6, c7, c8⟩ := hK
          refine ⟨c1, c2, c3, c4, hf, c6, fun i hi => ?_, c8⟩
          have hi2 : i < N 0 4 + n := hi
          show (if 6 = 6 ∧ N 0 4 ≤ i then bt x0 (i - N 0 4) else N 6 i) < 256
          by_cases q : N 0 4 ≤ i
          · rw [if_pos ⟨rfl, q⟩]; exact bt_l _ _
          · rw [if_neg (fun h => q h.2)]; exact c7 i (by omega)
    · refine P_err (k := 4) hI ?_ ?_
      · unfold f_X6_feed
        rw [hC.t, hadd]
        exact ite_n (nI_nlt (b := 1) (by omega) (by omega)) (ite_p (nI_le (b := 8) (by omega) (by decide)) (ite_n (nI_ge (a := 60) (by omega) (by omega)) (ob_i (p_failing (k := 4) (by decide)) rfl)))
      · refine ob_i (in_t hv (by decide) rfl rfl) (ite_n (by decide) (ite_p (inb_l (by decide) (by decide)) (ite_n ?_ (ob_i (p_error (k := 4) (by decide)) rfl))))
        rw [cl_lit (by decide), eC_c (by decide), hM.t, hadd]
        exact nI_ge (a := 60) (by omega) (by omega)
  · refine P_err (k := 1) hI ?_ (ob_i (in_f hv (by decide) rfl rfl) (ite_p rfl (ob_i (p_error (k := 1) (by decide)) rfl)))
    unfold f_X6_feed
    rw [isR_iff (by decide)] at hv
    by_cases h0 : x1 < 1
    · exact ite_p h0 (ob_i (p_failing (k := 1) (by decide)) rfl)
    · refine ite_n h0 (ite_n ?_ (ob_i (p_failing (k := 1) (by decide)) rfl))
      rw [f_lt, show (1 : Int32).toInt = 1 from rfl] at h0
      rw [f_le, show (8 : Int32).toInt = 8 from rfl]
      omega
