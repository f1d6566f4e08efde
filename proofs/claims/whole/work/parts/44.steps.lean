/-! a text worked out: the same on both sides -/
/-- what one step makes of two numbers -/
def jn (x a b : Int32) : Int32 :=
  if x = 38 then (if a = 0 then 0 else if b = 0 then 0 else 1)
  else if x = 42 then a * b
  else if x = 43 then a + b
  else if x = 45 then a - b
  else if x = 47 then (if b = 0 then 0 else a / b)
  else if x = 60 then (if b ≤ a then 0 else 1)
  else if x = 61 then (if a = b then 1 else 0)
  else if x = 62 then (if a ≤ b then 0 else 1)
  else if x = 124 then (if a = 0 then (if b = 0 then 0 else 1) else 1)
  else (if b = 0 then 0 else irm a b)
theorem c_joined (x a b : Int32) (σ : St) : f_X0_joined x a b σ = some (jn x a b, σ) := by
  unfold f_X0_joined jn
  by_cases h1 : x = 38
  · rw [if_pos h1, if_pos h1]
    by_cases g : a = 0
    · rw [if_pos g, if_pos g]
    · rw [if_neg g, if_neg g]
      by_cases g2 : b = 0
      · rw [if_pos g2, if_pos g2]
      · rw [if_neg g2, if_neg g2]
  rw [if_neg h1, if_neg h1]
  by_cases h2 : x = 42
  · rw [if_pos h2, if_pos h2]
  rw [if_neg h2, if_neg h2]
  by_cases h3 : x = 43
  · rw [if_pos h3, if_pos h3]
  rw [if_neg h3, if_neg h3]
  by_cases h4 : x = 45
  · rw [if_pos h4, if_pos h4]
  rw [if_neg h4, if_neg h4]
  by_cases h5 : x = 47
  · rw [if_pos h5, if_pos h5]
    by_cases g : b = 0
    · rw [if_pos g, if_pos g]
    · rw [if_neg g, if_neg g, if_pos g]
  rw [if_neg h5, if_neg h5]
  by_cases h6 : x = 60
  · rw [if_pos h6, if_pos h6]
    by_cases g : b ≤ a
    · rw [if_pos g, if_pos g]
    · rw [if_neg g, if_neg g]
  rw [if_neg h6, if_neg h6]
  by_cases h7 : x = 61
  · rw [if_pos h7, if_pos h7]
    by_cases g : a = b
    · rw [if_pos g, if_pos g]
    · rw [if_neg g, if_neg g]
  rw [if_neg h7, if_neg h7]
  by_cases h8 : x = 62
  · rw [if_pos h8, if_pos h8]
    by_cases g : a ≤ b
    · rw [if_pos g, if_pos g]
    · rw [if_neg g, if_neg g]
  rw [if_neg h8, if_neg h8]
  by_cases h9 : x = 124
  · rw [if_pos h9, if_pos h9]
    by_cases g : a = 0
    · rw [if_pos g, if_pos g]
      by_cases g2 : b = 0
      · rw [if_pos g2, if_pos g2]
      · rw [if_neg g2, if_neg g2]
    · rw [if_neg g, if_neg g]
  rw [if_neg h9, if_neg h9]
  by_cases g : b = 0
  · rw [if_pos g, if_pos g]
  · rw [if_neg g, if_neg g, if_pos g]
theorem sdiv_m1 (a : Int32) : a / (-1) = -a := by
  rw [← Int32.toBitVec_inj, Int32.toBitVec_div, Int32.toBitVec_neg]
  show a.toBitVec.sdiv (-1#32) = -a.toBitVec
  refine BitVec.eq_of_toInt_eq ?_
  rw [BitVec.toInt_sdiv, show ((-1#32 : BitVec 32)).toInt = -1 from rfl, Int.tdiv_neg, Int.tdiv_one, BitVec.toInt_neg]
theorem irm_m1 (a : Int32) : irm a (-1) = 0 := by
  unfold irm
  rw [sdiv_m1]
  rw [show (-a * -1 : Int32) = a by rw [Int32.neg_mul, Int32.mul_neg, Int32.neg_neg, Int32.mul_one]]
  exact Int32.sub_self a
theorem m_joined {x a b : Int32} {σ : St} (hx : x = 124 ∨ x = 38 ∨ x = 60 ∨ x = 61 ∨ x = 62 ∨ x = 43 ∨ x = 45 ∨ x = 42 ∨ x = 47 ∨ x = 37) : f_X7_joined x a b σ = some (jn x a b, σ) := by
  rcases hx with rfl | rfl | rfl | rfl | rfl | rfl | rfl | rfl | rfl | rfl
  · show (if a = 0 then (if b = 0 then some ((0 : Int32), σ) else some (1, σ)) else some (1, σ)) = some (if a = 0 then (if b = 0 then 0 else 1) else 1, σ)
    by_cases g : a = 0
    · rw [if_pos g, if_pos g]
      by_cases g2 : b = 0
      · rw [if_pos g2, if_pos g2]
      · rw [if_neg g2, if_neg g2]
    · rw [if_neg g, if_neg g]
  · show (if a = 0 then some ((0 : Int32), σ) else (if b = 0 then some (0, σ) else some (1, σ))) = some (if a = 0 then 0 else if b = 0 then 0 else 1, σ)
    by_cases g : a = 0
    · rw [if_pos g, if_pos g]
    · rw [if_neg g, if_neg g]
      by_cases g2 : b = 0
      · rw [if_pos g2, if_pos g2]
      · rw [if_neg g2, if_neg g2]
  · show (if b ≤ a then some ((0 : Int32), σ) else some (1, σ)) = some (if b ≤ a then 0 else 1, σ)
    by_cases g : b ≤ a
    · rw [if_pos g, if_pos g]
    · rw [if_neg g, if_neg g]
  · show (if a = b then some ((1 : Int32), σ) else some (0, σ)) = some (if a = b then 1 else 0, σ)
    by_cases g : a = b
    · rw [if_pos g, if_pos g]
    · rw [if_neg g, if_neg g]
  · show (if a ≤ b then some ((0 : Int32), σ) else some (1, σ)) = some (if a ≤ b then 0 else 1, σ)
    by_cases g : a ≤ b
    · rw [if_pos g, if_pos g]
    · rw [if_neg g, if_neg g]
  · rfl
  · rfl
  · rfl
  · show (if b = 0 then some ((0 : Int32), σ) else if b = -1 then some (-a, σ) else if ¬ b = 0 then some (a / b, σ) else none) = some (if b = 0 then 0 else a / b, σ)
    by_cases g : b = 0
    · rw [if_pos g, if_pos g]
    · rw [if_neg g, if_neg g]
      by_cases g2 : b = -1
      · rw [if_pos g2, g2, sdiv_m1]
      · rw [if_neg g2, if_pos g]
  · show (if b = 0 then some ((0 : Int32), σ) else if b = -1 then some (0, σ) else if ¬ b = 0 then some (irm a b, σ) else none) = some (if b = 0 then 0 else irm a b, σ)
    by_cases g : b = 0
    · rw [if_pos g, if_pos g]
    · rw [if_neg g, if_neg g]
      by_cases g2 : b = -1
      · rw [if_pos g2, g2, irm_m1]
      · rw [if_neg g2, if_pos g]
/-- the numbers on the stack after j steps -/
def rk (x e : Nat → Int32) : Nat → Nat → Int32
  | 0 => fun _ => 0
  | j + 1 => if 0 ≤ x j then upd (rk x e j) (sdep x j) (if 10000 ≤ x j then e (x j - 10000).toNatClampNeg else x j) else if x j = -33 then upd (rk x e j) (sdep x j - 1) (if rk x e j (sdep x j - 1) = 0 then 1 else 0) else upd (rk x e j) (sdep x j - 2) (jn (-(x j)) (rk x e j (sdep x j - 2)) (rk x e j (sdep x j - 1)))
theorem sdep_le {x : Nat → Int32} : ∀ j : Nat, sdep x j ≤ j := by
  intro j
  induction j with
  | zero => exact Nat.le_refl _
  | succ j ih =>
    unfold sdep
    split
    · omega
    · split <;> omega
theorem sg_neg {c : Int32} (h : isSg c) : ¬ 0 ≤ c ∧ c < 0 ∧ ¬ c = -33 ∧ ¬ 10000 ≤ c ∧ (-c = 124 ∨ -c = 38 ∨ -c = 60 ∨ -c = 61 ∨ -c = 62 ∨ -c = 43 ∨ -c = 45 ∨ -c = 42 ∨ -c = 47 ∨ -c = 37) := by
  rcases h with rfl | rfl | rfl | rfl | rfl | rfl | rfl | rfl | rfl | rfl <;> decide
theorem rk_p {x e : Nat → Int32} {j : Nat} (h : 0 ≤ x j) : rk x e (j + 1) = upd (rk x e j) (sdep x j) (if 10000 ≤ x j then e (x j - 10000).toNatClampNeg else x j) ∧ sdep x (j + 1) = sdep x j + 1 := ⟨if_pos h, if_pos h⟩
theorem rk_n {x e : Nat → Int32} {j : Nat} (h : x j = -33) : rk x e (j + 1) = upd (rk x e j) (sdep x j - 1) (if rk x e j (sdep x j - 1) = 0 then 1 else 0) ∧ sdep x (j + 1) = sdep x j := by
  have h0 : ¬ 0 ≤ x j := by rw [h]; decide
  constructor
  · show (if 0 ≤ x j then _ else if x j = -33 then _ else _) = _
    rw [if_neg h0, if_pos h]
  · show (if 0 ≤ x j then _ else if x j = -33 then _ else _) = _
    rw [if_neg h0, if_pos h]
theorem rk_s {x e : Nat → Int32} {j : Nat} (h : isSg (x j)) : rk x e (j + 1) = upd (rk x e j) (sdep x j - 2) (jn (-(x j)) (rk x e j (sdep x j - 2)) (rk x e j (sdep x j - 1))) ∧ sdep x (j + 1) = sdep x j - 1 := by
  obtain ⟨h0, -, h1, -⟩ := sg_neg h
  constructor
  · show (if 0 ≤ x j then _ else if x j = -33 then _ else _) = _
    rw [if_neg h0, if_neg h1]
  · show (if 0 ≤ x j then _ else if x j = -33 then _ else _) = _
    rw [if_neg h0, if_neg h1]
theorem c_named {i : Nat} (hi : i < 3) (a b c : Int32) (e : Nat → Int32) (h0 : e 0 = a) (h1 : e 1 = b) (h2 : e 2 = c) (σ : St) : f_X0_named (nI i) a b c σ = some (e i, σ) := by
  rcases (show i = 0 ∨ i = 1 ∨ i = 2 by omega) with rfl | rfl | rfl
  · rw [h0]; rfl
  · rw [h1]; rfl
  · rw [h2]; rfl
theorem c_workL {x e : Nat → Int32} {u n : Nat} (hu : u < 2) (hn : n ≤ 60) (hw : wfT x n) : ∀ (f j : Nat) (σ : St), (∀ i, i < n → σ (5 + u) i = x i) → (∀ i, i < sdep x j → σ 8 i = rk x e j i) → j ≤ n → n < f + j → ∃ σ1, f_X0_workOut_L6 f (5 + u) (nI n) (e 0) (e 1) (e 2) (nI (sdep x j) - 1) (nI j) σ = some (rk x e n 0, σ1) ∧ ∀ q, q ≠ 8 → σ1 q = σ q := by
  intro f
  induction f with
  | zero => intro j σ h1 h2 h3 h4; omega
  | succ f ih =>
    intro j σ h1 h2 h3 h4
    have ha : alen (5 + u) = 60 := by rcases (show u = 0 ∨ u = 1 by omega) with rfl | rfl <;> rfl
    show ∃ σ1, f_X0_workOut_b6 (f_X0_workOut_L6 f) (5 + u) (nI n) (e 0) (e 1) (e 2) (nI (sdep x j) - 1) (nI j) σ = some (rk x e n 0, σ1) ∧ _
    by_cases ej : j = n
    · subst ej
      refine ⟨σ, ?_, fun q _ => rfl⟩
      unfold f_X0_workOut_b6
      rw [hw.2]
      refine ite_p (nI_le (by omega) (by omega)) (ite_n (by decide) (ite_p (by decide) ?_))
      rw [show (nI 1 - 1 : Int32).toNatClampNeg = 0 from rfl, h2 0 (by rw [hw.2]; decide)]
    · have hd := sdep_le (x := x) j
      have hxj := h1 j (by omega)
      have c1 : ¬ nI n ≤ nI j := nI_ge (by omega) (by omega)
      have c2 : ¬ (Int32.ofNat 60) ≤ nI j := nI_ge (b := 60) (by omega) (by decide)
      unfold f_X0_workOut_b6
      rw [ha]
      have hcell : σ (5 + u) (nI j).toNatClampNeg = x j := by rw [nI_clamp (by omega)]; exact hxj
      rcases hw.1 j (by omega) with ⟨v, hv, hvx⟩ | ⟨h33, hd1⟩ | ⟨hsg, hd2⟩
      · have p0 : 0 ≤ x j := by rw [hvx]; exact nI_pos' (by omega)
        obtain ⟨r1, r2⟩ := rk_p (e := e) p0
        have np : ¬ x j < 0 := by rw [hvx]; exact nI_nn (by omega)
        have em : imin (nI (sdep x j) - 1 + 1) (60 - 1) = nI (sdep x j) := by
          rw [Int32.sub_add_cancel]
          exact if_neg (nI_nlt (a := 59) (by omega) (by decide))
        rw [em]
        have nx : ∀ w, w = (if 10000 ≤ x j then e (x j - 10000).toNatClampNeg else x j) → ∃ σ1, f_X0_workOut_L6 f (5 + u) (nI n) (e 0) (e 1) (e 2) (nI (sdep x j)) (nI (j + 1)) (st σ 8 (sdep x j) w) = some (rk x e n 0, σ1) ∧ ∀ q, q ≠ 8 → σ1 q = σ q := by
          rintro w rfl
          obtain ⟨σ1, g1, g2⟩ := ih (j + 1) (st σ 8 (sdep x j) (if 10000 ≤ x j then e (x j - 10000).toNatClampNeg else x j)) (fun i hi => by rw [st_c (by omega)]; exact h1 i hi) (fun i hi => by
            rw [r1]
            rw [r2] at hi
            by_cases ei : i = sdep x j
            · rw [ei, st_s, pk_us]
            · rw [st_k ei, pk_un ei]; exact h2 i (by omega)) (by omega) (by omega)
          rw [r2, nI_pred] at g1
          exact ⟨σ1, g1, fun q hq => by rw [g2 q hq, st_c hq]⟩
        by_cases pn : 10000 ≤ v
        · have pn' : 10000 ≤ x j := by rw [hvx]; exact nI_le (a := 10000) pn (by omega)
          have ev : (x j - 10000 : Int32) = nI (v - 10000) := by rw [hvx]; exact pk_sub pn
          obtain ⟨σ1, g1, g2⟩ := nx (e (v - 10000)) (by rw [if_pos pn', ev, nI_clamp (by omega)])
          refine ⟨σ1, ite_n c1 (ite_p (by decide) (ite_n c2 (ite_p (inb_i (by omega) (by decide)) (ite_n (by rw [hcell]; exact np) (ite_p (by rw [hcell]; exact pn') ?_))))), g2⟩
          rw [hcell, ev]
          refine ob_i (c_named (by omega) _ _ _ e rfl rfl rfl σ) (ite_p (inb_i (by omega) (by decide)) (ol_i ?_))
          rw [nI_clamp (by omega), nI_1]
          exact g1
        · have pn' : ¬ 10000 ≤ x j := by rw [hvx]; exact nI_ge (b := 10000) (by omega) (by omega)
          obtain ⟨σ1, g1, g2⟩ := nx (x j) (by rw [if_neg pn'])
          refine ⟨σ1, ite_n c1 (ite_p (by decide) (ite_n c2 (ite_p (inb_i (by omega) (by decide)) (ite_n (by rw [hcell]; exact np) (ite_n (by rw [hcell]; exact pn') (ite_p (inb_i (by omega) (by decide)) (ol_i ?_))))))), g2⟩
          rw [hcell, nI_clamp (by omega), nI_1]
          exact g1
      · obtain ⟨r1, r2⟩ := rk_n (e := e) h33
        have ed : (nI (sdep x j) - 1 : Int32) = nI (sdep x j - 1) := pk_sub (b := 1) hd1
        have nx : ∀ w, w = (if rk x e j (sdep x j - 1) = 0 then 1 else 0) → ∃ σ1, f_X0_workOut_L6 f (5 + u) (nI n) (e 0) (e 1) (e 2) (nI (sdep x j - 1)) (nI (j + 1)) (st σ 8 (sdep x j - 1) w) = some (rk x e n 0, σ1) ∧ ∀ q, q ≠ 8 → σ1 q = σ q := by
          rintro w rfl
          obtain ⟨σ1, g1, g2⟩ := ih (j + 1) (st σ 8 (sdep x j - 1) (if rk x e j (sdep x j - 1) = 0 then 1 else 0)) (fun i hi => by rw [st_c (by omega)]; exact h1 i hi) (fun i hi => by
            rw [r1]
            rw [r2] at hi
            by_cases ei : i = sdep x j - 1
            · rw [ei, st_s, pk_us]
            · rw [st_k ei, pk_un ei]; exact h2 i (by omega)) (by omega) (by omega)
          rw [r2, ed] at g1
          exact ⟨σ1, g1, fun q hq => by rw [g2 q hq, st_c hq]⟩
        rw [ed]
        have h8 : σ 8 (nI (sdep x j - 1)).toNatClampNeg = rk x e j (sdep x j - 1) := by rw [nI_clamp (by omega)]; exact h2 (sdep x j - 1) (by omega)
        by_cases z0 : rk x e j (sdep x j - 1) = 0
        · obtain ⟨σ1, g1, g2⟩ := nx 1 (if_pos z0).symm
          refine ⟨σ1, ite_n c1 (ite_p (by decide) (ite_n c2 (ite_p (inb_i (by omega) (by decide)) (ite_p (by rw [hcell, h33]; decide) (ite_p (by rw [hcell]; exact h33) (ite_n (nI_nn (by omega)) (ite_p (inb_i (by omega) (by decide)) (ite_p ?_ (ite_p (inb_i (by omega) (by decide)) (ol_i (by rw [nI_clamp (by omega), nI_1]; exact g1))))))))))), g2⟩
          rw [h8]; exact z0
        · obtain ⟨σ1, g1, g2⟩ := nx 0 (if_neg z0).symm
          refine ⟨σ1, ite_n c1 (ite_p (by decide) (ite_n c2 (ite_p (inb_i (by omega) (by decide)) (ite_p (by rw [hcell, h33]; decide) (ite_p (by rw [hcell]; exact h33) (ite_n (nI_nn (by omega)) (ite_p (inb_i (by omega) (by decide)) (ite_n ?_ (ite_p (inb_i (by omega) (by decide)) (ol_i (by rw [nI_clamp (by omega), nI_1]; exact g1))))))))))), g2⟩
          rw [h8]; exact z0
      · obtain ⟨r1, r2⟩ := rk_s (e := e) hsg
        obtain ⟨s0, s1, s2, s3, s4⟩ := sg_neg hsg
        have ed : (nI (sdep x j) - 1 : Int32) = nI (sdep x j - 1) := pk_sub (b := 1) (by omega)
        have ed2 : (nI (sdep x j - 1) + (-1) : Int32) = nI (sdep x j - 2) := by
          obtain ⟨d, hdd⟩ : ∃ d, sdep x j = d + 2 := ⟨sdep x j - 2, by omega⟩
          rw [hdd]
          exact pk_m1 d
        obtain ⟨σ1, g1, g2⟩ := ih (j + 1) (st σ 8 (sdep x j - 2) (jn (-(x j)) (rk x e j (sdep x j - 2)) (rk x e j (sdep x j - 1)))) (fun i hi => by rw [st_c (by omega)]; exact h1 i hi) (fun i hi => by
          rw [r1]
          rw [r2] at hi
          by_cases ei : i = sdep x j - 2
          · rw [ei, st_s, pk_us]
          · rw [st_k ei, pk_un ei]; exact h2 i (by omega)) (by omega) (by omega)
        rw [r2, show (nI (sdep x j - 1) - 1 : Int32) = nI (sdep x j - 2) from (pk_sub (b := 1) (by omega)).trans (by rw [Nat.sub_sub])] at g1
        refine ⟨σ1, ?_, fun q hq => by rw [g2 q hq, st_c hq]⟩
        rw [ed, ed2]
        have ed3 : (nI (sdep x j - 2) + 1 : Int32) = nI (sdep x j - 1) := (nI_1 _).trans (by rw [show sdep x j - 2 + 1 = sdep x j - 1 by omega])
        rw [ed3]
        refine ite_n c1 (ite_p (by decide) (ite_n c2 (ite_p (inb_i (by omega) (by decide)) (ite_p (by rw [hcell]; exact s1) (ite_n (by rw [hcell]; exact s2) (ite_n (nI_nlt (b := 1) (by omega) (by omega)) (ite_p (inb_i (by omega) (by decide)) (ite_p (inb_i (by omega) (by decide)) ?_))))))))
        refine ob_i (c_joined _ _ _ _) (ite_p (inb_i (by omega) (by decide)) (ol_i ?_))
        rw [hcell, nI_clamp (show sdep x j - 2 < 2 ^ 31 by omega), nI_clamp (show sdep x j - 1 < 2 ^ 31 by omega), h2 (sdep x j - 2) (by omega), h2 (sdep x j - 1) (by omega), nI_1]
        exact g1
