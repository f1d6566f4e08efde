/-- StreetNumbersModel.frontOf(I)I -/
def f_X7_frontOf (x1 : Int32) (σ : St) : Rs :=
  ob (f_X7_its x1 1 σ) fun r1 σ1 => (
  ob (f_X7_its x1 0 σ1) fun r2 σ2 => (
  if r2 = 1 then (
    some ((2 * (6 + r1)), σ2)
  ) else (
  if r2 = 2 then (
    some (((6 + r1) - 2), σ2)
  ) else (
  if r2 = 3 then (
    some ((6 + r1), σ2)
  ) else (
  if r2 = 4 then (
    some (((2 * (6 + r1)) + 10), σ2)
  ) else (
  if r2 = 5 then (
    some ((((6 + r1) - 2) / 2), σ2)
  ) else (
  if r2 = 6 then (
    if inb 0 382 then (
    some ((20 + (irm (σ2 67 (0 : Int32).toNatClampNeg) 5)), σ2)) else none
  ) else (
    some ((6 + r1), σ2)
  ))))))))
set_option maxRecDepth 100000 in
set_option maxHeartbeats 4000000 in
theorem T_X7_frontOf {l : Launch} {Γ : Gm} {x1 : Int32} {σ : St} {r : Int32} {σ' : St} (h : f_X7_frontOf x1 σ = some (r, σ')) : MetI l yX7_frontOf cX7_frontOf 3 .int 2 Γ σ [.ref (Γ.1 66), .int x1] r σ' := by
  intro sz
  refine met_in (by decide) (Nat.le_of_ble_eq_true rfl) (fun p e s m args below meth c ls X hsz M hl => ?_)
  subst hsz
  have X : Cx p s m args meth c cX7_frontOf RX7 3 (some .int) Γ := X
  have hl : lv_has ls 3 [(0, .ref (Γ.1 66)), (1, .int x1)] := hl
  unfold f_X7_frontOf at h
  refine lv_bipush (v := 6) X.x X.b dX7_frontOf_0 (by decide) ?_
  refine lv_aload_n X.x X.b dX7_frontOf_2 rfl (lv_at hl 0 rfl) ?_
  refine lv_iload_n X.x X.b dX7_frontOf_3 rfl (lv_at hl 1 rfl) ?_
  refine lv_iconst (v := 1) X.x X.b dX7_frontOf_4 (by decide) ?_
  obtain ⟨r1, σ1, h1, h⟩ := ob_e h
  refine r_runI M (r_callV (As := [.int x1, .int 1]) X M (lv_sub hl [] rfl) (T_X7_its h1 _) cal_X7_its q874 ⟨by decide, by decide⟩ hq_66 (el_66 _ _) rfl rfl rfl (Nat.le_of_ble_eq_true rfl) ⟨Nat.le_refl _, Nat.le_refl _⟩ dX7_frontOf_5) (fun H locs M => ?_)
  clear h1
  refine lv_iadd X.x X.b dX7_frontOf_8 ?_
  refine lv_istore_n (lv' := [(2, .int (6 + r1)), (0, .ref (Γ.1 66)), (1, .int x1)]) X.x X.b dX7_frontOf_9 rfl hl (by decide) rfl (fun ls hl => ?_)
  refine lv_aload_n X.x X.b dX7_frontOf_10 rfl (lv_at hl 1 rfl) ?_
  refine lv_iload_n X.x X.b dX7_frontOf_11 rfl (lv_at hl 2 rfl) ?_
  refine lv_iconst (v := 0) X.x X.b dX7_frontOf_12 (by decide) ?_
  obtain ⟨r2, σ2, h2, h⟩ := ob_e h
  refine r_runI M (r_callV (As := [.int x1, .int 0]) X M (lv_sub hl [] rfl) (T_X7_its h2 _) cal_X7_its q874 ⟨by decide, by decide⟩ hq_66 (el_66 _ _) rfl rfl rfl (Nat.le_of_ble_eq_true rfl) ⟨Nat.le_refl _, Nat.le_refl _⟩ dX7_frontOf_13) (fun H locs M => ?_)
  clear h2
  by_cases c3 : r2 = 1
  · have h := it_t c3 h
    refine lv_tableIn (tgt := 56) X.x X.b dX7_frontOf_16 (by rw [c3]; decide) (by rw [c3]; decide) (by first | (rw [c3]; done) | (rw [c3]; rfl)) (by decide) ?_
    refine lv_iconst (v := 2) X.x X.b dX7_frontOf_56 (by decide) ?_
    refine lv_iload_n X.x X.b dX7_frontOf_57 rfl (lv_at hl 0 rfl) ?_
    refine lv_imul X.x X.b dX7_frontOf_58 ?_
    exact r_iret X M rfl h dX7_frontOf_59
  have h := it_f c3 h
  by_cases c4 : r2 = 2
  · have h := it_t c4 h
    refine lv_tableIn (tgt := 60) X.x X.b dX7_frontOf_16 (by rw [c4]; decide) (by rw [c4]; decide) (by first | (rw [c4]; done) | (rw [c4]; rfl)) (by decide) ?_
    refine lv_iload_n X.x X.b dX7_frontOf_60 rfl (lv_at hl 0 rfl) ?_
    refine lv_iconst (v := 2) X.x X.b dX7_frontOf_61 (by decide) ?_
    refine lv_isub X.x X.b dX7_frontOf_62 ?_
    exact r_iret X M rfl h dX7_frontOf_63
  have h := it_f c4 h
  by_cases c5 : r2 = 3
  · have h := it_t c5 h
    refine lv_tableIn (tgt := 89) X.x X.b dX7_frontOf_16 (by rw [c5]; decide) (by rw [c5]; decide) (by first | (rw [c5]; done) | (rw [c5]; rfl)) (by decide) ?_
    refine lv_iload_n X.x X.b dX7_frontOf_89 rfl (lv_at hl 0 rfl) ?_
    exact r_iret X M rfl h dX7_frontOf_90
  have h := it_f c5 h
  by_cases c6 : r2 = 4
  · have h := it_t c6 h
    refine lv_tableIn (tgt := 64) X.x X.b dX7_frontOf_16 (by rw [c6]; decide) (by rw [c6]; decide) (by first | (rw [c6]; done) | (rw [c6]; rfl)) (by decide) ?_
    refine lv_iconst (v := 2) X.x X.b dX7_frontOf_64 (by decide) ?_
    refine lv_iload_n X.x X.b dX7_frontOf_65 rfl (lv_at hl 0 rfl) ?_
    refine lv_imul X.x X.b dX7_frontOf_66 ?_
    refine lv_bipush (v := 10) X.x X.b dX7_frontOf_67 (by decide) ?_
    refine lv_iadd X.x X.b dX7_frontOf_69 ?_
    exact r_iret X M rfl h dX7_frontOf_70
  have h := it_f c6 h
  by_cases c7 : r2 = 5
  · have h := it_t c7 h
    refine lv_tableIn (tgt := 71) X.x X.b dX7_frontOf_16 (by rw [c7]; decide) (by rw [c7]; decide) (by first | (rw [c7]; done) | (rw [c7]; rfl)) (by decide) ?_
    refine lv_iload_n X.x X.b dX7_frontOf_71 rfl (lv_at hl 0 rfl) ?_
    refine lv_iconst (v := 2) X.x X.b dX7_frontOf_72 (by decide) ?_
    refine lv_isub X.x X.b dX7_frontOf_73 ?_
    refine lv_iconst (v := 2) X.x X.b dX7_frontOf_74 (by decide) ?_
    refine lv_idiv X.x X.b dX7_frontOf_75 (by decide) ?_
    exact r_iret X M rfl h dX7_frontOf_76
  have h := it_f c7 h
  by_cases c8 : r2 = 6
  · have h := it_t c8 h
    refine lv_tableIn (tgt := 77) X.x X.b dX7_frontOf_16 (by rw [c8]; decide) (by rw [c8]; decide) (by first | (rw [c8]; done) | (rw [c8]; rfl)) (by decide) ?_
    refine lv_bipush (v := 20) X.x X.b dX7_frontOf_77 (by decide) ?_
    refine lv_aload_n X.x X.b dX7_frontOf_79 rfl (lv_at hl 1 rfl) ?_
    refine r_get X M hq_66 (el_66 _ _) rfl inX7 0 (by decide) q728 rfl rfl dX7_frontOf_80 ?_
    refine lv_iconst (v := 0) X.x X.b dX7_frontOf_83 (by decide) ?_
    obtain ⟨c9, h⟩ := it_n h
    refine r_iald (q := 67) (n := 382) X M rfl c9 dX7_frontOf_84 ?_
    refine lv_iconst (v := 5) X.x X.b dX7_frontOf_85 (by decide) ?_
    refine r_irem X dX7_frontOf_86 (by decide) ?_
    refine lv_iadd X.x X.b dX7_frontOf_87 ?_
    exact r_iret X M rfl h dX7_frontOf_88
  have h := it_f c8 h
  have c3z := lv_neT c3 (show (1 : Int32).toInt = 1 by decide)
  have c4z := lv_neT c4 (show (2 : Int32).toInt = 2 by decide)
  have c5z := lv_neT c5 (show (3 : Int32).toInt = 3 by decide)
  have c6z := lv_neT c6 (show (4 : Int32).toInt = 4 by decide)
  have c7z := lv_neT c7 (show (5 : Int32).toInt = 5 by decide)
  have c8z := lv_neT c8 (show (6 : Int32).toInt = 6 by decide)
  refine lv_tableOut (tgt := 89) X.x X.b dX7_frontOf_16 (by omega) (by decide) ?_
  refine lv_iload_n X.x X.b dX7_frontOf_89 rfl (lv_at hl 0 rfl) ?_
  exact r_iret X M rfl h dX7_frontOf_90
/-- StreetNumbersModel.yardsTold(III)I -/
def f_X7_yardsTold (x1 : Int32) (x2 : Int32) (x3 : Int32) (σ : St) : Rs :=
  if inb 121 128 then (
  ol (st σ 71 (121 : Int32).toNatClampNeg x1) fun σ2 => (
  if inb 98 128 then (
  ol (st σ2 71 (98 : Int32).toNatClampNeg x2) fun σ4 => (
  if inb 115 128 then (
  ol (st σ4 71 (115 : Int32).toNatClampNeg x3) fun σ6 => (
  ob (f_X7_hasText 1 σ6) fun r7 σ7 => (
  if r7 = 0 then (
    ob (f_X7_held x1 1 99 σ7) fun r8 σ8 => (
    some (r8, σ8))
  ) else (
    ob (f_X7_worked 1 σ7) fun r9 σ9 => (
    ob (f_X7_held r9 1 99 σ9) fun r10 σ10 => (
    some (r10, σ10)))
  )))) else none)) else none)) else none
set_option maxRecDepth 100000 in
set_option maxHeartbeats 4000000 in
theorem T_X7_yardsTold {l : Launch} {Γ : Gm} {x1 : Int32} {x2 : Int32} {x3 : Int32} {σ : St} {r : Int32} {σ' : St} (h : f_X7_yardsTold x1 x2 x3 σ = some (r, σ')) : MetI l yX7_yardsTold cX7_yardsTold 4 .int 3 Γ σ [.ref (Γ.1 66), .int x1, .int x2, .int x3] r σ' := by
  intro sz
  refine met_in (by decide) (Nat.le_of_ble_eq_true rfl) (fun p e s m args below meth c ls X hsz M hl => ?_)
  subst hsz
  have X : Cx p s m args meth c cX7_yardsTold RX7 4 (some .int) Γ := X
  have hl : lv_has ls 4 [(0, .ref (Γ.1 66)), (1, .int x1), (2, .int x2), (3, .int x3)] := hl
  unfold f_X7_yardsTold at h
  refine lv_aload_n X.x X.b dX7_yardsTold_0 rfl (lv_at hl 0 rfl) ?_
  refine r_get X M hq_66 (el_66 _ _) rfl inX7 9 (by decide) q737 rfl rfl dX7_yardsTold_1 ?_
  refine lv_bipush (v := 121) X.x X.b dX7_yardsTold_4 (by decide) ?_
  refine lv_iload_n X.x X.b dX7_yardsTold_6 rfl (lv_at hl 1 rfl) ?_
  obtain ⟨c1, h⟩ := it_n h
  obtain ⟨σ2, e2, h⟩ := ol_e h
  refine r_iast (q := 71) (n := 128) X M rfl c1 dX7_yardsTold_7 (fun H locs M => ?_)
  rw [← e2] at M
  refine lv_aload_n X.x X.b dX7_yardsTold_8 rfl (lv_at hl 0 rfl) ?_
  refine r_get X M hq_66 (el_66 _ _) rfl inX7 9 (by decide) q737 rfl rfl dX7_yardsTold_9 ?_
  refine lv_bipush (v := 98) X.x X.b dX7_yardsTold_12 (by decide) ?_
  refine lv_iload_n X.x X.b dX7_yardsTold_14 rfl (lv_at hl 2 rfl) ?_
  obtain ⟨c3, h⟩ := it_n h
  obtain ⟨σ4, e4, h⟩ := ol_e h
  refine r_iast (q := 71) (n := 128) X M rfl c3 dX7_yardsTold_15 (fun H locs M => ?_)
  rw [← e4] at M
  refine lv_aload_n X.x X.b dX7_yardsTold_16 rfl (lv_at hl 0 rfl) ?_
  refine r_get X M hq_66 (el_66 _ _) rfl inX7 9 (by decide) q737 rfl rfl dX7_yardsTold_17 ?_
  refine lv_bipush (v := 115) X.x X.b dX7_yardsTold_20 (by decide) ?_
  refine lv_iload_n X.x X.b dX7_yardsTold_22 rfl (lv_at hl 3 rfl) ?_
  obtain ⟨c5, h⟩ := it_n h
  obtain ⟨σ6, e6, h⟩ := ol_e h
  refine r_iast (q := 71) (n := 128) X M rfl c5 dX7_yardsTold_23 (fun H locs M => ?_)
  rw [← e6] at M
  refine lv_aload_n X.x X.b dX7_yardsTold_24 rfl (lv_at hl 0 rfl) ?_
  refine lv_iconst (v := 1) X.x X.b dX7_yardsTold_25 (by decide) ?_
  obtain ⟨r7, σ7, h7, h⟩ := ob_e h
  refine r_runI M (r_callV (As := [.int 1]) X M (lv_sub hl [] rfl) (T_X7_hasText h7 _) cal_X7_hasText q856 ⟨by decide, by decide⟩ hq_66 (el_66 _ _) rfl rfl rfl (Nat.le_of_ble_eq_true rfl) ⟨Nat.le_refl _, Nat.le_refl _⟩ dX7_yardsTold_26) (fun H locs M => ?_)
  clear h7
  refine lv_if_eq (tgt := 40) X.x X.b dX7_yardsTold_29 (by decide) (fun c11 => ?_) (fun c11 => ?_)
  · have h := it_t c11 h
    refine lv_iload_n X.x X.b dX7_yardsTold_40 rfl (lv_at hl 1 rfl) ?_
    refine lv_iconst (v := 1) X.x X.b dX7_yardsTold_41 (by decide) ?_
    refine lv_bipush (v := 99) X.x X.b dX7_yardsTold_42 (by decide) ?_
    obtain ⟨r8, σ8, h8, h⟩ := ob_e h
    refine r_runI M (r_callS (As := [.int x1, .int 1, .int 99]) X M (lv_sub hl [] rfl) (T_X7_held h8 _) cal_X7_held q909 ⟨by decide, by decide⟩ rfl rfl (Nat.le_of_ble_eq_true rfl) ⟨Nat.le_refl _, Nat.le_refl _⟩ dX7_yardsTold_44) (fun H locs M => ?_)
    clear h8
    exact r_iret X M rfl h dX7_yardsTold_47
  · have h := it_f c11 h
    refine lv_aload_n X.x X.b dX7_yardsTold_32 rfl (lv_at hl 0 rfl) ?_
    refine lv_iconst (v := 1) X.x X.b dX7_yardsTold_33 (by decide) ?_
    obtain ⟨r9, σ9, h9, h⟩ := ob_e h
    refine r_runI M (r_callV (As := [.int 1]) X M (lv_sub hl [] rfl) (T_X7_worked h9 _) cal_X7_worked q902 ⟨by decide, by decide⟩ hq_66 (el_66 _ _) rfl rfl rfl (Nat.le_of_ble_eq_true rfl) ⟨Nat.le_refl _, Nat.le_refl _⟩ dX7_yardsTold_34) (fun H locs M => ?_)
    clear h9
    refine lv_goto (tgt := 41) X.x X.b dX7_yardsTold_37 (by decide) ?_
    refine lv_iconst (v := 1) X.x X.b dX7_yardsTold_41 (by decide) ?_
    refine lv_bipush (v := 99) X.x X.b dX7_yardsTold_42 (by decide) ?_
    obtain ⟨r10, σ10, h10, h⟩ := ob_e h
    refine r_runI M (r_callS (As := [.int r9, .int 1, .int 99]) X M (lv_sub hl [] rfl) (T_X7_held h10 _) cal_X7_held q909 ⟨by decide, by decide⟩ rfl rfl (Nat.le_of_ble_eq_true rfl) ⟨Nat.le_refl _, Nat.le_refl _⟩ dX7_yardsTold_44) (fun H locs M => ?_)
    clear h10
    exact r_iret X M rfl h dX7_yardsTold_47
/-- StreetNumbersModel.yardsOf(I)I -/
def f_X7_yardsOf (x1 : Int32) (σ : St) : Rs :=
  ob (f_X7_frontOf x1 σ) fun r1 σ1 => (
  ob (f_X7_its x1 3 σ1) fun r2 σ2 => (
  if inb 0 382 then (
  ob (f_X7_yardsTold r1 r2 (irm (σ2 67 (0 : Int32).toNatClampNeg) 7) σ2) fun r4 σ4 => (
  some (r4, σ4))) else none))
set_option maxRecDepth 100000 in
set_option maxHeartbeats 4000000 in
theorem T_X7_yardsOf {l : Launch} {Γ : Gm} {x1 : Int32} {σ : St} {r : Int32} {σ' : St} (h : f_X7_yardsOf x1 σ = some (r, σ')) : MetI l yX7_yardsOf cX7_yardsOf 2 .int 4 Γ σ [.ref (Γ.1 66), .int x1] r σ' := by
  intro sz
  refine met_in (by decide) (Nat.le_of_ble_eq_true rfl) (fun p e s m args below meth c ls X hsz M hl => ?_)
  subst hsz
  have X : Cx p s m args meth c cX7_yardsOf RX7 2 (some .int) Γ := X
  have hl : lv_has ls 2 [(0, .ref (Γ.1 66)), (1, .int x1)] := hl
  unfold f_X7_yardsOf at h
  refine lv_aload_n X.x X.b dX7_yardsOf_0 rfl (lv_at hl 0 rfl) ?_
  refine lv_aload_n X.x X.b dX7_yardsOf_1 rfl (lv_at hl 0 rfl) ?_
  refine lv_iload_n X.x X.b dX7_yardsOf_2 rfl (lv_at hl 1 rfl) ?_
  obtain ⟨r1, σ1, h1, h⟩ := ob_e h
  refine r_runI M (r_callV (As := [.int x1]) X M (lv_sub hl [] rfl) (T_X7_frontOf h1 _) cal_X7_frontOf q894 ⟨by decide, by decide⟩ hq_66 (el_66 _ _) rfl rfl rfl (Nat.le_of_ble_eq_true rfl) ⟨Nat.le_refl _, Nat.le_refl _⟩ dX7_yardsOf_3) (fun H locs M => ?_)
  clear h1
  refine lv_aload_n X.x X.b dX7_yardsOf_6 rfl (lv_at hl 0 rfl) ?_
  refine lv_iload_n X.x X.b dX7_yardsOf_7 rfl (lv_at hl 1 rfl) ?_
  refine lv_iconst (v := 3) X.x X.b dX7_yardsOf_8 (by decide) ?_
  obtain ⟨r2, σ2, h2, h⟩ := ob_e h
  refine r_runI M (r_callV (As := [.int x1, .int 3]) X M (lv_sub hl [] rfl) (T_X7_its h2 _) cal_X7_its q874 ⟨by decide, by decide⟩ hq_66 (el_66 _ _) rfl rfl rfl (Nat.le_of_ble_eq_true rfl) ⟨Nat.le_refl _, Nat.le_refl _⟩ dX7_yardsOf_9) (fun H locs M => ?_)
  clear h2
  refine lv_aload_n X.x X.b dX7_yardsOf_12 rfl (lv_at hl 0 rfl) ?_
  refine r_get X M hq_66 (el_66 _ _) rfl inX7 0 (by decide) q728 rfl rfl dX7_yardsOf_13 ?_
  refine lv_iconst (v := 0) X.x X.b dX7_yardsOf_16 (by decide) ?_
  obtain ⟨c3, h⟩ := it_n h
  refine r_iald (q := 67) (n := 382) X M rfl c3 dX7_yardsOf_17 ?_
  refine lv_bipush (v := 7) X.x X.b dX7_yardsOf_18 (by decide) ?_
  refine r_irem X dX7_yardsOf_20 (by decide) ?_
  obtain ⟨r4, σ4, h4, h⟩ := ob_e h
  refine r_runI M (r_callV (As := [.int r1, .int r2, .int (irm (σ2 67 (0 : Int32).toNatClampNeg) 7)]) X M (lv_sub hl [] rfl) (T_X7_yardsTold h4 _) cal_X7_yardsTold q898 ⟨by decide, by decide⟩ hq_66 (el_66 _ _) rfl rfl rfl (Nat.le_of_ble_eq_true rfl) ⟨Nat.le_refl _, Nat.le_refl _⟩ dX7_yardsOf_21) (fun H locs M => ?_)
  clear h4
  exact r_iret X M rfl h dX7_yardsOf_24
def f_X7_yardsAhead_b4 (k4 : (Int32 → Int32 → Int32 → St → Rs)) (x1 : Int32) (x2 : Int32) (x3 : Int32) (σ : St) : Rs :=
  if inb 5 382 then (
  if (σ 67 (5 : Int32).toNatClampNeg) ≤ x3 then (
    some (x2, σ)
  ) else (
    ob (f_X7_its x3 3 σ) fun r2 σ2 => (
    if x1 ≤ r2 then (
      k4 x1 (x2 + 0) (x3 + 1) σ2
    ) else (
      ob (f_X7_yardsOf x3 σ2) fun r3 σ3 => (
      k4 x1 (x2 + r3) (x3 + 1) σ3)
    ))
  )) else none
set_option maxRecDepth 100000 in
set_option maxHeartbeats 4000000 in
theorem u_X7_yardsAhead_b4 {l : Launch} {Γ : Gm} {p : Program} {e : Env} {s : State} {m : MethodId} {args : Array Value} {below : List Frame} {meth : Method} {c : Code} {r : Int32} {σ' : St} {k4 : Int32 → Int32 → Int32 → St → Rs} (X : Cx p s m args meth c cX7_yardsAhead RX7 4 (some .int) Γ) (H4 : ∀ (x1 : Int32) (x2 : Int32) (x3 : Int32) (σ : St) (H : Heap) (locs : List Loc) (ls : Array Slot), k4 x1 x2 x3 σ = some (r, σ') → Mv Γ σ s H locs → lv_has ls 4 [(0, .ref (Γ.1 66)), (1, .int x1), (2, .int x2), (3, .int x3)] → W p l e (rmd 5) s m args below meth c H locs 0 0 (MQ below (Qi Γ r σ' s.heap.size) args s 0 0 (Rg Γ s.heap.size)) (F0 m 4 ls [])) (x1 : Int32) (x2 : Int32) (x3 : Int32) (σ : St) (H : Heap) (locs : List Loc) (ls : Array Slot) (h : f_X7_yardsAhead_b4 k4 x1 x2 x3 σ = some (r, σ')) (M : Mv Γ σ s H locs) (hl : lv_has ls 4 [(0, .ref (Γ.1 66)), (1, .int x1), (2, .int x2), (3, .int x3)]) : W p l e (rmd 5) s m args below meth c H locs 0 0 (MQ below (Qi Γ r σ' s.heap.size) args s 0 0 (Rg Γ s.heap.size)) (F0 m 4 ls []) := by
  unfold f_X7_yardsAhead_b4 at h
  refine lv_iload_n X.x X.b dX7_yardsAhead_4 rfl (lv_at hl 3 rfl) ?_
  refine lv_aload_n X.x X.b dX7_yardsAhead_5 rfl (lv_at hl 0 rfl) ?_
  refine r_get X M hq_66 (el_66 _ _) rfl inX7 0 (by decide) q728 rfl rfl dX7_yardsAhead_6 ?_
  refine lv_iconst (v := 5) X.x X.b dX7_yardsAhead_9 (by decide) ?_
  obtain ⟨c1, h⟩ := it_n h
  refine r_iald (q := 67) (n := 382) X M rfl c1 dX7_yardsAhead_10 ?_
  refine lv_icmp_ge (tgt := 42) X.x X.b dX7_yardsAhead_11 (by decide) (fun c5 => ?_) (fun c5 => ?_)
  · have h := it_t c5 h
    refine lv_iload_n X.x X.b dX7_yardsAhead_42 rfl (lv_at hl 2 rfl) ?_
    exact r_iret X M rfl h dX7_yardsAhead_43
  · have h := it_f c5 h
    refine lv_iload_n X.x X.b dX7_yardsAhead_14 rfl (lv_at hl 2 rfl) ?_
    refine lv_aload_n X.x X.b dX7_yardsAhead_15 rfl (lv_at hl 0 rfl) ?_
    refine lv_iload_n X.x X.b dX7_yardsAhead_16 rfl (lv_at hl 3 rfl) ?_
    refine lv_iconst (v := 3) X.x X.b dX7_yardsAhead_17 (by decide) ?_
    obtain ⟨r2, σ2, h2, h⟩ := ob_e h
    refine r_runI M (r_callV (As := [.int x3, .int 3]) X M (lv_sub hl [] rfl) (T_X7_its h2 _) cal_X7_its q874 ⟨by decide, by decide⟩ hq_66 (el_66 _ _) rfl rfl rfl (Nat.le_of_ble_eq_true rfl) ⟨Nat.le_refl _, Nat.le_refl _⟩ dX7_yardsAhead_18) (fun H locs M => ?_)
    clear h2
    refine lv_iload_n X.x X.b dX7_yardsAhead_21 rfl (lv_at hl 1 rfl) ?_
    refine lv_icmp_ge (tgt := 33) X.x X.b dX7_yardsAhead_22 (by decide) (fun c4 => ?_) (fun c4 => ?_)
    · have h := it_t c4 h
      refine lv_iconst (v := 0) X.x X.b dX7_yardsAhead_33 (by decide) ?_
      refine lv_iadd X.x X.b dX7_yardsAhead_34 ?_
      refine lv_istore_n (lv' := [(2, .int (x2 + 0)), (0, .ref (Γ.1 66)), (1, .int x1), (3, .int x3)]) X.x X.b dX7_yardsAhead_35 rfl hl (by decide) rfl (fun ls hl => ?_)
      refine lv_iinc (v := (x3 + 1)) (lv' := [(3, .int (x3 + 1)), (2, .int (x2 + 0)), (0, .ref (Γ.1 66)), (1, .int x1)]) X.x X.b dX7_yardsAhead_36 hl (k := 3) rfl rfl (by decide) rfl (fun ls hl => ?_)
      refine lv_goto (tgt := 4) X.x X.b dX7_yardsAhead_39 (by decide) ?_
      exact H4 x1 (x2 + 0) (x3 + 1) σ2 _ _ _ h M (lv_sub hl [2, 3, 1, 0] rfl)
    · have h := it_f c4 h
      refine lv_aload_n X.x X.b dX7_yardsAhead_25 rfl (lv_at hl 0 rfl) ?_
      refine lv_iload_n X.x X.b dX7_yardsAhead_26 rfl (lv_at hl 3 rfl) ?_
      obtain ⟨r3, σ3, h3, h⟩ := ob_e h
      refine r_runI M (r_callV (As := [.int x3]) X M (lv_sub hl [] rfl) (T_X7_yardsOf h3 _) cal_X7_yardsOf q890 ⟨by decide, by decide⟩ hq_66 (el_66 _ _) rfl rfl rfl (Nat.le_of_ble_eq_true rfl) ⟨Nat.le_refl _, Nat.le_refl _⟩ dX7_yardsAhead_27) (fun H locs M => ?_)
      clear h3
      refine lv_goto (tgt := 34) X.x X.b dX7_yardsAhead_30 (by decide) ?_
      refine lv_iadd X.x X.b dX7_yardsAhead_34 ?_
      refine lv_istore_n (lv' := [(2, .int (x2 + r3)), (0, .ref (Γ.1 66)), (1, .int x1), (3, .int x3)]) X.x X.b dX7_yardsAhead_35 rfl hl (by decide) rfl (fun ls hl => ?_)
      refine lv_iinc (v := (x3 + 1)) (lv' := [(3, .int (x3 + 1)), (2, .int (x2 + r3)), (0, .ref (Γ.1 66)), (1, .int x1)]) X.x X.b dX7_yardsAhead_36 hl (k := 3) rfl rfl (by decide) rfl (fun ls hl => ?_)
      refine lv_goto (tgt := 4) X.x X.b dX7_yardsAhead_39 (by decide) ?_
      exact H4 x1 (x2 + r3) (x3 + 1) σ3 _ _ _ h M (lv_sub hl [2, 3, 1, 0] rfl)
def f_X7_yardsAhead_L4 : Nat → Int32 → Int32 → Int32 → St → Rs
  | 0 => fun _ _ _ _ => none
  | n + 1 => fun x1 x2 x3 σ => f_X7_yardsAhead_b4 (f_X7_yardsAhead_L4 n) x1 x2 x3 σ
theorem u_X7_yardsAhead_L4 {l : Launch} {Γ : Gm} {p : Program} {e : Env} {s : State} {m : MethodId} {args : Array Value} {below : List Frame} {meth : Method} {c : Code} {r : Int32} {σ' : St} (X : Cx p s m args meth c cX7_yardsAhead RX7 4 (some .int) Γ) : ∀ (n : Nat) (x1 : Int32) (x2 : Int32) (x3 : Int32) (σ : St) (H : Heap) (locs : List Loc) (ls : Array Slot), f_X7_yardsAhead_L4 n x1 x2 x3 σ = some (r, σ') → Mv Γ σ s H locs → lv_has ls 4 [(0, .ref (Γ.1 66)), (1, .int x1), (2, .int x2), (3, .int x3)] → W p l e (rmd 5) s m args below meth c H locs 0 0 (MQ below (Qi Γ r σ' s.heap.size) args s 0 0 (Rg Γ s.heap.size)) (F0 m 4 ls []) := by
  intro n
  induction n with
  | zero => intro x1 x2 x3 σ H locs ls h; cases h
  | succ n ih => intro x1 x2 x3 σ H locs ls h; exact u_X7_yardsAhead_b4 X  ih x1 x2 x3 σ H locs ls h
/-- StreetNumbersModel.yardsAhead(I)I -/
def f_X7_yardsAhead (x1 : Int32) (σ : St) : Rs :=
  f_X7_yardsAhead_L4 LF x1 0 0 σ
set_option maxRecDepth 100000 in
set_option maxHeartbeats 4000000 in
theorem T_X7_yardsAhead {l : Launch} {Γ : Gm} {x1 : Int32} {σ : St} {r : Int32} {σ' : St} (h : f_X7_yardsAhead x1 σ = some (r, σ')) : MetI l yX7_yardsAhead cX7_yardsAhead 4 .int 5 Γ σ [.ref (Γ.1 66), .int x1] r σ' := by
  intro sz
  refine met_in (by decide) (Nat.le_of_ble_eq_true rfl) (fun p e s m args below meth c ls X hsz M hl => ?_)
  subst hsz
  have X : Cx p s m args meth c cX7_yardsAhead RX7 4 (some .int) Γ := X
  have hl : lv_has ls 4 [(0, .ref (Γ.1 66)), (1, .int x1)] := hl
  unfold f_X7_yardsAhead at h
  refine lv_iconst (v := 0) X.x X.b dX7_yardsAhead_0 (by decide) ?_
  refine lv_istore_n (lv' := [(2, .int 0), (0, .ref (Γ.1 66)), (1, .int x1)]) X.x X.b dX7_yardsAhead_1 rfl hl (by decide) rfl (fun ls hl => ?_)
  refine lv_iconst (v := 0) X.x X.b dX7_yardsAhead_2 (by decide) ?_
  refine lv_istore_n (lv' := [(3, .int 0), (2, .int 0), (0, .ref (Γ.1 66)), (1, .int x1)]) X.x X.b dX7_yardsAhead_3 rfl hl (by decide) rfl (fun ls hl => ?_)
  exact u_X7_yardsAhead_L4 X LF x1 0 0 σ _ _ _ h M (lv_sub hl [2, 3, 1, 0] rfl)
/-- StreetNumbersModel.houseIs(II)I -/
def f_X7_houseIs (x1 : Int32) (x2 : Int32) (σ : St) : Rs :=
  ob (f_X7_isHouse x1 σ) fun r1 σ1 => (
  if r1 = 0 then (
    ob (f_X7_error 1 σ1) fun r2 σ2 => (
    some (r2, σ2))
  ) else (
    ob (f_X7_in x2 0 5 σ1) fun r3 σ3 => (
    if r3 = 0 then (
      ob (f_X7_error 1 σ3) fun r10 σ10 => (
      some (r10, σ10))
    ) else (
      if 4 ≤ x2 then (
        if x2 = 4 then (
          ob (f_X7_yardsOf x1 σ3) fun r6 σ6 => (
          some (r6, σ6))
        ) else (
          ob (f_X7_its x1 3 σ3) fun r4 σ4 => (
          ob (f_X7_yardsAhead r4 σ4) fun r5 σ5 => (
          some (r5, σ5)))
        )
      ) else (
        ob (f_X7_its x1 x2 σ3) fun r8 σ8 => (
        some (r8, σ8))
      )
    ))
  ))
set_option maxRecDepth 100000 in
set_option maxHeartbeats 4000000 in
theorem T_X7_houseIs {l : Launch} {Γ : Gm} {x1 : Int32} {x2 : Int32} {σ : St} {r : Int32} {σ' : St} (h : f_X7_houseIs x1 x2 σ = some (r, σ')) : MetI l yX7_houseIs cX7_houseIs 3 .int 6 Γ σ [.ref (Γ.1 66), .int x1, .int x2] r σ' := by
  intro sz
  refine met_in (by decide) (Nat.le_of_ble_eq_true rfl) (fun p e s m args below meth c ls X hsz M hl => ?_)
  subst hsz
  have X : Cx p s m args meth c cX7_houseIs RX7 3 (some .int) Γ := X
  have hl : lv_has ls 3 [(0, .ref (Γ.1 66)), (1, .int x1), (2, .int x2)] := hl
  unfold f_X7_houseIs at h
  refine lv_aload_n X.x X.b dX7_houseIs_0 rfl (lv_at hl 0 rfl) ?_
  refine lv_iload_n X.x X.b dX7_houseIs_1 rfl (lv_at hl 1 rfl) ?_
  obtain ⟨r1, σ1, h1, h⟩ := ob_e h
  refine r_runI M (r_callV (As := [.int x1]) X M (lv_sub hl [] rfl) (T_X7_isHouse h1 _) cal_X7_isHouse q886 ⟨by decide, by decide⟩ hq_66 (el_66 _ _) rfl rfl rfl (Nat.le_of_ble_eq_true rfl) ⟨Nat.le_refl _, Nat.le_refl _⟩ dX7_houseIs_2) (fun H locs M => ?_)
  clear h1
  refine lv_if_eq (tgt := 17) X.x X.b dX7_houseIs_5 (by decide) (fun c12 => ?_) (fun c12 => ?_)
  · have h := it_t c12 h
    refine lv_aload_n X.x X.b dX7_houseIs_17 rfl (lv_at hl 0 rfl) ?_
    refine lv_iconst (v := 1) X.x X.b dX7_houseIs_18 (by decide) ?_
    obtain ⟨r2, σ2, h2, h⟩ := ob_e h
    refine r_runI M (r_callV (As := [.int 1]) X M (lv_sub hl [] rfl) (T_X7_error h2 _) cal_X7_error q802 ⟨by decide, by decide⟩ hq_66 (el_66 _ _) rfl rfl rfl (Nat.le_of_ble_eq_true rfl) ⟨Nat.le_refl _, Nat.le_refl _⟩ dX7_houseIs_19) (fun H locs M => ?_)
    clear h2
    exact r_iret X M rfl h dX7_houseIs_22
  · have h := it_f c12 h
    refine lv_iload_n X.x X.b dX7_houseIs_8 rfl (lv_at hl 2 rfl) ?_
    refine lv_iconst (v := 0) X.x X.b dX7_houseIs_9 (by decide) ?_
    refine lv_iconst (v := 5) X.x X.b dX7_houseIs_10 (by decide) ?_
    obtain ⟨r3, σ3, h3, h⟩ := ob_e h
    refine r_runI M (r_callS (As := [.int x2, .int 0, .int 5]) X M (lv_sub hl [] rfl) (T_X7_in h3 _) cal_X7_in q799 ⟨by decide, by decide⟩ rfl rfl (Nat.le_of_ble_eq_true rfl) ⟨Nat.le_refl _, Nat.le_refl _⟩ dX7_houseIs_11) (fun H locs M => ?_)
    clear h3
    refine lv_if_ne (tgt := 23) X.x X.b dX7_houseIs_14 (by decide) (fun c11 => ?_) (fun c11 => ?_)
    · have h := it_f c11 h
      refine lv_iload_n X.x X.b dX7_houseIs_23 rfl (lv_at hl 2 rfl) ?_
      refine lv_iconst (v := 4) X.x X.b dX7_houseIs_24 (by decide) ?_
      refine lv_icmp_ge (tgt := 37) X.x X.b dX7_houseIs_25 (by decide) (fun c9 => ?_) (fun c9 => ?_)
      · have h := it_t c9 h
        refine lv_iload_n X.x X.b dX7_houseIs_37 rfl (lv_at hl 2 rfl) ?_
        refine lv_iconst (v := 4) X.x X.b dX7_houseIs_38 (by decide) ?_
        refine lv_icmp_ne (tgt := 50) X.x X.b dX7_houseIs_39 (by decide) (fun c7 => ?_) (fun c7 => ?_)
        · have h := it_f c7 h
          refine lv_aload_n X.x X.b dX7_houseIs_50 rfl (lv_at hl 0 rfl) ?_
          refine lv_aload_n X.x X.b dX7_houseIs_51 rfl (lv_at hl 0 rfl) ?_
          refine lv_iload_n X.x X.b dX7_houseIs_52 rfl (lv_at hl 1 rfl) ?_
          refine lv_iconst (v := 3) X.x X.b dX7_houseIs_53 (by decide) ?_
          obtain ⟨r4, σ4, h4, h⟩ := ob_e h
          refine r_runI M (r_callV (As := [.int x1, .int 3]) X M (lv_sub hl [] rfl) (T_X7_its h4 _) cal_X7_its q874 ⟨by decide, by decide⟩ hq_66 (el_66 _ _) rfl rfl rfl (Nat.le_of_ble_eq_true rfl) ⟨Nat.le_refl _, Nat.le_refl _⟩ dX7_houseIs_54) (fun H locs M => ?_)
          clear h4
          obtain ⟨r5, σ5, h5, h⟩ := ob_e h
          refine r_runI M (r_callV (As := [.int r4]) X M (lv_sub hl [] rfl) (T_X7_yardsAhead h5 _) cal_X7_yardsAhead q912 ⟨by decide, by decide⟩ hq_66 (el_66 _ _) rfl rfl rfl (Nat.le_of_ble_eq_true rfl) ⟨Nat.le_refl _, Nat.le_refl _⟩ dX7_houseIs_57) (fun H locs M => ?_)
          clear h5
          exact r_iret X M rfl h dX7_houseIs_60
        · have h := it_t c7 h
          refine lv_aload_n X.x X.b dX7_houseIs_42 rfl (lv_at hl 0 rfl) ?_
          refine lv_iload_n X.x X.b dX7_houseIs_43 rfl (lv_at hl 1 rfl) ?_
          obtain ⟨r6, σ6, h6, h⟩ := ob_e h
          refine r_runI M (r_callV (As := [.int x1]) X M (lv_sub hl [] rfl) (T_X7_yardsOf h6 _) cal_X7_yardsOf q890 ⟨by decide, by decide⟩ hq_66 (el_66 _ _) rfl rfl rfl (Nat.le_of_ble_eq_true rfl) ⟨Nat.le_refl _, Nat.le_refl _⟩ dX7_houseIs_44) (fun H locs M => ?_)
          clear h6
          refine lv_goto (tgt := 60) X.x X.b dX7_houseIs_47 (by decide) ?_
          exact r_iret X M rfl h dX7_houseIs_60
      · have h := it_f c9 h
        refine lv_aload_n X.x X.b dX7_houseIs_28 rfl (lv_at hl 0 rfl) ?_
        refine lv_iload_n X.x X.b dX7_houseIs_29 rfl (lv_at hl 1 rfl) ?_
        refine lv_iload_n X.x X.b dX7_houseIs_30 rfl (lv_at hl 2 rfl) ?_
        obtain ⟨r8, σ8, h8, h⟩ := ob_e h
        refine r_runI M (r_callV (As := [.int x1, .int x2]) X M (lv_sub hl [] rfl) (T_X7_its h8 _) cal_X7_its q874 ⟨by decide, by decide⟩ hq_66 (el_66 _ _) rfl rfl rfl (Nat.le_of_ble_eq_true rfl) ⟨Nat.le_refl _, Nat.le_refl _⟩ dX7_houseIs_31) (fun H locs M => ?_)
        clear h8
        refine lv_goto (tgt := 60) X.x X.b dX7_houseIs_34 (by decide) ?_
        exact r_iret X M rfl h dX7_houseIs_60
    · have h := it_t c11 h
      refine lv_aload_n X.x X.b dX7_houseIs_17 rfl (lv_at hl 0 rfl) ?_
      refine lv_iconst (v := 1) X.x X.b dX7_houseIs_18 (by decide) ?_
      obtain ⟨r10, σ10, h10, h⟩ := ob_e h
      refine r_runI M (r_callV (As := [.int 1]) X M (lv_sub hl [] rfl) (T_X7_error h10 _) cal_X7_error q802 ⟨by decide, by decide⟩ hq_66 (el_66 _ _) rfl rfl rfl (Nat.le_of_ble_eq_true rfl) ⟨Nat.le_refl _, Nat.le_refl _⟩ dX7_houseIs_19) (fun H locs M => ?_)
      clear h10
      exact r_iret X M rfl h dX7_houseIs_22
def f_X7_copyAll_b2 (k2 : (Nat → Nat → Int32 → St → Rs)) (x0 : Nat) (x1 : Nat) (x2 : Int32) (σ : St) : Rs :=
  if 382 ≤ x2 then (
    some (0, σ)
  ) else (
    if inb x2 (alen x0) then (
    if inb x2 (alen x1) then (
    ol (st σ x1 x2.toNatClampNeg (σ x0 x2.toNatClampNeg)) fun σ3 => (
    k2 x0 x1 (x2 + 1) σ3)) else none) else none
  )
set_option maxRecDepth 100000 in
set_option maxHeartbeats 4000000 in
theorem u_X7_copyAll_b2 {l : Launch} {Γ : Gm} {p : Program} {e : Env} {s : State} {m : MethodId} {args : Array Value} {below : List Frame} {meth : Method} {c : Code} {r : Int32} {σ' : St} {k2 : Nat → Nat → Int32 → St → Rs} (X : Cx p s m args meth c cX7_copyAll RX7 3 none Γ) (H2 : ∀ (x0 : Nat) (x1 : Nat) (x2 : Int32) (σ : St) (H : Heap) (locs : List Loc) (ls : Array Slot), k2 x0 x1 x2 σ = some (r, σ') → Mv Γ σ s H locs → lv_has ls 3 [(0, .ref (Γ.1 x0)), (1, .ref (Γ.1 x1)), (2, .int x2)] → W p l e (rmd 1) s m args below meth c H locs 0 0 (MQ below (Qv Γ σ' s.heap.size) args s 0 0 (Rg Γ s.heap.size)) (F0 m 2 ls [])) (x0 : Nat) (x1 : Nat) (x2 : Int32) (σ : St) (H : Heap) (locs : List Loc) (ls : Array Slot) (h : f_X7_copyAll_b2 k2 x0 x1 x2 σ = some (r, σ')) (M : Mv Γ σ s H locs) (hl : lv_has ls 3 [(0, .ref (Γ.1 x0)), (1, .ref (Γ.1 x1)), (2, .int x2)]) : W p l e (rmd 1) s m args below meth c H locs 0 0 (MQ below (Qv Γ σ' s.heap.size) args s 0 0 (Rg Γ s.heap.size)) (F0 m 2 ls []) := by
  unfold f_X7_copyAll_b2 at h
  refine lv_iload_n X.x X.b dX7_copyAll_2 rfl (lv_at hl 2 rfl) ?_
  refine lv_sipush (v := 382) X.x X.b dX7_copyAll_3 (by decide) ?_
  refine lv_icmp_ge (tgt := 21) X.x X.b dX7_copyAll_6 (by decide) (fun c4 => ?_) (fun c4 => ?_)
  · have h := it_t c4 h
    exact r_vret X M h dX7_copyAll_21
  · have h := it_f c4 h
    refine lv_aload_n X.x X.b dX7_copyAll_9 rfl (lv_at hl 1 rfl) ?_
    refine lv_iload_n X.x X.b dX7_copyAll_10 rfl (lv_at hl 2 rfl) ?_
    refine lv_aload_n X.x X.b dX7_copyAll_11 rfl (lv_at hl 0 rfl) ?_
    refine lv_iload_n X.x X.b dX7_copyAll_12 rfl (lv_at hl 2 rfl) ?_
    obtain ⟨c1, h⟩ := it_n h
    refine r_iald (q := x0) (n := (alen x0)) X M rfl c1 dX7_copyAll_13 ?_
    obtain ⟨c2, h⟩ := it_n h
    obtain ⟨σ3, e3, h⟩ := ol_e h
    refine r_iast (q := x1) (n := (alen x1)) X M rfl c2 dX7_copyAll_14 (fun H locs M => ?_)
    rw [← e3] at M
    refine lv_iinc (v := (x2 + 1)) (lv' := [(2, .int (x2 + 1)), (0, .ref (Γ.1 x0)), (1, .ref (Γ.1 x1))]) X.x X.b dX7_copyAll_15 hl (k := 2) rfl rfl (by decide) rfl (fun ls hl => ?_)
    refine lv_goto (tgt := 2) X.x X.b dX7_copyAll_18 (by decide) ?_
    exact H2 x0 x1 (x2 + 1) σ3 _ _ _ h M (lv_sub hl [1, 2, 0] rfl)
def f_X7_copyAll_L2 : Nat → Nat → Nat → Int32 → St → Rs
  | 0 => fun _ _ _ _ => none
  | n + 1 => fun x0 x1 x2 σ => f_X7_copyAll_b2 (f_X7_copyAll_L2 n) x0 x1 x2 σ
theorem u_X7_copyAll_L2 {l : Launch} {Γ : Gm} {p : Program} {e : Env} {s : State} {m : MethodId} {args : Array Value} {below : List Frame} {meth : Method} {c : Code} {r : Int32} {σ' : St} (X : Cx p s m args meth c cX7_copyAll RX7 3 none Γ) : ∀ (n : Nat) (x0 : Nat) (x1 : Nat) (x2 : Int32) (σ : St) (H : Heap) (locs : List Loc) (ls : Array Slot), f_X7_copyAll_L2 n x0 x1 x2 σ = some (r, σ') → Mv Γ σ s H locs → lv_has ls 3 [(0, .ref (Γ.1 x0)), (1, .ref (Γ.1 x1)), (2, .int x2)] → W p l e (rmd 1) s m args below meth c H locs 0 0 (MQ below (Qv Γ σ' s.heap.size) args s 0 0 (Rg Γ s.heap.size)) (F0 m 2 ls []) := by
  intro n
  induction n with
  | zero => intro x0 x1 x2 σ H locs ls h; cases h
  | succ n ih => intro x0 x1 x2 σ H locs ls h; exact u_X7_copyAll_b2 X  ih x0 x1 x2 σ H locs ls h
/-- StreetNumbersModel.copyAll([I[I)V -/
def f_X7_copyAll (x0 : Nat) (x1 : Nat) (σ : St) : Rs :=
  f_X7_copyAll_L2 LF x0 x1 0 σ
set_option maxRecDepth 100000 in
set_option maxHeartbeats 4000000 in
theorem T_X7_copyAll {l : Launch} {Γ : Gm} {x0 : Nat} {x1 : Nat} {σ : St} {r : Int32} {σ' : St} (h : f_X7_copyAll x0 x1 σ = some (r, σ')) : MetV l yX7_copyAll cX7_copyAll 3 1 Γ σ [.ref (Γ.1 x0), .ref (Γ.1 x1)] σ' := by
  intro sz
  refine met_in (by decide) (Nat.le_of_ble_eq_true rfl) (fun p e s m args below meth c ls X hsz M hl => ?_)
  subst hsz
  have X : Cx p s m args meth c cX7_copyAll RX7 3 none Γ := X
  have hl : lv_has ls 3 [(0, .ref (Γ.1 x0)), (1, .ref (Γ.1 x1))] := hl
  unfold f_X7_copyAll at h
  refine lv_iconst (v := 0) X.x X.b dX7_copyAll_0 (by decide) ?_
  refine lv_istore_n (lv' := [(2, .int 0), (0, .ref (Γ.1 x0)), (1, .ref (Γ.1 x1))]) X.x X.b dX7_copyAll_1 rfl hl (by decide) rfl (fun ls hl => ?_)
  exact u_X7_copyAll_L2 X LF x0 x1 0 σ _ _ _ h M (lv_sub hl [1, 2, 0] rfl)
/-- StreetNumbersModel.image()I -/
def f_X7_image (σ : St) : Rs :=
  ob (f_X7_copyAll 67 68 σ) fun _ σ1 => (
  ol (st σ1 66 2 ((σ1 66 2) + 1)) fun σ2 => (
  some ((σ2 66 2), σ2)))
set_option maxRecDepth 100000 in
set_option maxHeartbeats 4000000 in
theorem T_X7_image {l : Launch} {Γ : Gm} {σ : St} {r : Int32} {σ' : St} (h : f_X7_image σ = some (r, σ')) : MetI l yX7_image cX7_image 1 .int 2 Γ σ [.ref (Γ.1 66)] r σ' := by
  intro sz
  refine met_in (by decide) (Nat.le_of_ble_eq_true rfl) (fun p e s m args below meth c ls X hsz M hl => ?_)
  subst hsz
  have X : Cx p s m args meth c cX7_image RX7 1 (some .int) Γ := X
  have hl : lv_has ls 1 [(0, .ref (Γ.1 66))] := hl
  unfold f_X7_image at h
  refine lv_aload_n X.x X.b dX7_image_0 rfl (lv_at hl 0 rfl) ?_
  refine r_get X M hq_66 (el_66 _ _) rfl inX7 0 (by decide) q728 rfl rfl dX7_image_1 ?_
  refine lv_aload_n X.x X.b dX7_image_4 rfl (lv_at hl 0 rfl) ?_
  refine r_get X M hq_66 (el_66 _ _) rfl inX7 1 (by decide) q729 rfl rfl dX7_image_5 ?_
  obtain ⟨r1, σ1, h1, h⟩ := ob_e h
  refine r_runV M (r_callS (As := [.ref (Γ.1 67), .ref (Γ.1 68)]) X M (lv_sub hl [] rfl) (T_X7_copyAll h1 _) cal_X7_copyAll q1135 ⟨by decide, by decide⟩ rfl rfl (Nat.le_of_ble_eq_true rfl) ⟨Nat.le_refl _, Nat.le_refl _⟩ dX7_image_8) (fun H locs M => ?_)
  clear h1
  refine lv_aload_n X.x X.b dX7_image_11 rfl (lv_at hl 0 rfl) ?_
  refine lv_dup X.x X.b dX7_image_12 rfl ?_
  refine r_get X M hq_66 (el_66 _ _) rfl inX7 2 (by decide) q730 rfl rfl dX7_image_13 ?_
  refine lv_iconst (v := 1) X.x X.b dX7_image_16 (by decide) ?_
  refine lv_iadd X.x X.b dX7_image_17 ?_
  obtain ⟨σ2, e2, h⟩ := ol_e h
  refine r_put (x := ((σ1 66 2) + 1)) (ty := .int) X M hq_66 (el_66 _ _) rfl inX7 tyX7_ok nmX7 2 (by decide) q730 rfl rfl rfl rfl rfl (Nat.le_of_ble_eq_true rfl) (pf_66_2 _ _ _) dX7_image_18 (fun H locs M => ?_)
  rw [← e2] at M
  refine lv_aload_n X.x X.b dX7_image_21 rfl (lv_at hl 0 rfl) ?_
  refine r_get X M hq_66 (el_66 _ _) rfl inX7 2 (by decide) q730 rfl rfl dX7_image_22 ?_
  exact r_iret X M rfl h dX7_image_25
def f_X7_judge_b18 (k18 : (Int32 → Int32 → St → Rs)) (x1 : Int32) (x3 : Int32) (σ : St) : Rs :=
  if inb x1 4 then (
  if (σ 77 x1.toNatClampNeg) ≤ x3 then (
    some (x3, σ)
  ) else (
    ob (f_X7_isHouse x3 σ) fun r2 σ2 => (
    if r2 = 0 then (
      some (x3, σ2)
    ) else (
      ob (f_X7_yardsAhead x3 σ2) fun r3 σ3 => (
      if inb ((24 * x1) + x3) 96 then (
      if r3 = (σ3 78 ((24 * x1) + x3).toNatClampNeg) then (
        k18 x1 (x3 + 1) σ3
      ) else (
        some (x3, σ3)
      )) else none)
    ))
  )) else none
set_option maxRecDepth 100000 in
set_option maxHeartbeats 4000000 in
theorem u_X7_judge_b18 {l : Launch} {Γ : Gm} {p : Program} {e : Env} {s : State} {m : MethodId} {args : Array Value} {below : List Frame} {meth : Method} {c : Code} {r : Int32} {σ' : St} {k18 : Int32 → Int32 → St → Rs} (X : Cx p s m args meth c cX7_judge RX7 4 (some .int) Γ) (H18 : ∀ (x1 : Int32) (x3 : Int32) (σ : St) (H : Heap) (locs : List Loc) (ls : Array Slot), k18 x1 x3 σ = some (r, σ') → Mv Γ σ s H locs → lv_has ls 4 [(0, .ref (Γ.1 66)), (1, .int x1), (3, .int x3)] → W p l e (rmd 6) s m args below meth c H locs 0 0 (MQ below (Qi Γ r σ' s.heap.size) args s 0 0 (Rg Γ s.heap.size)) (F0 m 18 ls [])) (x1 : Int32) (x3 : Int32) (σ : St) (H : Heap) (locs : List Loc) (ls : Array Slot) (h : f_X7_judge_b18 k18 x1 x3 σ = some (r, σ')) (M : Mv Γ σ s H locs) (hl : lv_has ls 4 [(0, .ref (Γ.1 66)), (1, .int x1), (3, .int x3)]) : W p l e (rmd 6) s m args below meth c H locs 0 0 (MQ below (Qi Γ r σ' s.heap.size) args s 0 0 (Rg Γ s.heap.size)) (F0 m 18 ls []) := by
  unfold f_X7_judge_b18 at h
  refine lv_iload_n X.x X.b dX7_judge_18 rfl (lv_at hl 2 rfl) ?_
  refine lv_aload_n X.x X.b dX7_judge_19 rfl (lv_at hl 0 rfl) ?_
  refine r_get X M hq_66 (el_66 _ _) rfl inX7 19 (by decide) q747 rfl rfl dX7_judge_20 ?_
  refine lv_iload_n X.x X.b dX7_judge_23 rfl (lv_at hl 1 rfl) ?_
  obtain ⟨c1, h⟩ := it_n h
  refine r_iald (q := 77) (n := 4) X M rfl c1 dX7_judge_24 ?_
  refine lv_icmp_ge (tgt := 61) X.x X.b dX7_judge_25 (by decide) (fun c7 => ?_) (fun c7 => ?_)
  · have h := it_t c7 h
    refine lv_iload_n X.x X.b dX7_judge_61 rfl (lv_at hl 2 rfl) ?_
    exact r_iret X M rfl h dX7_judge_62
  · have h := it_f c7 h
    refine lv_aload_n X.x X.b dX7_judge_28 rfl (lv_at hl 0 rfl) ?_
    refine lv_iload_n X.x X.b dX7_judge_29 rfl (lv_at hl 2 rfl) ?_
    obtain ⟨r2, σ2, h2, h⟩ := ob_e h
    refine r_runI M (r_callV (As := [.int x3]) X M (lv_sub hl [] rfl) (T_X7_isHouse h2 _) cal_X7_isHouse q886 ⟨by decide, by decide⟩ hq_66 (el_66 _ _) rfl rfl rfl (Nat.le_of_ble_eq_true rfl) ⟨Nat.le_refl _, Nat.le_refl _⟩ dX7_judge_30) (fun H locs M => ?_)
    clear h2
    refine lv_if_eq (tgt := 61) X.x X.b dX7_judge_33 (by decide) (fun c6 => ?_) (fun c6 => ?_)
    · have h := it_t c6 h
      refine lv_iload_n X.x X.b dX7_judge_61 rfl (lv_at hl 2 rfl) ?_
      exact r_iret X M rfl h dX7_judge_62
    · have h := it_f c6 h
      refine lv_aload_n X.x X.b dX7_judge_36 rfl (lv_at hl 0 rfl) ?_
      refine lv_iload_n X.x X.b dX7_judge_37 rfl (lv_at hl 2 rfl) ?_
      obtain ⟨r3, σ3, h3, h⟩ := ob_e h
      refine r_runI M (r_callV (As := [.int x3]) X M (lv_sub hl [] rfl) (T_X7_yardsAhead h3 _) cal_X7_yardsAhead q912 ⟨by decide, by decide⟩ hq_66 (el_66 _ _) rfl rfl rfl (Nat.le_of_ble_eq_true rfl) ⟨Nat.le_refl _, Nat.le_refl _⟩ dX7_judge_38) (fun H locs M => ?_)
      clear h3
      refine lv_aload_n X.x X.b dX7_judge_41 rfl (lv_at hl 0 rfl) ?_
      refine r_get X M hq_66 (el_66 _ _) rfl inX7 20 (by decide) q748 rfl rfl dX7_judge_42 ?_
      refine lv_bipush (v := 24) X.x X.b dX7_judge_45 (by decide) ?_
      refine lv_iload_n X.x X.b dX7_judge_47 rfl (lv_at hl 1 rfl) ?_
      refine lv_imul X.x X.b dX7_judge_48 ?_
      refine lv_iload_n X.x X.b dX7_judge_49 rfl (lv_at hl 2 rfl) ?_
      refine lv_iadd X.x X.b dX7_judge_50 ?_
      obtain ⟨c4, h⟩ := it_n h
      refine r_iald (q := 78) (n := 96) X M rfl c4 dX7_judge_51 ?_
      refine lv_icmp_ne (tgt := 61) X.x X.b dX7_judge_52 (by decide) (fun c5 => ?_) (fun c5 => ?_)
      · have h := it_f c5 h
        refine lv_iload_n X.x X.b dX7_judge_61 rfl (lv_at hl 2 rfl) ?_
        exact r_iret X M rfl h dX7_judge_62
      · have h := it_t c5 h
        refine lv_iinc (v := (x3 + 1)) (lv' := [(3, .int (x3 + 1)), (0, .ref (Γ.1 66)), (1, .int x1)]) X.x X.b dX7_judge_55 hl (k := 2) rfl rfl (by decide) rfl (fun ls hl => ?_)
        refine lv_goto (tgt := 18) X.x X.b dX7_judge_58 (by decide) ?_
        exact H18 x1 (x3 + 1) σ3 _ _ _ h M (lv_sub hl [1, 2, 0] rfl)
def f_X7_judge_L18 : Nat → Int32 → Int32 → St → Rs
  | 0 => fun _ _ _ => none
  | n + 1 => fun x1 x3 σ => f_X7_judge_b18 (f_X7_judge_L18 n) x1 x3 σ
theorem u_X7_judge_L18 {l : Launch} {Γ : Gm} {p : Program} {e : Env} {s : State} {m : MethodId} {args : Array Value} {below : List Frame} {meth : Method} {c : Code} {r : Int32} {σ' : St} (X : Cx p s m args meth c cX7_judge RX7 4 (some .int) Γ) : ∀ (n : Nat) (x1 : Int32) (x3 : Int32) (σ : St) (H : Heap) (locs : List Loc) (ls : Array Slot), f_X7_judge_L18 n x1 x3 σ = some (r, σ') → Mv Γ σ s H locs → lv_has ls 4 [(0, .ref (Γ.1 66)), (1, .int x1), (3, .int x3)] → W p l e (rmd 6) s m args below meth c H locs 0 0 (MQ below (Qi Γ r σ' s.heap.size) args s 0 0 (Rg Γ s.heap.size)) (F0 m 18 ls []) := by
  intro n
  induction n with
  | zero => intro x1 x3 σ H locs ls h; cases h
  | succ n ih => intro x1 x3 σ H locs ls h; exact u_X7_judge_b18 X  ih x1 x3 σ H locs ls h
/-- StreetNumbersModel.judge(I)I -/
def f_X7_judge (x1 : Int32) (σ : St) : Rs :=
  ob (f_X7_lacks x1 σ) fun r1 σ1 => (
  if r1 = 0 then (
    f_X7_judge_L18 LF x1 0 σ1
  ) else (
    ob (f_X7_error r1 σ1) fun r2 σ2 => (
    some (r2, σ2))
  ))
set_option maxRecDepth 100000 in
set_option maxHeartbeats 4000000 in
theorem T_X7_judge {l : Launch} {Γ : Gm} {x1 : Int32} {σ : St} {r : Int32} {σ' : St} (h : f_X7_judge x1 σ = some (r, σ')) : MetI l yX7_judge cX7_judge 4 .int 6 Γ σ [.ref (Γ.1 66), .int x1] r σ' := by
  intro sz
  refine met_in (by decide) (Nat.le_of_ble_eq_true rfl) (fun p e s m args below meth c ls X hsz M hl => ?_)
  subst hsz
  have X : Cx p s m args meth c cX7_judge RX7 4 (some .int) Γ := X
  have hl : lv_has ls 4 [(0, .ref (Γ.1 66)), (1, .int x1)] := hl
  unfold f_X7_judge at h
  refine lv_aload_n X.x X.b dX7_judge_0 rfl (lv_at hl 0 rfl) ?_
  refine lv_iload_n X.x X.b dX7_judge_1 rfl (lv_at hl 1 rfl) ?_
  obtain ⟨r1, σ1, h1, h⟩ := ob_e h
  refine r_runI M (r_callV (As := [.int x1]) X M (lv_sub hl [] rfl) (T_X7_lacks h1 _) cal_X7_lacks q1047 ⟨by decide, by decide⟩ hq_66 (el_66 _ _) rfl rfl rfl (Nat.le_of_ble_eq_true rfl) ⟨Nat.le_refl _, Nat.le_refl _⟩ dX7_judge_2) (fun H locs M => ?_)
  clear h1
  refine lv_istore_n (lv' := [(2, .int r1), (0, .ref (Γ.1 66)), (1, .int x1)]) X.x X.b dX7_judge_5 rfl hl (by decide) rfl (fun ls hl => ?_)
  refine lv_iload_n X.x X.b dX7_judge_6 rfl (lv_at hl 0 rfl) ?_
  refine lv_if_eq (tgt := 16) X.x X.b dX7_judge_7 (by decide) (fun c3 => ?_) (fun c3 => ?_)
  · have h := it_t c3 h
    refine lv_iconst (v := 0) X.x X.b dX7_judge_16 (by decide) ?_
    refine lv_istore_n (lv' := [(3, .int 0), (2, .int r1), (0, .ref (Γ.1 66)), (1, .int x1)]) X.x X.b dX7_judge_17 rfl hl (by decide) rfl (fun ls hl => ?_)
    exact u_X7_judge_L18 X LF x1 0 σ1 _ _ _ h M (lv_sub hl [2, 3, 0] rfl)
  · have h := it_f c3 h
    refine lv_aload_n X.x X.b dX7_judge_10 rfl (lv_at hl 1 rfl) ?_
    refine lv_iload_n X.x X.b dX7_judge_11 rfl (lv_at hl 0 rfl) ?_
    obtain ⟨r2, σ2, h2, h⟩ := ob_e h
    refine r_runI M (r_callV (As := [.int r1]) X M (lv_sub hl [] rfl) (T_X7_error h2 _) cal_X7_error q802 ⟨by decide, by decide⟩ hq_66 (el_66 _ _) rfl rfl rfl (Nat.le_of_ble_eq_true rfl) ⟨Nat.le_refl _, Nat.le_refl _⟩ dX7_judge_12) (fun H locs M => ?_)
    clear h2
    exact r_iret X M rfl h dX7_judge_15
/-- StreetNumbersModel.law(IIII)I -/
def f_X7_law (x1 : Int32) (x2 : Int32) (x3 : Int32) (x4 : Int32) (σ : St) : Rs :=
  ob (f_X7_in x1 0 1 σ) fun r1 σ1 => (
  if r1 = 0 then (
    ob (f_X7_error 1 σ1) fun r5 σ5 => (
    some (r5, σ5))
  ) else (
    if x1 = 0 then (
      ob (f_X7_harmTold x2 x3 x4 σ1) fun r3 σ3 => (
      some (r3, σ3))
    ) else (
      ob (f_X7_yardsTold x2 x3 x4 σ1) fun r2 σ2 => (
      some (r2, σ2))
    )
  ))
set_option maxRecDepth 100000 in
set_option maxHeartbeats 4000000 in
theorem T_X7_law {l : Launch} {Γ : Gm} {x1 : Int32} {x2 : Int32} {x3 : Int32} {x4 : Int32} {σ : St} {r : Int32} {σ' : St} (h : f_X7_law x1 x2 x3 x4 σ = some (r, σ')) : MetI l yX7_law cX7_law 5 .int 4 Γ σ [.ref (Γ.1 66), .int x1, .int x2, .int x3, .int x4] r σ' := by
  intro sz
  refine met_in (by decide) (Nat.le_of_ble_eq_true rfl) (fun p e s m args below meth c ls X hsz M hl => ?_)
  subst hsz
  have X : Cx p s m args meth c cX7_law RX7 5 (some .int) Γ := X
  have hl : lv_has ls 5 [(0, .ref (Γ.1 66)), (1, .int x1), (2, .int x2), (3, .int x3), (4, .int x4)] := hl
  unfold f_X7_law at h
  refine lv_iload_n X.x X.b dX7_law_0 rfl (lv_at hl 1 rfl) ?_
  refine lv_iconst (v := 0) X.x X.b dX7_law_1 (by decide) ?_
  refine lv_iconst (v := 1) X.x X.b dX7_law_2 (by decide) ?_
  obtain ⟨r1, σ1, h1, h⟩ := ob_e h
  refine r_runI M (r_callS (As := [.int x1, .int 0, .int 1]) X M (lv_sub hl [] rfl) (T_X7_in h1 _) cal_X7_in q799 ⟨by decide, by decide⟩ rfl rfl (Nat.le_of_ble_eq_true rfl) ⟨Nat.le_refl _, Nat.le_refl _⟩ dX7_law_3) (fun H locs M => ?_)
  clear h1
  refine lv_if_ne (tgt := 15) X.x X.b dX7_law_6 (by decide) (fun c6 => ?_) (fun c6 => ?_)
  · have h := it_f c6 h
    refine lv_iload_n X.x X.b dX7_law_15 rfl (lv_at hl 1 rfl) ?_
    refine lv_if_ne (tgt := 30) X.x X.b dX7_law_16 (by decide) (fun c4 => ?_) (fun c4 => ?_)
    · have h := it_f c4 h
      refine lv_aload_n X.x X.b dX7_law_30 rfl (lv_at hl 0 rfl) ?_
      refine lv_iload_n X.x X.b dX7_law_31 rfl (lv_at hl 2 rfl) ?_
      refine lv_iload_n X.x X.b dX7_law_32 rfl (lv_at hl 3 rfl) ?_
      refine lv_iload X.x X.b dX7_law_33 (lv_at hl 4 rfl) ?_
      obtain ⟨r2, σ2, h2, h⟩ := ob_e h
      refine r_runI M (r_callV (As := [.int x2, .int x3, .int x4]) X M (lv_sub hl [] rfl) (T_X7_yardsTold h2 _) cal_X7_yardsTold q898 ⟨by decide, by decide⟩ hq_66 (el_66 _ _) rfl rfl rfl (Nat.le_of_ble_eq_true rfl) ⟨Nat.le_refl _, Nat.le_refl _⟩ dX7_law_35) (fun H locs M => ?_)
      clear h2
      exact r_iret X M rfl h dX7_law_38
    · have h := it_t c4 h
      refine lv_aload_n X.x X.b dX7_law_19 rfl (lv_at hl 0 rfl) ?_
      refine lv_iload_n X.x X.b dX7_law_20 rfl (lv_at hl 2 rfl) ?_
      refine lv_iload_n X.x X.b dX7_law_21 rfl (lv_at hl 3 rfl) ?_
      refine lv_iload X.x X.b dX7_law_22 (lv_at hl 4 rfl) ?_
      obtain ⟨r3, σ3, h3, h⟩ := ob_e h
      refine r_runI M (r_callV (As := [.int x2, .int x3, .int x4]) X M (lv_sub hl [] rfl) (T_X7_harmTold h3 _) cal_X7_harmTold q951 ⟨by decide, by decide⟩ hq_66 (el_66 _ _) rfl rfl rfl (Nat.le_of_ble_eq_true rfl) ⟨Nat.le_refl _, Nat.le_refl _⟩ dX7_law_24) (fun H locs M => ?_)
      clear h3
      refine lv_goto (tgt := 38) X.x X.b dX7_law_27 (by decide) ?_
      exact r_iret X M rfl h dX7_law_38
  · have h := it_t c6 h
    refine lv_aload_n X.x X.b dX7_law_9 rfl (lv_at hl 0 rfl) ?_
    refine lv_iconst (v := 1) X.x X.b dX7_law_10 (by decide) ?_
    obtain ⟨r5, σ5, h5, h⟩ := ob_e h
    refine r_runI M (r_callV (As := [.int 1]) X M (lv_sub hl [] rfl) (T_X7_error h5 _) cal_X7_error q802 ⟨by decide, by decide⟩ hq_66 (el_66 _ _) rfl rfl rfl (Nat.le_of_ble_eq_true rfl) ⟨Nat.le_refl _, Nat.le_refl _⟩ dX7_law_11) (fun H locs M => ?_)
    clear h5
    exact r_iret X M rfl h dX7_law_14
def f_X7_findLeast_b70 (k2 : (Int32 → St → Rs)) (k32 : (Int32 → Int32 → Int32 → Int32 → St → Rs)) (x1 : Int32) (x2 : Int32) (x3 : Int32) (x4 : Int32) (y1 : Int32) (y2 : Int32) (σ : St) : Rs :=
  if inb y1 1210 then (
  ol (st σ 73 y1.toNatClampNeg y2) fun σ2 => (
  if x1 = 0 then (
    if x3 ≤ 0 then (
      k32 x1 x2 x3 (x4 + 1) σ2
    ) else (
      k32 x1 x2 0 (x4 + 1) σ2
    )
  ) else (
    if inb ((121 * (x1 - 1)) + x4) 1210 then (
    if x3 ≤ (σ2 73 ((121 * (x1 - 1)) + x4).toNatClampNeg) then (
      k32 x1 x2 x3 (x4 + 1) σ2
    ) else (
      k32 x1 x2 (σ2 73 ((121 * (x1 - 1)) + x4).toNatClampNeg) (x4 + 1) σ2
    )) else none
  ))) else none
set_option maxRecDepth 100000 in
set_option maxHeartbeats 4000000 in
theorem u_X7_findLeast_b70 {l : Launch} {Γ : Gm} {p : Program} {e : Env} {s : State} {m : MethodId} {args : Array Value} {below : List Frame} {meth : Method} {c : Code} {r : Int32} {σ' : St} {k2 : Int32 → St → Rs} {k32 : Int32 → Int32 → Int32 → Int32 → St → Rs} (X : Cx p s m args meth c cX7_findLeast RX7 6 none Γ) (H2 : ∀ (x1 : Int32) (σ : St) (H : Heap) (locs : List Loc) (ls : Array Slot), k2 x1 σ = some (r, σ') → Mv Γ σ s H locs → lv_has ls 6 [(0, .ref (Γ.1 66)), (1, .int x1)] → W p l e (rmd 5) s m args below meth c H locs 0 0 (MQ below (Qv Γ σ' s.heap.size) args s 0 0 (Rg Γ s.heap.size)) (F0 m 2 ls [])) (H32 : ∀ (x1 : Int32) (x2 : Int32) (x3 : Int32) (x4 : Int32) (σ : St) (H : Heap) (locs : List Loc) (ls : Array Slot), k32 x1 x2 x3 x4 σ = some (r, σ') → Mv Γ σ s H locs → lv_has ls 6 [(0, .ref (Γ.1 66)), (1, .int x1), (2, .int x2), (3, .int x3), (4, .int x4)] → W p l e (rmd 5) s m args below meth c H locs 0 0 (MQ below (Qv Γ σ' s.heap.size) args s 0 0 (Rg Γ s.heap.size)) (F0 m 32 ls [])) (x1 : Int32) (x2 : Int32) (x3 : Int32) (x4 : Int32) (y1 : Int32) (y2 : Int32) (σ : St) (H : Heap) (locs : List Loc) (ls : Array Slot) (h : f_X7_findLeast_b70 k2 k32 x1 x2 x3 x4 y1 y2 σ = some (r, σ')) (M : Mv Γ σ s H locs) (hl : lv_has ls 6 [(0, .ref (Γ.1 66)), (1, .int x1), (2, .int x2), (3, .int x3), (4, .int x4)]) : W p l e (rmd 5) s m args below meth c H locs 0 0 (MQ below (Qv Γ σ' s.heap.size) args s 0 0 (Rg Γ s.heap.size)) (F0 m 70 ls [.int y2, .int y1, .ref (Γ.1 73)]) := by
  unfold f_X7_findLeast_b70 at h
  obtain ⟨c1, h⟩ := it_n h
  obtain ⟨σ2, e2, h⟩ := ol_e h
  refine r_iast (q := 73) (n := 1210) X M rfl c1 dX7_findLeast_70 (fun H locs M => ?_)
  rw [← e2] at M
  refine lv_iload_n X.x X.b dX7_findLeast_71 rfl (lv_at hl 1 rfl) ?_
  refine lv_if_ne (tgt := 79) X.x X.b dX7_findLeast_72 (by decide) (fun c6 => ?_) (fun c6 => ?_)
  · have h := it_f c6 h
    refine lv_aload_n X.x X.b dX7_findLeast_79 rfl (lv_at hl 0 rfl) ?_
    refine r_get X M hq_66 (el_66 _ _) rfl inX7 11 (by decide) q739 rfl rfl dX7_findLeast_80 ?_
    refine lv_bipush (v := 121) X.x X.b dX7_findLeast_83 (by decide) ?_
    refine lv_iload_n X.x X.b dX7_findLeast_85 rfl (lv_at hl 1 rfl) ?_
    refine lv_iconst (v := 1) X.x X.b dX7_findLeast_86 (by decide) ?_
    refine lv_isub X.x X.b dX7_findLeast_87 ?_
    refine lv_imul X.x X.b dX7_findLeast_88 ?_
    refine lv_iload X.x X.b dX7_findLeast_89 (lv_at hl 4 rfl) ?_
    refine lv_iadd X.x X.b dX7_findLeast_91 ?_
    obtain ⟨c3, h⟩ := it_n h
    refine r_iald (q := 73) (n := 1210) X M rfl c3 dX7_findLeast_92 ?_
    refine lv_istore (lv' := [(5, .int (σ2 73 ((121 * (x1 - 1)) + x4).toNatClampNeg)), (0, .ref (Γ.1 66)), (1, .int x1), (2, .int x2), (3, .int x3), (4, .int x4)]) X.x X.b dX7_findLeast_93 hl (by decide) rfl (fun ls hl => ?_)
    refine lv_iload X.x X.b dX7_findLeast_95 (lv_at hl 0 rfl) ?_
    refine lv_iload_n X.x X.b dX7_findLeast_97 rfl (lv_at hl 4 rfl) ?_
    refine lv_icmp_ge (tgt := 106) X.x X.b dX7_findLeast_98 (by decide) (fun c4 => ?_) (fun c4 => ?_)
    · have h := it_t c4 h
      refine lv_iload_n X.x X.b dX7_findLeast_106 rfl (lv_at hl 4 rfl) ?_
      refine lv_istore_n (lv' := [(3, .int x3), (5, .int (σ2 73 ((121 * (x1 - 1)) + x4).toNatClampNeg)), (0, .ref (Γ.1 66)), (1, .int x1), (2, .int x2), (4, .int x4)]) X.x X.b dX7_findLeast_107 rfl hl (by decide) rfl (fun ls hl => ?_)
      refine lv_iinc (v := (x4 + 1)) (lv' := [(4, .int (x4 + 1)), (3, .int x3), (5, .int (σ2 73 ((121 * (x1 - 1)) + x4).toNatClampNeg)), (0, .ref (Γ.1 66)), (1, .int x1), (2, .int x2)]) X.x X.b dX7_findLeast_108 hl (k := 5) rfl rfl (by decide) rfl (fun ls hl => ?_)
      refine lv_goto (tgt := 32) X.x X.b dX7_findLeast_111 (by decide) ?_
      exact H32 x1 x2 x3 (x4 + 1) σ2 _ _ _ h M (lv_sub hl [3, 4, 5, 1, 0] rfl)
    · have h := it_f c4 h
      refine lv_iload X.x X.b dX7_findLeast_101 (lv_at hl 0 rfl) ?_
      refine lv_goto (tgt := 107) X.x X.b dX7_findLeast_103 (by decide) ?_
      refine lv_istore_n (lv' := [(3, .int (σ2 73 ((121 * (x1 - 1)) + x4).toNatClampNeg)), (5, .int (σ2 73 ((121 * (x1 - 1)) + x4).toNatClampNeg)), (0, .ref (Γ.1 66)), (1, .int x1), (2, .int x2), (4, .int x4)]) X.x X.b dX7_findLeast_107 rfl hl (by decide) rfl (fun ls hl => ?_)
      refine lv_iinc (v := (x4 + 1)) (lv' := [(4, .int (x4 + 1)), (3, .int (σ2 73 ((121 * (x1 - 1)) + x4).toNatClampNeg)), (5, .int (σ2 73 ((121 * (x1 - 1)) + x4).toNatClampNeg)), (0, .ref (Γ.1 66)), (1, .int x1), (2, .int x2)]) X.x X.b dX7_findLeast_108 hl (k := 5) rfl rfl (by decide) rfl (fun ls hl => ?_)
      refine lv_goto (tgt := 32) X.x X.b dX7_findLeast_111 (by decide) ?_
      exact H32 x1 x2 (σ2 73 ((121 * (x1 - 1)) + x4).toNatClampNeg) (x4 + 1) σ2 _ _ _ h M (lv_sub hl [3, 4, 5, 1, 0] rfl)
  · have h := it_t c6 h
    refine lv_iconst (v := 0) X.x X.b dX7_findLeast_75 (by decide) ?_
    refine lv_goto (tgt := 93) X.x X.b dX7_findLeast_76 (by decide) ?_
    refine lv_istore (lv' := [(5, .int 0), (0, .ref (Γ.1 66)), (1, .int x1), (2, .int x2), (3, .int x3), (4, .int x4)]) X.x X.b dX7_findLeast_93 hl (by decide) rfl (fun ls hl => ?_)
    refine lv_iload X.x X.b dX7_findLeast_95 (lv_at hl 0 rfl) ?_
    refine lv_iload_n X.x X.b dX7_findLeast_97 rfl (lv_at hl 4 rfl) ?_
    refine lv_icmp_ge (tgt := 106) X.x X.b dX7_findLeast_98 (by decide) (fun c5 => ?_) (fun c5 => ?_)
    · have h := it_t c5 h
      refine lv_iload_n X.x X.b dX7_findLeast_106 rfl (lv_at hl 4 rfl) ?_
      refine lv_istore_n (lv' := [(3, .int x3), (5, .int 0), (0, .ref (Γ.1 66)), (1, .int x1), (2, .int x2), (4, .int x4)]) X.x X.b dX7_findLeast_107 rfl hl (by decide) rfl (fun ls hl => ?_)
      refine lv_iinc (v := (x4 + 1)) (lv' := [(4, .int (x4 + 1)), (3, .int x3), (5, .int 0), (0, .ref (Γ.1 66)), (1, .int x1), (2, .int x2)]) X.x X.b dX7_findLeast_108 hl (k := 5) rfl rfl (by decide) rfl (fun ls hl => ?_)
      refine lv_goto (tgt := 32) X.x X.b dX7_findLeast_111 (by decide) ?_
      exact H32 x1 x2 x3 (x4 + 1) σ2 _ _ _ h M (lv_sub hl [3, 4, 5, 1, 0] rfl)
    · have h := it_f c5 h
      refine lv_iload X.x X.b dX7_findLeast_101 (lv_at hl 0 rfl) ?_
      refine lv_goto (tgt := 107) X.x X.b dX7_findLeast_103 (by decide) ?_
      refine lv_istore_n (lv' := [(3, .int 0), (5, .int 0), (0, .ref (Γ.1 66)), (1, .int x1), (2, .int x2), (4, .int x4)]) X.x X.b dX7_findLeast_107 rfl hl (by decide) rfl (fun ls hl => ?_)
      refine lv_iinc (v := (x4 + 1)) (lv' := [(4, .int (x4 + 1)), (3, .int 0), (5, .int 0), (0, .ref (Γ.1 66)), (1, .int x1), (2, .int x2)]) X.x X.b dX7_findLeast_108 hl (k := 5) rfl rfl (by decide) rfl (fun ls hl => ?_)
      refine lv_goto (tgt := 32) X.x X.b dX7_findLeast_111 (by decide) ?_
      exact H32 x1 x2 0 (x4 + 1) σ2 _ _ _ h M (lv_sub hl [3, 4, 5, 1, 0] rfl)
def f_X7_findLeast_b32 (k2 : (Int32 → St → Rs)) (k32 : (Int32 → Int32 → Int32 → Int32 → St → Rs)) (x1 : Int32) (x2 : Int32) (x3 : Int32) (x4 : Int32) (σ : St) : Rs :=
  if 120 < x4 then (
    k2 (x1 + 1) σ
  ) else (
    if x3 < 1000000 then (
      ob (f_X7_harmOf x2 x4 σ) fun r1 σ1 => (
      f_X7_findLeast_b70 k2 k32 x1 x2 x3 x4 ((121 * x1) + x4) (x3 + r1) σ1)
    ) else (
      f_X7_findLeast_b70 k2 k32 x1 x2 x3 x4 ((121 * x1) + x4) 1000000 σ
    )
  )
set_option maxRecDepth 100000 in
set_option maxHeartbeats 4000000 in
theorem u_X7_findLeast_b32 {l : Launch} {Γ : Gm} {p : Program} {e : Env} {s : State} {m : MethodId} {args : Array Value} {below : List Frame} {meth : Method} {c : Code} {r : Int32} {σ' : St} {k2 : Int32 → St → Rs} {k32 : Int32 → Int32 → Int32 → Int32 → St → Rs} (X : Cx p s m args meth c cX7_findLeast RX7 6 none Γ) (H2 : ∀ (x1 : Int32) (σ : St) (H : Heap) (locs : List Loc) (ls : Array Slot), k2 x1 σ = some (r, σ') → Mv Γ σ s H locs → lv_has ls 6 [(0, .ref (Γ.1 66)), (1, .int x1)] → W p l e (rmd 5) s m args below meth c H locs 0 0 (MQ below (Qv Γ σ' s.heap.size) args s 0 0 (Rg Γ s.heap.size)) (F0 m 2 ls [])) (H32 : ∀ (x1 : Int32) (x2 : Int32) (x3 : Int32) (x4 : Int32) (σ : St) (H : Heap) (locs : List Loc) (ls : Array Slot), k32 x1 x2 x3 x4 σ = some (r, σ') → Mv Γ σ s H locs → lv_has ls 6 [(0, .ref (Γ.1 66)), (1, .int x1), (2, .int x2), (3, .int x3), (4, .int x4)] → W p l e (rmd 5) s m args below meth c H locs 0 0 (MQ below (Qv Γ σ' s.heap.size) args s 0 0 (Rg Γ s.heap.size)) (F0 m 32 ls [])) (x1 : Int32) (x2 : Int32) (x3 : Int32) (x4 : Int32) (σ : St) (H : Heap) (locs : List Loc) (ls : Array Slot) (h : f_X7_findLeast_b32 k2 k32 x1 x2 x3 x4 σ = some (r, σ')) (M : Mv Γ σ s H locs) (hl : lv_has ls 6 [(0, .ref (Γ.1 66)), (1, .int x1), (2, .int x2), (3, .int x3), (4, .int x4)]) : W p l e (rmd 5) s m args below meth c H locs 0 0 (MQ below (Qv Γ σ' s.heap.size) args s 0 0 (Rg Γ s.heap.size)) (F0 m 32 ls []) := by
  unfold f_X7_findLeast_b32 at h
  refine lv_iload X.x X.b dX7_findLeast_32 (lv_at hl 4 rfl) ?_
  refine lv_bipush (v := 120) X.x X.b dX7_findLeast_34 (by decide) ?_
  refine lv_icmp_gt (tgt := 114) X.x X.b dX7_findLeast_36 (by decide) (fun c3 => ?_) (fun c3 => ?_)
  · have h := it_t c3 h
    refine lv_iinc (v := (x1 + 1)) (lv' := [(1, .int (x1 + 1)), (0, .ref (Γ.1 66)), (2, .int x2), (3, .int x3), (4, .int x4)]) X.x X.b dX7_findLeast_114 hl (k := 1) rfl rfl (by decide) rfl (fun ls hl => ?_)
    refine lv_goto (tgt := 2) X.x X.b dX7_findLeast_117 (by decide) ?_
    exact H2 (x1 + 1) σ _ _ _ h M (lv_sub hl [1, 0] rfl)
  · have h := it_f c3 h
    refine lv_aload_n X.x X.b dX7_findLeast_39 rfl (lv_at hl 0 rfl) ?_
    refine r_get X M hq_66 (el_66 _ _) rfl inX7 11 (by decide) q739 rfl rfl dX7_findLeast_40 ?_
    refine lv_bipush (v := 121) X.x X.b dX7_findLeast_43 (by decide) ?_
    refine lv_iload_n X.x X.b dX7_findLeast_45 rfl (lv_at hl 1 rfl) ?_
    refine lv_imul X.x X.b dX7_findLeast_46 ?_
    refine lv_iload X.x X.b dX7_findLeast_47 (lv_at hl 4 rfl) ?_
    refine lv_iadd X.x X.b dX7_findLeast_49 ?_
    refine lv_iload_n X.x X.b dX7_findLeast_50 rfl (lv_at hl 3 rfl) ?_
    refine lv_ldc (v := 1000000) X.x X.b X.ow (X.ts _ q1003) dX7_findLeast_51 ?_
    refine lv_icmp_lt (tgt := 61) X.x X.b dX7_findLeast_53 (by decide) (fun c2 => ?_) (fun c2 => ?_)
    · have h := it_t c2 h
      refine lv_iload_n X.x X.b dX7_findLeast_61 rfl (lv_at hl 3 rfl) ?_
      refine lv_aload_n X.x X.b dX7_findLeast_62 rfl (lv_at hl 0 rfl) ?_
      refine lv_iload_n X.x X.b dX7_findLeast_63 rfl (lv_at hl 2 rfl) ?_
      refine lv_iload X.x X.b dX7_findLeast_64 (lv_at hl 4 rfl) ?_
      obtain ⟨r1, σ1, h1, h⟩ := ob_e h
      refine r_runI M (r_callV (As := [.int x2, .int x4]) X M (lv_sub hl [] rfl) (T_X7_harmOf h1 _) cal_X7_harmOf q943 ⟨by decide, by decide⟩ hq_66 (el_66 _ _) rfl rfl rfl (Nat.le_of_ble_eq_true rfl) ⟨Nat.le_refl _, Nat.le_refl _⟩ dX7_findLeast_66) (fun H locs M => ?_)
      clear h1
      refine lv_iadd X.x X.b dX7_findLeast_69 ?_
      exact u_X7_findLeast_b70 X H2 H32 x1 x2 x3 x4 ((121 * x1) + x4) (x3 + r1) σ1 _ _ _ h M (lv_sub hl [0, 1, 2, 3, 4] rfl)
    · have h := it_f c2 h
      refine lv_ldc (v := 1000000) X.x X.b X.ow (X.ts _ q1003) dX7_findLeast_56 ?_
      refine lv_goto (tgt := 70) X.x X.b dX7_findLeast_58 (by decide) ?_
      exact u_X7_findLeast_b70 X H2 H32 x1 x2 x3 x4 ((121 * x1) + x4) 1000000 σ _ _ _ h M (lv_sub hl [0, 1, 2, 3, 4] rfl)
def f_X7_findLeast_L32 (k2 : (Int32 → St → Rs)) : Nat → Int32 → Int32 → Int32 → Int32 → St → Rs
  | 0 => fun _ _ _ _ _ => none
  | n + 1 => fun x1 x2 x3 x4 σ => f_X7_findLeast_b32 k2 (f_X7_findLeast_L32 k2 n) x1 x2 x3 x4 σ
theorem u_X7_findLeast_L32 {l : Launch} {Γ : Gm} {p : Program} {e : Env} {s : State} {m : MethodId} {args : Array Value} {below : List Frame} {meth : Method} {c : Code} {r : Int32} {σ' : St} {k2 : Int32 → St → Rs} (X : Cx p s m args meth c cX7_findLeast RX7 6 none Γ) (H2 : ∀ (x1 : Int32) (σ : St) (H : Heap) (locs : List Loc) (ls : Array Slot), k2 x1 σ = some (r, σ') → Mv Γ σ s H locs → lv_has ls 6 [(0, .ref (Γ.1 66)), (1, .int x1)] → W p l e (rmd 5) s m args below meth c H locs 0 0 (MQ below (Qv Γ σ' s.heap.size) args s 0 0 (Rg Γ s.heap.size)) (F0 m 2 ls [])) : ∀ (n : Nat) (x1 : Int32) (x2 : Int32) (x3 : Int32) (x4 : Int32) (σ : St) (H : Heap) (locs : List Loc) (ls : Array Slot), f_X7_findLeast_L32 k2 n x1 x2 x3 x4 σ = some (r, σ') → Mv Γ σ s H locs → lv_has ls 6 [(0, .ref (Γ.1 66)), (1, .int x1), (2, .int x2), (3, .int x3), (4, .int x4)] → W p l e (rmd 5) s m args below meth c H locs 0 0 (MQ below (Qv Γ σ' s.heap.size) args s 0 0 (Rg Γ s.heap.size)) (F0 m 32 ls []) := by
  intro n
  induction n with
  | zero => intro x1 x2 x3 x4 σ H locs ls h; cases h
  | succ n ih => intro x1 x2 x3 x4 σ H locs ls h; exact u_X7_findLeast_b32 X H2 ih x1 x2 x3 x4 σ H locs ls h
def f_X7_findLeast_b2 (k2 : (Int32 → St → Rs)) (x1 : Int32) (σ : St) : Rs :=
  if inb 5 382 then (
  if (σ 67 (5 : Int32).toNatClampNeg) ≤ x1 then (
    some (0, σ)
  ) else (
    ob (f_X7_at1 x1 σ) fun r2 σ2 => (
    if x1 = 0 then (
      f_X7_findLeast_L32 k2 LF x1 r2 0 1 σ2
    ) else (
      f_X7_findLeast_L32 k2 LF x1 r2 1000000 1 σ2
    ))
  )) else none
set_option maxRecDepth 100000 in
set_option maxHeartbeats 4000000 in
theorem u_X7_findLeast_b2 {l : Launch} {Γ : Gm} {p : Program} {e : Env} {s : State} {m : MethodId} {args : Array Value} {below : List Frame} {meth : Method} {c : Code} {r : Int32} {σ' : St} {k2 : Int32 → St → Rs} (X : Cx p s m args meth c cX7_findLeast RX7 6 none Γ) (H2 : ∀ (x1 : Int32) (σ : St) (H : Heap) (locs : List Loc) (ls : Array Slot), k2 x1 σ = some (r, σ') → Mv Γ σ s H locs → lv_has ls 6 [(0, .ref (Γ.1 66)), (1, .int x1)] → W p l e (rmd 5) s m args below meth c H locs 0 0 (MQ below (Qv Γ σ' s.heap.size) args s 0 0 (Rg Γ s.heap.size)) (F0 m 2 ls [])) (x1 : Int32) (σ : St) (H : Heap) (locs : List Loc) (ls : Array Slot) (h : f_X7_findLeast_b2 k2 x1 σ = some (r, σ')) (M : Mv Γ σ s H locs) (hl : lv_has ls 6 [(0, .ref (Γ.1 66)), (1, .int x1)]) : W p l e (rmd 5) s m args below meth c H locs 0 0 (MQ below (Qv Γ σ' s.heap.size) args s 0 0 (Rg Γ s.heap.size)) (F0 m 2 ls []) := by
  unfold f_X7_findLeast_b2 at h
  refine lv_iload_n X.x X.b dX7_findLeast_2 rfl (lv_at hl 1 rfl) ?_
  refine lv_aload_n X.x X.b dX7_findLeast_3 rfl (lv_at hl 0 rfl) ?_
  refine r_get X M hq_66 (el_66 _ _) rfl inX7 0 (by decide) q728 rfl rfl dX7_findLeast_4 ?_
  refine lv_iconst (v := 5) X.x X.b dX7_findLeast_7 (by decide) ?_
  obtain ⟨c1, h⟩ := it_n h
  refine r_iald (q := 67) (n := 382) X M rfl c1 dX7_findLeast_8 ?_
  refine lv_icmp_ge (tgt := 120) X.x X.b dX7_findLeast_9 (by decide) (fun c4 => ?_) (fun c4 => ?_)
  · have h := it_t c4 h
    exact r_vret X M h dX7_findLeast_120
  · have h := it_f c4 h
    refine lv_aload_n X.x X.b dX7_findLeast_12 rfl (lv_at hl 0 rfl) ?_
    refine lv_iload_n X.x X.b dX7_findLeast_13 rfl (lv_at hl 1 rfl) ?_
    obtain ⟨r2, σ2, h2, h⟩ := ob_e h
    refine r_runI M (r_callV (As := [.int x1]) X M (lv_sub hl [] rfl) (T_X7_at1 h2 _) cal_X7_at1 q920 ⟨by decide, by decide⟩ hq_66 (el_66 _ _) rfl rfl rfl (Nat.le_of_ble_eq_true rfl) ⟨Nat.le_refl _, Nat.le_refl _⟩ dX7_findLeast_14) (fun H locs M => ?_)
    clear h2
    refine lv_istore_n (lv' := [(2, .int r2), (0, .ref (Γ.1 66)), (1, .int x1)]) X.x X.b dX7_findLeast_17 rfl hl (by decide) rfl (fun ls hl => ?_)
    refine lv_iload_n X.x X.b dX7_findLeast_18 rfl (lv_at hl 2 rfl) ?_
    refine lv_if_ne (tgt := 26) X.x X.b dX7_findLeast_19 (by decide) (fun c3 => ?_) (fun c3 => ?_)
    · have h := it_f c3 h
      refine lv_ldc (v := 1000000) X.x X.b X.ow (X.ts _ q1003) dX7_findLeast_26 ?_
      refine lv_istore_n (lv' := [(3, .int 1000000), (2, .int r2), (0, .ref (Γ.1 66)), (1, .int x1)]) X.x X.b dX7_findLeast_28 rfl hl (by decide) rfl (fun ls hl => ?_)
      refine lv_iconst (v := 1) X.x X.b dX7_findLeast_29 (by decide) ?_
      refine lv_istore (lv' := [(4, .int 1), (3, .int 1000000), (2, .int r2), (0, .ref (Γ.1 66)), (1, .int x1)]) X.x X.b dX7_findLeast_30 hl (by decide) rfl (fun ls hl => ?_)
      exact u_X7_findLeast_L32 X H2 LF x1 r2 1000000 1 σ2 _ _ _ h M (lv_sub hl [3, 4, 2, 1, 0] rfl)
    · have h := it_t c3 h
      refine lv_iconst (v := 0) X.x X.b dX7_findLeast_22 (by decide) ?_
      refine lv_goto (tgt := 28) X.x X.b dX7_findLeast_23 (by decide) ?_
      refine lv_istore_n (lv' := [(3, .int 0), (2, .int r2), (0, .ref (Γ.1 66)), (1, .int x1)]) X.x X.b dX7_findLeast_28 rfl hl (by decide) rfl (fun ls hl => ?_)
      refine lv_iconst (v := 1) X.x X.b dX7_findLeast_29 (by decide) ?_
      refine lv_istore (lv' := [(4, .int 1), (3, .int 0), (2, .int r2), (0, .ref (Γ.1 66)), (1, .int x1)]) X.x X.b dX7_findLeast_30 hl (by decide) rfl (fun ls hl => ?_)
      exact u_X7_findLeast_L32 X H2 LF x1 r2 0 1 σ2 _ _ _ h M (lv_sub hl [3, 4, 2, 1, 0] rfl)
def f_X7_findLeast_L2 : Nat → Int32 → St → Rs
  | 0 => fun _ _ => none
  | n + 1 => fun x1 σ => f_X7_findLeast_b2 (f_X7_findLeast_L2 n) x1 σ
theorem u_X7_findLeast_L2 {l : Launch} {Γ : Gm} {p : Program} {e : Env} {s : State} {m : MethodId} {args : Array Value} {below : List Frame} {meth : Method} {c : Code} {r : Int32} {σ' : St} (X : Cx p s m args meth c cX7_findLeast RX7 6 none Γ) : ∀ (n : Nat) (x1 : Int32) (σ : St) (H : Heap) (locs : List Loc) (ls : Array Slot), f_X7_findLeast_L2 n x1 σ = some (r, σ') → Mv Γ σ s H locs → lv_has ls 6 [(0, .ref (Γ.1 66)), (1, .int x1)] → W p l e (rmd 5) s m args below meth c H locs 0 0 (MQ below (Qv Γ σ' s.heap.size) args s 0 0 (Rg Γ s.heap.size)) (F0 m 2 ls []) := by
  intro n
  induction n with
  | zero => intro x1 σ H locs ls h; cases h
  | succ n ih => intro x1 σ H locs ls h; exact u_X7_findLeast_b2 X  ih x1 σ H locs ls h
/-- StreetNumbersModel.findLeast()V -/
def f_X7_findLeast (σ : St) : Rs :=
  f_X7_findLeast_L2 LF 0 σ
set_option maxRecDepth 100000 in
set_option maxHeartbeats 4000000 in
theorem T_X7_findLeast {l : Launch} {Γ : Gm} {σ : St} {r : Int32} {σ' : St} (h : f_X7_findLeast σ = some (r, σ')) : MetV l yX7_findLeast cX7_findLeast 6 5 Γ σ [.ref (Γ.1 66)] σ' := by
  intro sz
  refine met_in (by decide) (Nat.le_of_ble_eq_true rfl) (fun p e s m args below meth c ls X hsz M hl => ?_)
  subst hsz
  have X : Cx p s m args meth c cX7_findLeast RX7 6 none Γ := X
  have hl : lv_has ls 6 [(0, .ref (Γ.1 66))] := hl
  unfold f_X7_findLeast at h
  refine lv_iconst (v := 0) X.x X.b dX7_findLeast_0 (by decide) ?_
  refine lv_istore_n (lv' := [(1, .int 0), (0, .ref (Γ.1 66))]) X.x X.b dX7_findLeast_1 rfl hl (by decide) rfl (fun ls hl => ?_)
  exact u_X7_findLeast_L2 X LF 0 σ _ _ _ h M (lv_sub hl [1, 0] rfl)
def f_X7_leastAt_b5 (k5 : (Int32 → Int32 → Int32 → Int32 → St → Rs)) (x1 : Int32) (x2 : Int32) (x3 : Int32) (x4 : Int32) (σ : St) : Rs :=
  if x2 ≤ x4 then (
    some (x3, σ)
  ) else (
    if inb ((121 * x1) + x4) 1210 then (
    if inb ((121 * x1) + x3) 1210 then (
    if (σ 73 ((121 * x1) + x3).toNatClampNeg) ≤ (σ 73 ((121 * x1) + x4).toNatClampNeg) then (
      k5 x1 x2 x3 (x4 + 1) σ
    ) else (
      k5 x1 x2 x4 (x4 + 1) σ
    )) else none) else none
  )
set_option maxRecDepth 100000 in
set_option maxHeartbeats 4000000 in
theorem u_X7_leastAt_b5 {l : Launch} {Γ : Gm} {p : Program} {e : Env} {s : State} {m : MethodId} {args : Array Value} {below : List Frame} {meth : Method} {c : Code} {r : Int32} {σ' : St} {k5 : Int32 → Int32 → Int32 → Int32 → St → Rs} (X : Cx p s m args meth c cX7_leastAt RX7 5 (some .int) Γ) (H5 : ∀ (x1 : Int32) (x2 : Int32) (x3 : Int32) (x4 : Int32) (σ : St) (H : Heap) (locs : List Loc) (ls : Array Slot), k5 x1 x2 x3 x4 σ = some (r, σ') → Mv Γ σ s H locs → lv_has ls 5 [(0, .ref (Γ.1 66)), (1, .int x1), (2, .int x2), (3, .int x3), (4, .int x4)] → W p l e (rmd 1) s m args below meth c H locs 0 0 (MQ below (Qi Γ r σ' s.heap.size) args s 0 0 (Rg Γ s.heap.size)) (F0 m 5 ls [])) (x1 : Int32) (x2 : Int32) (x3 : Int32) (x4 : Int32) (σ : St) (H : Heap) (locs : List Loc) (ls : Array Slot) (h : f_X7_leastAt_b5 k5 x1 x2 x3 x4 σ = some (r, σ')) (M : Mv Γ σ s H locs) (hl : lv_has ls 5 [(0, .ref (Γ.1 66)), (1, .int x1), (2, .int x2), (3, .int x3), (4, .int x4)]) : W p l e (rmd 1) s m args below meth c H locs 0 0 (MQ below (Qi Γ r σ' s.heap.size) args s 0 0 (Rg Γ s.heap.size)) (F0 m 5 ls []) := by
  unfold f_X7_leastAt_b5 at h
  refine lv_iload X.x X.b dX7_leastAt_5 (lv_at hl 4 rfl) ?_
  refine lv_iload_n X.x X.b dX7_leastAt_7 rfl (lv_at hl 2 rfl) ?_
  refine lv_icmp_ge (tgt := 50) X.x X.b dX7_leastAt_8 (by decide) (fun c4 => ?_) (fun c4 => ?_)
  · have h := it_t c4 h
    refine lv_iload_n X.x X.b dX7_leastAt_50 rfl (lv_at hl 3 rfl) ?_
    exact r_iret X M rfl h dX7_leastAt_51
  · have h := it_f c4 h
    refine lv_aload_n X.x X.b dX7_leastAt_11 rfl (lv_at hl 0 rfl) ?_
    refine r_get X M hq_66 (el_66 _ _) rfl inX7 11 (by decide) q739 rfl rfl dX7_leastAt_12 ?_
    refine lv_bipush (v := 121) X.x X.b dX7_leastAt_15 (by decide) ?_
    refine lv_iload_n X.x X.b dX7_leastAt_17 rfl (lv_at hl 1 rfl) ?_
    refine lv_imul X.x X.b dX7_leastAt_18 ?_
    refine lv_iload X.x X.b dX7_leastAt_19 (lv_at hl 4 rfl) ?_
    refine lv_iadd X.x X.b dX7_leastAt_21 ?_
    obtain ⟨c1, h⟩ := it_n h
    refine r_iald (q := 73) (n := 1210) X M rfl c1 dX7_leastAt_22 ?_
    refine lv_aload_n X.x X.b dX7_leastAt_23 rfl (lv_at hl 0 rfl) ?_
    refine r_get X M hq_66 (el_66 _ _) rfl inX7 11 (by decide) q739 rfl rfl dX7_leastAt_24 ?_
    refine lv_bipush (v := 121) X.x X.b dX7_leastAt_27 (by decide) ?_
    refine lv_iload_n X.x X.b dX7_leastAt_29 rfl (lv_at hl 1 rfl) ?_
    refine lv_imul X.x X.b dX7_leastAt_30 ?_
    refine lv_iload_n X.x X.b dX7_leastAt_31 rfl (lv_at hl 3 rfl) ?_
    refine lv_iadd X.x X.b dX7_leastAt_32 ?_
    obtain ⟨c2, h⟩ := it_n h
    refine r_iald (q := 73) (n := 1210) X M rfl c2 dX7_leastAt_33 ?_
    refine lv_icmp_ge (tgt := 42) X.x X.b dX7_leastAt_34 (by decide) (fun c3 => ?_) (fun c3 => ?_)
    · have h := it_t c3 h
      refine lv_iload_n X.x X.b dX7_leastAt_42 rfl (lv_at hl 3 rfl) ?_
      refine lv_istore_n (lv' := [(3, .int x3), (0, .ref (Γ.1 66)), (1, .int x1), (2, .int x2), (4, .int x4)]) X.x X.b dX7_leastAt_43 rfl hl (by decide) rfl (fun ls hl => ?_)
      refine lv_iinc (v := (x4 + 1)) (lv' := [(4, .int (x4 + 1)), (3, .int x3), (0, .ref (Γ.1 66)), (1, .int x1), (2, .int x2)]) X.x X.b dX7_leastAt_44 hl (k := 4) rfl rfl (by decide) rfl (fun ls hl => ?_)
      refine lv_goto (tgt := 5) X.x X.b dX7_leastAt_47 (by decide) ?_
      exact H5 x1 x2 x3 (x4 + 1) σ _ _ _ h M (lv_sub hl [2, 3, 4, 1, 0] rfl)
    · have h := it_f c3 h
      refine lv_iload X.x X.b dX7_leastAt_37 (lv_at hl 4 rfl) ?_
      refine lv_goto (tgt := 43) X.x X.b dX7_leastAt_39 (by decide) ?_
      refine lv_istore_n (lv' := [(3, .int x4), (0, .ref (Γ.1 66)), (1, .int x1), (2, .int x2), (4, .int x4)]) X.x X.b dX7_leastAt_43 rfl hl (by decide) rfl (fun ls hl => ?_)
      refine lv_iinc (v := (x4 + 1)) (lv' := [(4, .int (x4 + 1)), (3, .int x4), (0, .ref (Γ.1 66)), (1, .int x1), (2, .int x2)]) X.x X.b dX7_leastAt_44 hl (k := 4) rfl rfl (by decide) rfl (fun ls hl => ?_)
      refine lv_goto (tgt := 5) X.x X.b dX7_leastAt_47 (by decide) ?_
      exact H5 x1 x2 x4 (x4 + 1) σ _ _ _ h M (lv_sub hl [2, 3, 4, 1, 0] rfl)
def f_X7_leastAt_L5 : Nat → Int32 → Int32 → Int32 → Int32 → St → Rs
  | 0 => fun _ _ _ _ _ => none
  | n + 1 => fun x1 x2 x3 x4 σ => f_X7_leastAt_b5 (f_X7_leastAt_L5 n) x1 x2 x3 x4 σ
theorem u_X7_leastAt_L5 {l : Launch} {Γ : Gm} {p : Program} {e : Env} {s : State} {m : MethodId} {args : Array Value} {below : List Frame} {meth : Method} {c : Code} {r : Int32} {σ' : St} (X : Cx p s m args meth c cX7_leastAt RX7 5 (some .int) Γ) : ∀ (n : Nat) (x1 : Int32) (x2 : Int32) (x3 : Int32) (x4 : Int32) (σ : St) (H : Heap) (locs : List Loc) (ls : Array Slot), f_X7_leastAt_L5 n x1 x2 x3 x4 σ = some (r, σ') → Mv Γ σ s H locs → lv_has ls 5 [(0, .ref (Γ.1 66)), (1, .int x1), (2, .int x2), (3, .int x3), (4, .int x4)] → W p l e (rmd 1) s m args below meth c H locs 0 0 (MQ below (Qi Γ r σ' s.heap.size) args s 0 0 (Rg Γ s.heap.size)) (F0 m 5 ls []) := by
  intro n
  induction n with
  | zero => intro x1 x2 x3 x4 σ H locs ls h; cases h
  | succ n ih => intro x1 x2 x3 x4 σ H locs ls h; exact u_X7_leastAt_b5 X  ih x1 x2 x3 x4 σ H locs ls h
/-- StreetNumbersModel.leastAt(II)I -/
def f_X7_leastAt (x1 : Int32) (x2 : Int32) (σ : St) : Rs :=
  f_X7_leastAt_L5 LF x1 x2 1 2 σ
set_option maxRecDepth 100000 in
set_option maxHeartbeats 4000000 in
theorem T_X7_leastAt {l : Launch} {Γ : Gm} {x1 : Int32} {x2 : Int32} {σ : St} {r : Int32} {σ' : St} (h : f_X7_leastAt x1 x2 σ = some (r, σ')) : MetI l yX7_leastAt cX7_leastAt 5 .int 1 Γ σ [.ref (Γ.1 66), .int x1, .int x2] r σ' := by
  intro sz
  refine met_in (by decide) (Nat.le_of_ble_eq_true rfl) (fun p e s m args below meth c ls X hsz M hl => ?_)
  subst hsz
  have X : Cx p s m args meth c cX7_leastAt RX7 5 (some .int) Γ := X
  have hl : lv_has ls 5 [(0, .ref (Γ.1 66)), (1, .int x1), (2, .int x2)] := hl
  unfold f_X7_leastAt at h
  refine lv_iconst (v := 1) X.x X.b dX7_leastAt_0 (by decide) ?_
  refine lv_istore_n (lv' := [(3, .int 1), (0, .ref (Γ.1 66)), (1, .int x1), (2, .int x2)]) X.x X.b dX7_leastAt_1 rfl hl (by decide) rfl (fun ls hl => ?_)
  refine lv_iconst (v := 2) X.x X.b dX7_leastAt_2 (by decide) ?_
  refine lv_istore (lv' := [(4, .int 2), (3, .int 1), (0, .ref (Γ.1 66)), (1, .int x1), (2, .int x2)]) X.x X.b dX7_leastAt_3 hl (by decide) rfl (fun ls hl => ?_)
  exact u_X7_leastAt_L5 X LF x1 x2 1 2 σ _ _ _ h M (lv_sub hl [2, 3, 4, 1, 0] rfl)
def f_X7_least_b96 (x1 : Int32) (x3 : Int32) (σ : St) : Rs :=
  if x1 < 0 then (
    if inb 5 382 then (
    if (σ 67 (5 : Int32).toNatClampNeg) = 0 then (
      some (0, σ)
    ) else (
      if inb 5 382 then (
      if inb ((121 * ((σ 67 (5 : Int32).toNatClampNeg) - 1)) + x3) 1210 then (
      some ((σ 73 ((121 * ((σ 67 (5 : Int32).toNatClampNeg) - 1)) + x3).toNatClampNeg), σ)) else none) else none
    )) else none
  ) else (
    some (x3, σ)
  )
set_option maxRecDepth 100000 in
set_option maxHeartbeats 4000000 in
theorem u_X7_least_b96 {l : Launch} {Γ : Gm} {p : Program} {e : Env} {s : State} {m : MethodId} {args : Array Value} {below : List Frame} {meth : Method} {c : Code} {r : Int32} {σ' : St} (X : Cx p s m args meth c cX7_least RX7 5 (some .int) Γ) (x1 : Int32) (x3 : Int32) (σ : St) (H : Heap) (locs : List Loc) (ls : Array Slot) (h : f_X7_least_b96 x1 x3 σ = some (r, σ')) (M : Mv Γ σ s H locs) (hl : lv_has ls 5 [(0, .ref (Γ.1 66)), (1, .int x1), (3, .int x3)]) : W p l e (rmd 6) s m args below meth c H locs 0 0 (MQ below (Qi Γ r σ' s.heap.size) args s 0 0 (Rg Γ s.heap.size)) (F0 m 96 ls []) := by
  unfold f_X7_least_b96 at h
  refine lv_iload_n X.x X.b dX7_least_96 rfl (lv_at hl 1 rfl) ?_
  refine lv_if_lt (tgt := 104) X.x X.b dX7_least_97 (by decide) (fun c5 => ?_) (fun c5 => ?_)
  · have h := it_t c5 h
    refine lv_aload_n X.x X.b dX7_least_104 rfl (lv_at hl 0 rfl) ?_
    refine r_get X M hq_66 (el_66 _ _) rfl inX7 0 (by decide) q728 rfl rfl dX7_least_105 ?_
    refine lv_iconst (v := 5) X.x X.b dX7_least_108 (by decide) ?_
    obtain ⟨c1, h⟩ := it_n h
    refine r_iald (q := 67) (n := 382) X M rfl c1 dX7_least_109 ?_
    refine lv_if_ne (tgt := 117) X.x X.b dX7_least_110 (by decide) (fun c4 => ?_) (fun c4 => ?_)
    · have h := it_f c4 h
      refine lv_aload_n X.x X.b dX7_least_117 rfl (lv_at hl 0 rfl) ?_
      refine r_get X M hq_66 (el_66 _ _) rfl inX7 11 (by decide) q739 rfl rfl dX7_least_118 ?_
      refine lv_bipush (v := 121) X.x X.b dX7_least_121 (by decide) ?_
      refine lv_aload_n X.x X.b dX7_least_123 rfl (lv_at hl 0 rfl) ?_
      refine r_get X M hq_66 (el_66 _ _) rfl inX7 0 (by decide) q728 rfl rfl dX7_least_124 ?_
      refine lv_iconst (v := 5) X.x X.b dX7_least_127 (by decide) ?_
      obtain ⟨c2, h⟩ := it_n h
      refine r_iald (q := 67) (n := 382) X M rfl c2 dX7_least_128 ?_
      refine lv_iconst (v := 1) X.x X.b dX7_least_129 (by decide) ?_
      refine lv_isub X.x X.b dX7_least_130 ?_
      refine lv_imul X.x X.b dX7_least_131 ?_
      refine lv_iload_n X.x X.b dX7_least_132 rfl (lv_at hl 2 rfl) ?_
      refine lv_iadd X.x X.b dX7_least_133 ?_
      obtain ⟨c3, h⟩ := it_n h
      refine r_iald (q := 73) (n := 1210) X M rfl c3 dX7_least_134 ?_
      exact r_iret X M rfl h dX7_least_135
    · have h := it_t c4 h
      refine lv_iconst (v := 0) X.x X.b dX7_least_113 (by decide) ?_
      refine lv_goto (tgt := 135) X.x X.b dX7_least_114 (by decide) ?_
      exact r_iret X M rfl h dX7_least_135
  · have h := it_f c5 h
    refine lv_iload_n X.x X.b dX7_least_100 rfl (lv_at hl 2 rfl) ?_
    refine lv_goto (tgt := 135) X.x X.b dX7_least_101 (by decide) ?_
    exact r_iret X M rfl h dX7_least_135
def f_X7_least_b71 (k71 : (Int32 → Int32 → Int32 → Int32 → St → Rs)) (x1 : Int32) (x2 : Int32) (x3 : Int32) (x4 : Int32) (σ : St) : Rs :=
  if x4 < x2 then (
    f_X7_least_b96 x1 x3 σ
  ) else (
    if x4 < 0 then (
      f_X7_least_b96 x1 x3 σ
    ) else (
      ob (f_X7_leastAt x4 x3 σ) fun r1 σ1 => (
      k71 x1 x2 r1 (x4 + (-1)) σ1)
    )
  )
set_option maxRecDepth 100000 in
set_option maxHeartbeats 4000000 in
theorem u_X7_least_b71 {l : Launch} {Γ : Gm} {p : Program} {e : Env} {s : State} {m : MethodId} {args : Array Value} {below : List Frame} {meth : Method} {c : Code} {r : Int32} {σ' : St} {k71 : Int32 → Int32 → Int32 → Int32 → St → Rs} (X : Cx p s m args meth c cX7_least RX7 5 (some .int) Γ) (H71 : ∀ (x1 : Int32) (x2 : Int32) (x3 : Int32) (x4 : Int32) (σ : St) (H : Heap) (locs : List Loc) (ls : Array Slot), k71 x1 x2 x3 x4 σ = some (r, σ') → Mv Γ σ s H locs → lv_has ls 5 [(0, .ref (Γ.1 66)), (1, .int x1), (2, .int x2), (3, .int x3), (4, .int x4)] → W p l e (rmd 6) s m args below meth c H locs 0 0 (MQ below (Qi Γ r σ' s.heap.size) args s 0 0 (Rg Γ s.heap.size)) (F0 m 71 ls [])) (x1 : Int32) (x2 : Int32) (x3 : Int32) (x4 : Int32) (σ : St) (H : Heap) (locs : List Loc) (ls : Array Slot) (h : f_X7_least_b71 k71 x1 x2 x3 x4 σ = some (r, σ')) (M : Mv Γ σ s H locs) (hl : lv_has ls 5 [(0, .ref (Γ.1 66)), (1, .int x1), (2, .int x2), (3, .int x3), (4, .int x4)]) : W p l e (rmd 6) s m args below meth c H locs 0 0 (MQ below (Qi Γ r σ' s.heap.size) args s 0 0 (Rg Γ s.heap.size)) (F0 m 71 ls []) := by
  unfold f_X7_least_b71 at h
  refine lv_iload X.x X.b dX7_least_71 (lv_at hl 4 rfl) ?_
  refine lv_iload_n X.x X.b dX7_least_73 rfl (lv_at hl 2 rfl) ?_
  refine lv_icmp_lt (tgt := 96) X.x X.b dX7_least_74 (by decide) (fun c3 => ?_) (fun c3 => ?_)
  · have h := it_t c3 h
    exact u_X7_least_b96 X x1 x3 σ _ _ _ h M (lv_sub hl [0, 1, 3] rfl)
  · have h := it_f c3 h
    refine lv_iload X.x X.b dX7_least_77 (lv_at hl 4 rfl) ?_
    refine lv_if_lt (tgt := 96) X.x X.b dX7_least_79 (by decide) (fun c2 => ?_) (fun c2 => ?_)
    · have h := it_t c2 h
      exact u_X7_least_b96 X x1 x3 σ _ _ _ h M (lv_sub hl [0, 1, 3] rfl)
    · have h := it_f c2 h
      refine lv_aload_n X.x X.b dX7_least_82 rfl (lv_at hl 0 rfl) ?_
      refine lv_iload X.x X.b dX7_least_83 (lv_at hl 4 rfl) ?_
      refine lv_iload_n X.x X.b dX7_least_85 rfl (lv_at hl 3 rfl) ?_
      obtain ⟨r1, σ1, h1, h⟩ := ob_e h
      refine r_runI M (r_callV (As := [.int x4, .int x3]) X M (lv_sub hl [] rfl) (T_X7_leastAt h1 _) cal_X7_leastAt q1004 ⟨by decide, by decide⟩ hq_66 (el_66 _ _) rfl rfl rfl (Nat.le_of_ble_eq_true rfl) ⟨Nat.le_refl _, Nat.le_refl _⟩ dX7_least_86) (fun H locs M => ?_)
      clear h1
      refine lv_istore_n (lv' := [(3, .int r1), (0, .ref (Γ.1 66)), (1, .int x1), (2, .int x2), (4, .int x4)]) X.x X.b dX7_least_89 rfl hl (by decide) rfl (fun ls hl => ?_)
      refine lv_iinc (v := (x4 + (-1))) (lv' := [(4, .int (x4 + (-1))), (3, .int r1), (0, .ref (Γ.1 66)), (1, .int x1), (2, .int x2)]) X.x X.b dX7_least_90 hl (k := 4) rfl rfl (by decide) rfl (fun ls hl => ?_)
      refine lv_goto (tgt := 71) X.x X.b dX7_least_93 (by decide) ?_
      exact H71 x1 x2 r1 (x4 + (-1)) σ1 _ _ _ h M (lv_sub hl [2, 3, 4, 1, 0] rfl)
def f_X7_least_L71 : Nat → Int32 → Int32 → Int32 → Int32 → St → Rs
  | 0 => fun _ _ _ _ _ => none
  | n + 1 => fun x1 x2 x3 x4 σ => f_X7_least_b71 (f_X7_least_L71 n) x1 x2 x3 x4 σ
theorem u_X7_least_L71 {l : Launch} {Γ : Gm} {p : Program} {e : Env} {s : State} {m : MethodId} {args : Array Value} {below : List Frame} {meth : Method} {c : Code} {r : Int32} {σ' : St} (X : Cx p s m args meth c cX7_least RX7 5 (some .int) Γ) : ∀ (n : Nat) (x1 : Int32) (x2 : Int32) (x3 : Int32) (x4 : Int32) (σ : St) (H : Heap) (locs : List Loc) (ls : Array Slot), f_X7_least_L71 n x1 x2 x3 x4 σ = some (r, σ') → Mv Γ σ s H locs → lv_has ls 5 [(0, .ref (Γ.1 66)), (1, .int x1), (2, .int x2), (3, .int x3), (4, .int x4)] → W p l e (rmd 6) s m args below meth c H locs 0 0 (MQ below (Qi Γ r σ' s.heap.size) args s 0 0 (Rg Γ s.heap.size)) (F0 m 71 ls []) := by
  intro n
  induction n with
  | zero => intro x1 x2 x3 x4 σ H locs ls h; cases h
  | succ n ih => intro x1 x2 x3 x4 σ H locs ls h; exact u_X7_least_b71 X  ih x1 x2 x3 x4 σ H locs ls h
/-- StreetNumbersModel.least(I)I -/
def f_X7_least (x1 : Int32) (σ : St) : Rs :=
  ob (f_X7_in x1 (-1) 9 σ) fun r1 σ1 => (
  if r1 = 0 then (
    ob (f_X7_error 1 σ1) fun r11 σ11 => (
    some (r11, σ11))
  ) else (
    if inb 5 382 then (
    if x1 < (σ1 67 (5 : Int32).toNatClampNeg) then (
      ob (f_X7_findLeast σ1) fun _ σ3 => (
      if 0 ≤ x1 then (
        ob (f_X7_its x1 3 σ3) fun r4 σ4 => (
        if inb 5 382 then (
        f_X7_least_L71 LF x1 r4 121 ((σ4 67 (5 : Int32).toNatClampNeg) - 1) σ4) else none)
      ) else (
        if inb 5 382 then (
        if inb 5 382 then (
        f_X7_least_L71 LF x1 ((σ3 67 (5 : Int32).toNatClampNeg) - 1) 121 ((σ3 67 (5 : Int32).toNatClampNeg) - 1) σ3) else none) else none
      ))
    ) else (
      ob (f_X7_error 2 σ1) fun r9 σ9 => (
      some (r9, σ9))
    )) else none
  ))
set_option maxRecDepth 100000 in
set_option maxHeartbeats 4000000 in
theorem T_X7_least {l : Launch} {Γ : Gm} {x1 : Int32} {σ : St} {r : Int32} {σ' : St} (h : f_X7_least x1 σ = some (r, σ')) : MetI l yX7_least cX7_least 5 .int 6 Γ σ [.ref (Γ.1 66), .int x1] r σ' := by
  intro sz
  refine met_in (by decide) (Nat.le_of_ble_eq_true rfl) (fun p e s m args below meth c ls X hsz M hl => ?_)
  subst hsz
  have X : Cx p s m args meth c cX7_least RX7 5 (some .int) Γ := X
  have hl : lv_has ls 5 [(0, .ref (Γ.1 66)), (1, .int x1)] := hl
  unfold f_X7_least at h
  refine lv_iload_n X.x X.b dX7_least_0 rfl (lv_at hl 1 rfl) ?_
  refine lv_iconst (v := (-1)) X.x X.b dX7_least_1 (by decide) ?_
  refine lv_bipush (v := 9) X.x X.b dX7_least_2 (by decide) ?_
  obtain ⟨r1, σ1, h1, h⟩ := ob_e h
  refine r_runI M (r_callS (As := [.int x1, .int (-1), .int 9]) X M (lv_sub hl [] rfl) (T_X7_in h1 _) cal_X7_in q799 ⟨by decide, by decide⟩ rfl rfl (Nat.le_of_ble_eq_true rfl) ⟨Nat.le_refl _, Nat.le_refl _⟩ dX7_least_4) (fun H locs M => ?_)
  clear h1
  refine lv_if_ne (tgt := 16) X.x X.b dX7_least_7 (by decide) (fun c12 => ?_) (fun c12 => ?_)
  · have h := it_f c12 h
    refine lv_iload_n X.x X.b dX7_least_16 rfl (lv_at hl 1 rfl) ?_
    refine lv_aload_n X.x X.b dX7_least_17 rfl (lv_at hl 0 rfl) ?_
    refine r_get X M hq_66 (el_66 _ _) rfl inX7 0 (by decide) q728 rfl rfl dX7_least_18 ?_
    refine lv_iconst (v := 5) X.x X.b dX7_least_21 (by decide) ?_
    obtain ⟨c2, h⟩ := it_n h
    refine r_iald (q := 67) (n := 382) X M rfl c2 dX7_least_22 ?_
    refine lv_icmp_lt (tgt := 32) X.x X.b dX7_least_23 (by decide) (fun c10 => ?_) (fun c10 => ?_)
    · have h := it_t c10 h
      refine lv_aload_n X.x X.b dX7_least_32 rfl (lv_at hl 0 rfl) ?_
      obtain ⟨r3, σ3, h3, h⟩ := ob_e h
      refine r_runV M (r_callV (As := []) X M (lv_sub hl [] rfl) (T_X7_findLeast h3 _) cal_X7_findLeast q999 ⟨by decide, by decide⟩ hq_66 (el_66 _ _) rfl rfl rfl (Nat.le_of_ble_eq_true rfl) ⟨Nat.le_refl _, Nat.le_refl _⟩ dX7_least_33) (fun H locs M => ?_)
      clear h3
      refine lv_iload_n X.x X.b dX7_least_36 rfl (lv_at hl 1 rfl) ?_
      refine lv_if_ge (tgt := 51) X.x X.b dX7_least_37 (by decide) (fun c8 => ?_) (fun c8 => ?_)
      · have h := it_t c8 h
        refine lv_aload_n X.x X.b dX7_least_51 rfl (lv_at hl 0 rfl) ?_
        refine lv_iload_n X.x X.b dX7_least_52 rfl (lv_at hl 1 rfl) ?_
        refine lv_iconst (v := 3) X.x X.b dX7_least_53 (by decide) ?_
        obtain ⟨r4, σ4, h4, h⟩ := ob_e h
        refine r_runI M (r_callV (As := [.int x1, .int 3]) X M (lv_sub hl [] rfl) (T_X7_its h4 _) cal_X7_its q874 ⟨by decide, by decide⟩ hq_66 (el_66 _ _) rfl rfl rfl (Nat.le_of_ble_eq_true rfl) ⟨Nat.le_refl _, Nat.le_refl _⟩ dX7_least_54) (fun H locs M => ?_)
        clear h4
        refine lv_istore_n (lv' := [(2, .int r4), (0, .ref (Γ.1 66)), (1, .int x1)]) X.x X.b dX7_least_57 rfl hl (by decide) rfl (fun ls hl => ?_)
        refine lv_bipush (v := 121) X.x X.b dX7_least_58 (by decide) ?_
        refine lv_istore_n (lv' := [(3, .int 121), (2, .int r4), (0, .ref (Γ.1 66)), (1, .int x1)]) X.x X.b dX7_least_60 rfl hl (by decide) rfl (fun ls hl => ?_)
        refine lv_aload_n X.x X.b dX7_least_61 rfl (lv_at hl 2 rfl) ?_
        refine r_get X M hq_66 (el_66 _ _) rfl inX7 0 (by decide) q728 rfl rfl dX7_least_62 ?_
        refine lv_iconst (v := 5) X.x X.b dX7_least_65 (by decide) ?_
        obtain ⟨c5, h⟩ := it_n h
        refine r_iald (q := 67) (n := 382) X M rfl c5 dX7_least_66 ?_
        refine lv_iconst (v := 1) X.x X.b dX7_least_67 (by decide) ?_
        refine lv_isub X.x X.b dX7_least_68 ?_
        refine lv_istore (lv' := [(4, .int ((σ4 67 (5 : Int32).toNatClampNeg) - 1)), (3, .int 121), (2, .int r4), (0, .ref (Γ.1 66)), (1, .int x1)]) X.x X.b dX7_least_69 hl (by decide) rfl (fun ls hl => ?_)
        exact u_X7_least_L71 X LF x1 r4 121 ((σ4 67 (5 : Int32).toNatClampNeg) - 1) σ4 _ _ _ h M (lv_sub hl [3, 4, 2, 1, 0] rfl)
      · have h := it_f c8 h
        refine lv_aload_n X.x X.b dX7_least_40 rfl (lv_at hl 0 rfl) ?_
        refine r_get X M hq_66 (el_66 _ _) rfl inX7 0 (by decide) q728 rfl rfl dX7_least_41 ?_
        refine lv_iconst (v := 5) X.x X.b dX7_least_44 (by decide) ?_
        obtain ⟨c6, h⟩ := it_n h
        refine r_iald (q := 67) (n := 382) X M rfl c6 dX7_least_45 ?_
        refine lv_iconst (v := 1) X.x X.b dX7_least_46 (by decide) ?_
        refine lv_isub X.x X.b dX7_least_47 ?_
        refine lv_goto (tgt := 57) X.x X.b dX7_least_48 (by decide) ?_
        refine lv_istore_n (lv' := [(2, .int ((σ3 67 (5 : Int32).toNatClampNeg) - 1)), (0, .ref (Γ.1 66)), (1, .int x1)]) X.x X.b dX7_least_57 rfl hl (by decide) rfl (fun ls hl => ?_)
        refine lv_bipush (v := 121) X.x X.b dX7_least_58 (by decide) ?_
        refine lv_istore_n (lv' := [(3, .int 121), (2, .int ((σ3 67 (5 : Int32).toNatClampNeg) - 1)), (0, .ref (Γ.1 66)), (1, .int x1)]) X.x X.b dX7_least_60 rfl hl (by decide) rfl (fun ls hl => ?_)
        refine lv_aload_n X.x X.b dX7_least_61 rfl (lv_at hl 2 rfl) ?_
        refine r_get X M hq_66 (el_66 _ _) rfl inX7 0 (by decide) q728 rfl rfl dX7_least_62 ?_
        refine lv_iconst (v := 5) X.x X.b dX7_least_65 (by decide) ?_
        obtain ⟨c7, h⟩ := it_n h
        refine r_iald (q := 67) (n := 382) X M rfl c7 dX7_least_66 ?_
        refine lv_iconst (v := 1) X.x X.b dX7_least_67 (by decide) ?_
        refine lv_isub X.x X.b dX7_least_68 ?_
        refine lv_istore (lv' := [(4, .int ((σ3 67 (5 : Int32).toNatClampNeg) - 1)), (3, .int 121), (2, .int ((σ3 67 (5 : Int32).toNatClampNeg) - 1)), (0, .ref (Γ.1 66)), (1, .int x1)]) X.x X.b dX7_least_69 hl (by decide) rfl (fun ls hl => ?_)
        exact u_X7_least_L71 X LF x1 ((σ3 67 (5 : Int32).toNatClampNeg) - 1) 121 ((σ3 67 (5 : Int32).toNatClampNeg) - 1) σ3 _ _ _ h M (lv_sub hl [3, 4, 2, 1, 0] rfl)
    · have h := it_f c10 h
      refine lv_aload_n X.x X.b dX7_least_26 rfl (lv_at hl 0 rfl) ?_
      refine lv_iconst (v := 2) X.x X.b dX7_least_27 (by decide) ?_
      obtain ⟨r9, σ9, h9, h⟩ := ob_e h
      refine r_runI M (r_callV (As := [.int 2]) X M (lv_sub hl [] rfl) (T_X7_error h9 _) cal_X7_error q802 ⟨by decide, by decide⟩ hq_66 (el_66 _ _) rfl rfl rfl (Nat.le_of_ble_eq_true rfl) ⟨Nat.le_refl _, Nat.le_refl _⟩ dX7_least_28) (fun H locs M => ?_)
      clear h9
      exact r_iret X M rfl h dX7_least_31
  · have h := it_t c12 h
    refine lv_aload_n X.x X.b dX7_least_10 rfl (lv_at hl 0 rfl) ?_
    refine lv_iconst (v := 1) X.x X.b dX7_least_11 (by decide) ?_
    obtain ⟨r11, σ11, h11, h⟩ := ob_e h
    refine r_runI M (r_callV (As := [.int 1]) X M (lv_sub hl [] rfl) (T_X7_error h11 _) cal_X7_error q802 ⟨by decide, by decide⟩ hq_66 (el_66 _ _) rfl rfl rfl (Nat.le_of_ble_eq_true rfl) ⟨Nat.le_refl _, Nat.le_refl _⟩ dX7_least_12) (fun H locs M => ?_)
    clear h11
    exact r_iret X M rfl h dX7_least_15
/-- StreetNumbersModel.draw()I -/
def f_X7_draw (σ : St) : Rs :=
  if inb 2 382 then (
  if inb 2 382 then (
  ol (st σ 67 (2 : Int32).toNatClampNeg (((σ 67 (2 : Int32).toNatClampNeg) * 1103515245) + 12345)) fun σ3 => (
  if inb 2 382 then (
  some ((iushr (σ3 67 (2 : Int32).toNatClampNeg) 8), σ3)) else none)) else none) else none
set_option maxRecDepth 100000 in
set_option maxHeartbeats 4000000 in
theorem T_X7_draw {l : Launch} {Γ : Gm} {σ : St} {r : Int32} {σ' : St} (h : f_X7_draw σ = some (r, σ')) : MetI l yX7_draw cX7_draw 1 .int 1 Γ σ [.ref (Γ.1 66)] r σ' := by
  intro sz
  refine met_in (by decide) (Nat.le_of_ble_eq_true rfl) (fun p e s m args below meth c ls X hsz M hl => ?_)
  subst hsz
  have X : Cx p s m args meth c cX7_draw RX7 1 (some .int) Γ := X
  have hl : lv_has ls 1 [(0, .ref (Γ.1 66))] := hl
  unfold f_X7_draw at h
  refine lv_aload_n X.x X.b dX7_draw_0 rfl (lv_at hl 0 rfl) ?_
  refine r_get X M hq_66 (el_66 _ _) rfl inX7 0 (by decide) q728 rfl rfl dX7_draw_1 ?_
  refine lv_iconst (v := 2) X.x X.b dX7_draw_4 (by decide) ?_
  refine lv_aload_n X.x X.b dX7_draw_5 rfl (lv_at hl 0 rfl) ?_
  refine r_get X M hq_66 (el_66 _ _) rfl inX7 0 (by decide) q728 rfl rfl dX7_draw_6 ?_
  refine lv_iconst (v := 2) X.x X.b dX7_draw_9 (by decide) ?_
  obtain ⟨c1, h⟩ := it_n h
  refine r_iald (q := 67) (n := 382) X M rfl c1 dX7_draw_10 ?_
  refine lv_ldc (v := 1103515245) X.x X.b X.ow (X.ts _ q1070) dX7_draw_11 ?_
  refine lv_imul X.x X.b dX7_draw_13 ?_
  refine lv_sipush (v := 12345) X.x X.b dX7_draw_14 (by decide) ?_
  refine lv_iadd X.x X.b dX7_draw_17 ?_
  obtain ⟨c2, h⟩ := it_n h
  obtain ⟨σ3, e3, h⟩ := ol_e h
  refine r_iast (q := 67) (n := 382) X M rfl c2 dX7_draw_18 (fun H locs M => ?_)
  rw [← e3] at M
  refine lv_aload_n X.x X.b dX7_draw_19 rfl (lv_at hl 0 rfl) ?_
  refine r_get X M hq_66 (el_66 _ _) rfl inX7 0 (by decide) q728 rfl rfl dX7_draw_20 ?_
  refine lv_iconst (v := 2) X.x X.b dX7_draw_23 (by decide) ?_
  obtain ⟨c4, h⟩ := it_n h
  refine r_iald (q := 67) (n := 382) X M rfl c4 dX7_draw_24 ?_
  refine lv_bipush (v := 8) X.x X.b dX7_draw_25 (by decide) ?_
  refine lv_iushr (v := (iushr (σ3 67 (2 : Int32).toNatClampNeg) 8)) X.x X.b dX7_draw_27 rfl ?_
  exact r_iret X M rfl h dX7_draw_28
/-- StreetNumbersModel.gets(II)I -/
def f_X7_gets (x1 : Int32) (x2 : Int32) (σ : St) : Rs :=
  ob (f_X7_harmOf x1 x2 σ) fun r1 σ1 => (
  if inb 1 382 then (
  ob (f_X7_held ((σ1 67 (1 : Int32).toNatClampNeg) + r1) 0 99999 σ1) fun r3 σ3 => (
  if inb 1 382 then (
  ol (st σ3 67 (1 : Int32).toNatClampNeg r3) fun σ5 => (
  ob (f_X7_lays1 x1 2 x2 σ5) fun _ σ6 => (
  some (r1, σ6)))) else none)) else none)
set_option maxRecDepth 100000 in
set_option maxHeartbeats 4000000 in
theorem T_X7_gets {l : Launch} {Γ : Gm} {x1 : Int32} {x2 : Int32} {σ : St} {r : Int32} {σ' : St} (h : f_X7_gets x1 x2 σ = some (r, σ')) : MetI l yX7_gets cX7_gets 4 .int 5 Γ σ [.ref (Γ.1 66), .int x1, .int x2] r σ' := by
  intro sz
  refine met_in (by decide) (Nat.le_of_ble_eq_true rfl) (fun p e s m args below meth c ls X hsz M hl => ?_)
  subst hsz
  have X : Cx p s m args meth c cX7_gets RX7 4 (some .int) Γ := X
  have hl : lv_has ls 4 [(0, .ref (Γ.1 66)), (1, .int x1), (2, .int x2)] := hl
  unfold f_X7_gets at h
  refine lv_aload_n X.x X.b dX7_gets_0 rfl (lv_at hl 0 rfl) ?_
  refine lv_iload_n X.x X.b dX7_gets_1 rfl (lv_at hl 1 rfl) ?_
  refine lv_iload_n X.x X.b dX7_gets_2 rfl (lv_at hl 2 rfl) ?_
  obtain ⟨r1, σ1, h1, h⟩ := ob_e h
  refine r_runI M (r_callV (As := [.int x1, .int x2]) X M (lv_sub hl [] rfl) (T_X7_harmOf h1 _) cal_X7_harmOf q943 ⟨by decide, by decide⟩ hq_66 (el_66 _ _) rfl rfl rfl (Nat.le_of_ble_eq_true rfl) ⟨Nat.le_refl _, Nat.le_refl _⟩ dX7_gets_3) (fun H locs M => ?_)
  clear h1
  refine lv_istore_n (lv' := [(3, .int r1), (0, .ref (Γ.1 66)), (1, .int x1), (2, .int x2)]) X.x X.b dX7_gets_6 rfl hl (by decide) rfl (fun ls hl => ?_)
  refine lv_aload_n X.x X.b dX7_gets_7 rfl (lv_at hl 1 rfl) ?_
  refine r_get X M hq_66 (el_66 _ _) rfl inX7 0 (by decide) q728 rfl rfl dX7_gets_8 ?_
  refine lv_iconst (v := 1) X.x X.b dX7_gets_11 (by decide) ?_
  refine lv_aload_n X.x X.b dX7_gets_12 rfl (lv_at hl 1 rfl) ?_
  refine r_get X M hq_66 (el_66 _ _) rfl inX7 0 (by decide) q728 rfl rfl dX7_gets_13 ?_
  refine lv_iconst (v := 1) X.x X.b dX7_gets_16 (by decide) ?_
  obtain ⟨c2, h⟩ := it_n h
  refine r_iald (q := 67) (n := 382) X M rfl c2 dX7_gets_17 ?_
  refine lv_iload_n X.x X.b dX7_gets_18 rfl (lv_at hl 0 rfl) ?_
  refine lv_iadd X.x X.b dX7_gets_19 ?_
  refine lv_iconst (v := 0) X.x X.b dX7_gets_20 (by decide) ?_
  refine lv_ldc (v := 99999) X.x X.b X.ow (X.ts _ q963) dX7_gets_21 ?_
  obtain ⟨r3, σ3, h3, h⟩ := ob_e h
  refine r_runI M (r_callS (As := [.int ((σ1 67 (1 : Int32).toNatClampNeg) + r1), .int 0, .int 99999]) X M (lv_sub hl [] rfl) (T_X7_held h3 _) cal_X7_held q909 ⟨by decide, by decide⟩ rfl rfl (Nat.le_of_ble_eq_true rfl) ⟨Nat.le_refl _, Nat.le_refl _⟩ dX7_gets_23) (fun H locs M => ?_)
  clear h3
  obtain ⟨c4, h⟩ := it_n h
  obtain ⟨σ5, e5, h⟩ := ol_e h
  refine r_iast (q := 67) (n := 382) X M rfl c4 dX7_gets_26 (fun H locs M => ?_)
  rw [← e5] at M
  refine lv_aload_n X.x X.b dX7_gets_27 rfl (lv_at hl 1 rfl) ?_
  refine lv_iload_n X.x X.b dX7_gets_28 rfl (lv_at hl 2 rfl) ?_
  refine lv_iconst (v := 2) X.x X.b dX7_gets_29 (by decide) ?_
  refine lv_iload_n X.x X.b dX7_gets_30 rfl (lv_at hl 3 rfl) ?_
  obtain ⟨r6, σ6, h6, h⟩ := ob_e h
  refine r_runV M (r_callV (As := [.int x1, .int 2, .int x2]) X M (lv_sub hl [] rfl) (T_X7_lays1 h6 _) cal_X7_lays1 q878 ⟨by decide, by decide⟩ hq_66 (el_66 _ _) rfl rfl rfl (Nat.le_of_ble_eq_true rfl) ⟨Nat.le_refl _, Nat.le_refl _⟩ dX7_gets_31) (fun H locs M => ?_)
  clear h6
  refine lv_iload_n X.x X.b dX7_gets_34 rfl (lv_at hl 0 rfl) ?_
  exact r_iret X M rfl h dX7_gets_35
def f_X7_renumbers_b4 (k4 : (Int32 → Int32 → Int32 → St → Rs)) (x1 : Int32) (x2 : Int32) (x3 : Int32) (σ : St) : Rs :=
  if inb 5 382 then (
  if (σ 67 (5 : Int32).toNatClampNeg) ≤ x3 then (
    some (x2, σ)
  ) else (
    ob (f_X7_its x3 3 σ) fun r2 σ2 => (
    ob (f_X7_gets x3 (x1 * (r2 + 1)) σ2) fun r3 σ3 => (
    k4 x1 (x2 + r3) (x3 + 1) σ3))
  )) else none
set_option maxRecDepth 100000 in
set_option maxHeartbeats 4000000 in
theorem u_X7_renumbers_b4 {l : Launch} {Γ : Gm} {p : Program} {e : Env} {s : State} {m : MethodId} {args : Array Value} {below : List Frame} {meth : Method} {c : Code} {r : Int32} {σ' : St} {k4 : Int32 → Int32 → Int32 → St → Rs} (X : Cx p s m args meth c cX7_renumbers RX7 4 (some .int) Γ) (H4 : ∀ (x1 : Int32) (x2 : Int32) (x3 : Int32) (σ : St) (H : Heap) (locs : List Loc) (ls : Array Slot), k4 x1 x2 x3 σ = some (r, σ') → Mv Γ σ s H locs → lv_has ls 4 [(0, .ref (Γ.1 66)), (1, .int x1), (2, .int x2), (3, .int x3)] → W p l e (rmd 6) s m args below meth c H locs 0 0 (MQ below (Qi Γ r σ' s.heap.size) args s 0 0 (Rg Γ s.heap.size)) (F0 m 4 ls [])) (x1 : Int32) (x2 : Int32) (x3 : Int32) (σ : St) (H : Heap) (locs : List Loc) (ls : Array Slot) (h : f_X7_renumbers_b4 k4 x1 x2 x3 σ = some (r, σ')) (M : Mv Γ σ s H locs) (hl : lv_has ls 4 [(0, .ref (Γ.1 66)), (1, .int x1), (2, .int x2), (3, .int x3)]) : W p l e (rmd 6) s m args below meth c H locs 0 0 (MQ below (Qi Γ r σ' s.heap.size) args s 0 0 (Rg Γ s.heap.size)) (F0 m 4 ls []) := by
  unfold f_X7_renumbers_b4 at h
  refine lv_iload_n X.x X.b dX7_renumbers_4 rfl (lv_at hl 3 rfl) ?_
  refine lv_aload_n X.x X.b dX7_renumbers_5 rfl (lv_at hl 0 rfl) ?_
  refine r_get X M hq_66 (el_66 _ _) rfl inX7 0 (by decide) q728 rfl rfl dX7_renumbers_6 ?_
  refine lv_iconst (v := 5) X.x X.b dX7_renumbers_9 (by decide) ?_
  obtain ⟨c1, h⟩ := it_n h
  refine r_iald (q := 67) (n := 382) X M rfl c1 dX7_renumbers_10 ?_
  refine lv_icmp_ge (tgt := 38) X.x X.b dX7_renumbers_11 (by decide) (fun c4 => ?_) (fun c4 => ?_)
  · have h := it_t c4 h
    refine lv_iload_n X.x X.b dX7_renumbers_38 rfl (lv_at hl 2 rfl) ?_
    exact r_iret X M rfl h dX7_renumbers_39
  · have h := it_f c4 h
    refine lv_iload_n X.x X.b dX7_renumbers_14 rfl (lv_at hl 2 rfl) ?_
    refine lv_aload_n X.x X.b dX7_renumbers_15 rfl (lv_at hl 0 rfl) ?_
    refine lv_iload_n X.x X.b dX7_renumbers_16 rfl (lv_at hl 3 rfl) ?_
    refine lv_iload_n X.x X.b dX7_renumbers_17 rfl (lv_at hl 1 rfl) ?_
    refine lv_aload_n X.x X.b dX7_renumbers_18 rfl (lv_at hl 0 rfl) ?_
    refine lv_iload_n X.x X.b dX7_renumbers_19 rfl (lv_at hl 3 rfl) ?_
    refine lv_iconst (v := 3) X.x X.b dX7_renumbers_20 (by decide) ?_
    obtain ⟨r2, σ2, h2, h⟩ := ob_e h
    refine r_runI M (r_callV (As := [.int x3, .int 3]) X M (lv_sub hl [] rfl) (T_X7_its h2 _) cal_X7_its q874 ⟨by decide, by decide⟩ hq_66 (el_66 _ _) rfl rfl rfl (Nat.le_of_ble_eq_true rfl) ⟨Nat.le_refl _, Nat.le_refl _⟩ dX7_renumbers_21) (fun H locs M => ?_)
    clear h2
    refine lv_iconst (v := 1) X.x X.b dX7_renumbers_24 (by decide) ?_
    refine lv_iadd X.x X.b dX7_renumbers_25 ?_
    refine lv_imul X.x X.b dX7_renumbers_26 ?_
    obtain ⟨r3, σ3, h3, h⟩ := ob_e h
    refine r_runI M (r_callV (As := [.int x3, .int (x1 * (r2 + 1))]) X M (lv_sub hl [] rfl) (T_X7_gets h3 _) cal_X7_gets q959 ⟨by decide, by decide⟩ hq_66 (el_66 _ _) rfl rfl rfl (Nat.le_of_ble_eq_true rfl) ⟨Nat.le_refl _, Nat.le_refl _⟩ dX7_renumbers_27) (fun H locs M => ?_)
    clear h3
    refine lv_iadd X.x X.b dX7_renumbers_30 ?_
    refine lv_istore_n (lv' := [(2, .int (x2 + r3)), (0, .ref (Γ.1 66)), (1, .int x1), (3, .int x3)]) X.x X.b dX7_renumbers_31 rfl hl (by decide) rfl (fun ls hl => ?_)
    refine lv_iinc (v := (x3 + 1)) (lv' := [(3, .int (x3 + 1)), (2, .int (x2 + r3)), (0, .ref (Γ.1 66)), (1, .int x1)]) X.x X.b dX7_renumbers_32 hl (k := 3) rfl rfl (by decide) rfl (fun ls hl => ?_)
    refine lv_goto (tgt := 4) X.x X.b dX7_renumbers_35 (by decide) ?_
    exact H4 x1 (x2 + r3) (x3 + 1) σ3 _ _ _ h M (lv_sub hl [2, 3, 1, 0] rfl)
def f_X7_renumbers_L4 : Nat → Int32 → Int32 → Int32 → St → Rs
  | 0 => fun _ _ _ _ => none
  | n + 1 => fun x1 x2 x3 σ => f_X7_renumbers_b4 (f_X7_renumbers_L4 n) x1 x2 x3 σ
theorem u_X7_renumbers_L4 {l : Launch} {Γ : Gm} {p : Program} {e : Env} {s : State} {m : MethodId} {args : Array Value} {below : List Frame} {meth : Method} {c : Code} {r : Int32} {σ' : St} (X : Cx p s m args meth c cX7_renumbers RX7 4 (some .int) Γ) : ∀ (n : Nat) (x1 : Int32) (x2 : Int32) (x3 : Int32) (σ : St) (H : Heap) (locs : List Loc) (ls : Array Slot), f_X7_renumbers_L4 n x1 x2 x3 σ = some (r, σ') → Mv Γ σ s H locs → lv_has ls 4 [(0, .ref (Γ.1 66)), (1, .int x1), (2, .int x2), (3, .int x3)] → W p l e (rmd 6) s m args below meth c H locs 0 0 (MQ below (Qi Γ r σ' s.heap.size) args s 0 0 (Rg Γ s.heap.size)) (F0 m 4 ls []) := by
  intro n
  induction n with
  | zero => intro x1 x2 x3 σ H locs ls h; cases h
  | succ n ih => intro x1 x2 x3 σ H locs ls h; exact u_X7_renumbers_b4 X  ih x1 x2 x3 σ H locs ls h
/-- StreetNumbersModel.renumbers(I)I -/
def f_X7_renumbers (x1 : Int32) (σ : St) : Rs :=
  f_X7_renumbers_L4 LF x1 0 0 σ
set_option maxRecDepth 100000 in
set_option maxHeartbeats 4000000 in
theorem T_X7_renumbers {l : Launch} {Γ : Gm} {x1 : Int32} {σ : St} {r : Int32} {σ' : St} (h : f_X7_renumbers x1 σ = some (r, σ')) : MetI l yX7_renumbers cX7_renumbers 4 .int 6 Γ σ [.ref (Γ.1 66), .int x1] r σ' := by
  intro sz
  refine met_in (by decide) (Nat.le_of_ble_eq_true rfl) (fun p e s m args below meth c ls X hsz M hl => ?_)
  subst hsz
  have X : Cx p s m args meth c cX7_renumbers RX7 4 (some .int) Γ := X
  have hl : lv_has ls 4 [(0, .ref (Γ.1 66)), (1, .int x1)] := hl
  unfold f_X7_renumbers at h
  refine lv_iconst (v := 0) X.x X.b dX7_renumbers_0 (by decide) ?_
  refine lv_istore_n (lv' := [(2, .int 0), (0, .ref (Γ.1 66)), (1, .int x1)]) X.x X.b dX7_renumbers_1 rfl hl (by decide) rfl (fun ls hl => ?_)
  refine lv_iconst (v := 0) X.x X.b dX7_renumbers_2 (by decide) ?_
  refine lv_istore_n (lv' := [(3, .int 0), (2, .int 0), (0, .ref (Γ.1 66)), (1, .int x1)]) X.x X.b dX7_renumbers_3 rfl hl (by decide) rfl (fun ls hl => ?_)
  exact u_X7_renumbers_L4 X LF x1 0 0 σ _ _ _ h M (lv_sub hl [2, 3, 1, 0] rfl)
def f_X7_buildsOne_b60 (x1 : Int32) (x2 : Int32) (x3 : Int32) (σ : St) : Rs :=
  if x3 = 0 then (
    if inb 0 382 then (
    if inb 0 382 then (
    ol (st σ 67 (0 : Int32).toNatClampNeg ((σ 67 (0 : Int32).toNatClampNeg) + 1)) fun σ3 => (
    if x3 = 0 ∨ x3 = 1 then some (x3, σ3) else none)) else none) else none
  ) else (
    ob (f_X7_goesBetween x1 σ) fun r5 σ5 => (
    ob (f_X7_comes (10 * x2) x1 r5 σ5) fun _ σ6 => (
    if inb 0 382 then (
    if inb 0 382 then (
    ol (st σ6 67 (0 : Int32).toNatClampNeg ((σ6 67 (0 : Int32).toNatClampNeg) + 1)) fun σ9 => (
    if x3 = 0 ∨ x3 = 1 then some (x3, σ9) else none)) else none) else none))
  )
set_option maxRecDepth 100000 in
set_option maxHeartbeats 4000000 in
theorem u_X7_buildsOne_b60 {l : Launch} {Γ : Gm} {p : Program} {e : Env} {s : State} {m : MethodId} {args : Array Value} {below : List Frame} {meth : Method} {c : Code} {r : Int32} {σ' : St} (X : Cx p s m args meth c cX7_buildsOne RX7 5 (some .boolean) Γ) (x1 : Int32) (x2 : Int32) (x3 : Int32) (σ : St) (H : Heap) (locs : List Loc) (ls : Array Slot) (h : f_X7_buildsOne_b60 x1 x2 x3 σ = some (r, σ')) (M : Mv Γ σ s H locs) (hl : lv_has ls 5 [(0, .ref (Γ.1 66)), (1, .int x1), (2, .int x2), (3, .int x3)]) : W p l e (rmd 7) s m args below meth c H locs 0 0 (MQ below (Qi Γ r σ' s.heap.size) args s 0 0 (Rg Γ s.heap.size)) (F0 m 60 ls []) := by
  unfold f_X7_buildsOne_b60 at h
  refine lv_iload_n X.x X.b dX7_buildsOne_60 rfl (lv_at hl 3 rfl) ?_
  refine lv_if_eq (tgt := 78) X.x X.b dX7_buildsOne_61 (by decide) (fun c11 => ?_) (fun c11 => ?_)
  · have h := it_t c11 h
    refine lv_aload_n X.x X.b dX7_buildsOne_78 rfl (lv_at hl 0 rfl) ?_
    refine r_get X M hq_66 (el_66 _ _) rfl inX7 0 (by decide) q728 rfl rfl dX7_buildsOne_79 ?_
    refine lv_iconst (v := 0) X.x X.b dX7_buildsOne_82 (by decide) ?_
    refine lv_dup2_11 X.x X.b dX7_buildsOne_83 rfl rfl ?_
    obtain ⟨c1, h⟩ := it_n h
    refine r_iald (q := 67) (n := 382) X M rfl c1 dX7_buildsOne_84 ?_
    refine lv_iconst (v := 1) X.x X.b dX7_buildsOne_85 (by decide) ?_
    refine lv_iadd X.x X.b dX7_buildsOne_86 ?_
    obtain ⟨c2, h⟩ := it_n h
    obtain ⟨σ3, e3, h⟩ := ol_e h
    refine r_iast (q := 67) (n := 382) X M rfl c2 dX7_buildsOne_87 (fun H locs M => ?_)
    rw [← e3] at M
    refine lv_iload_n X.x X.b dX7_buildsOne_88 rfl (lv_at hl 3 rfl) ?_
    obtain ⟨c4, h⟩ := it_n h
    exact r_iret X M (nar_b c4) h dX7_buildsOne_89
  · have h := it_f c11 h
    refine lv_aload_n X.x X.b dX7_buildsOne_64 rfl (lv_at hl 0 rfl) ?_
    refine lv_bipush (v := 10) X.x X.b dX7_buildsOne_65 (by decide) ?_
    refine lv_iload_n X.x X.b dX7_buildsOne_67 rfl (lv_at hl 2 rfl) ?_
    refine lv_imul X.x X.b dX7_buildsOne_68 ?_
    refine lv_iload_n X.x X.b dX7_buildsOne_69 rfl (lv_at hl 1 rfl) ?_
    refine lv_aload_n X.x X.b dX7_buildsOne_70 rfl (lv_at hl 0 rfl) ?_
    refine lv_iload_n X.x X.b dX7_buildsOne_71 rfl (lv_at hl 1 rfl) ?_
    obtain ⟨r5, σ5, h5, h⟩ := ob_e h
    refine r_runI M (r_callV (As := [.int x1]) X M (lv_sub hl [] rfl) (T_X7_goesBetween h5 _) cal_X7_goesBetween q1012 ⟨by decide, by decide⟩ hq_66 (el_66 _ _) rfl rfl rfl (Nat.le_of_ble_eq_true rfl) ⟨Nat.le_refl _, Nat.le_refl _⟩ dX7_buildsOne_72) (fun H locs M => ?_)
    clear h5
    obtain ⟨r6, σ6, h6, h⟩ := ob_e h
    refine r_runV M (r_callV (As := [.int (10 * x2), .int x1, .int r5]) X M (lv_sub hl [] rfl) (T_X7_comes h6 _) cal_X7_comes q870 ⟨by decide, by decide⟩ hq_66 (el_66 _ _) rfl rfl rfl (Nat.le_of_ble_eq_true rfl) ⟨Nat.le_refl _, Nat.le_refl _⟩ dX7_buildsOne_75) (fun H locs M => ?_)
    clear h6
    refine lv_aload_n X.x X.b dX7_buildsOne_78 rfl (lv_at hl 0 rfl) ?_
    refine r_get X M hq_66 (el_66 _ _) rfl inX7 0 (by decide) q728 rfl rfl dX7_buildsOne_79 ?_
    refine lv_iconst (v := 0) X.x X.b dX7_buildsOne_82 (by decide) ?_
    refine lv_dup2_11 X.x X.b dX7_buildsOne_83 rfl rfl ?_
    obtain ⟨c7, h⟩ := it_n h
    refine r_iald (q := 67) (n := 382) X M rfl c7 dX7_buildsOne_84 ?_
    refine lv_iconst (v := 1) X.x X.b dX7_buildsOne_85 (by decide) ?_
    refine lv_iadd X.x X.b dX7_buildsOne_86 ?_
    obtain ⟨c8, h⟩ := it_n h
    obtain ⟨σ9, e9, h⟩ := ol_e h
    refine r_iast (q := 67) (n := 382) X M rfl c8 dX7_buildsOne_87 (fun H locs M => ?_)
    rw [← e9] at M
    refine lv_iload_n X.x X.b dX7_buildsOne_88 rfl (lv_at hl 3 rfl) ?_
    obtain ⟨c10, h⟩ := it_n h
    exact r_iret X M (nar_b c10) h dX7_buildsOne_89
def f_X7_buildsOne_b38 (x1 : Int32) (x2 : Int32) (y0 : Int32) (σ : St) : Rs :=
  if y0 = 0 then (
    f_X7_buildsOne_b60 x1 x2 y0 σ
  ) else (
    ob (f_X7_goesBetween x1 σ) fun r1 σ1 => (
    if r1 = (-1) then (
      ob (f_X7_renumbers 10 σ1) fun r2 σ2 => (
      f_X7_buildsOne_b60 x1 x2 y0 σ2)
    ) else (
      f_X7_buildsOne_b60 x1 x2 y0 σ1
    ))
  )
set_option maxRecDepth 100000 in
set_option maxHeartbeats 4000000 in
theorem u_X7_buildsOne_b38 {l : Launch} {Γ : Gm} {p : Program} {e : Env} {s : State} {m : MethodId} {args : Array Value} {below : List Frame} {meth : Method} {c : Code} {r : Int32} {σ' : St} (X : Cx p s m args meth c cX7_buildsOne RX7 5 (some .boolean) Γ) (x1 : Int32) (x2 : Int32) (y0 : Int32) (σ : St) (H : Heap) (locs : List Loc) (ls : Array Slot) (h : f_X7_buildsOne_b38 x1 x2 y0 σ = some (r, σ')) (M : Mv Γ σ s H locs) (hl : lv_has ls 5 [(0, .ref (Γ.1 66)), (1, .int x1), (2, .int x2)]) : W p l e (rmd 7) s m args below meth c H locs 0 0 (MQ below (Qi Γ r σ' s.heap.size) args s 0 0 (Rg Γ s.heap.size)) (F0 m 38 ls [.int y0]) := by
  unfold f_X7_buildsOne_b38 at h
  refine lv_istore_n (lv' := [(3, .int y0), (0, .ref (Γ.1 66)), (1, .int x1), (2, .int x2)]) X.x X.b dX7_buildsOne_38 rfl hl (by decide) rfl (fun ls hl => ?_)
  refine lv_iload_n X.x X.b dX7_buildsOne_39 rfl (lv_at hl 0 rfl) ?_
  refine lv_if_eq (tgt := 60) X.x X.b dX7_buildsOne_40 (by decide) (fun c4 => ?_) (fun c4 => ?_)
  · have h := it_t c4 h
    exact u_X7_buildsOne_b60 X x1 x2 y0 σ _ _ _ h M (lv_sub hl [1, 2, 3, 0] rfl)
  · have h := it_f c4 h
    refine lv_aload_n X.x X.b dX7_buildsOne_43 rfl (lv_at hl 1 rfl) ?_
    refine lv_iload_n X.x X.b dX7_buildsOne_44 rfl (lv_at hl 2 rfl) ?_
    obtain ⟨r1, σ1, h1, h⟩ := ob_e h
    refine r_runI M (r_callV (As := [.int x1]) X M (lv_sub hl [] rfl) (T_X7_goesBetween h1 _) cal_X7_goesBetween q1012 ⟨by decide, by decide⟩ hq_66 (el_66 _ _) rfl rfl rfl (Nat.le_of_ble_eq_true rfl) ⟨Nat.le_refl _, Nat.le_refl _⟩ dX7_buildsOne_45) (fun H locs M => ?_)
    clear h1
    refine lv_iconst (v := (-1)) X.x X.b dX7_buildsOne_48 (by decide) ?_
    refine lv_icmp_ne (tgt := 60) X.x X.b dX7_buildsOne_49 (by decide) (fun c3 => ?_) (fun c3 => ?_)
    · have h := it_f c3 h
      exact u_X7_buildsOne_b60 X x1 x2 y0 σ1 _ _ _ h M (lv_sub hl [1, 2, 3, 0] rfl)
    · have h := it_t c3 h
      refine lv_aload_n X.x X.b dX7_buildsOne_52 rfl (lv_at hl 1 rfl) ?_
      refine lv_bipush (v := 10) X.x X.b dX7_buildsOne_53 (by decide) ?_
      obtain ⟨r2, σ2, h2, h⟩ := ob_e h
      refine r_runI M (r_callV (As := [.int 10]) X M (lv_sub hl [] rfl) (T_X7_renumbers h2 _) cal_X7_renumbers q979 ⟨by decide, by decide⟩ hq_66 (el_66 _ _) rfl rfl rfl (Nat.le_of_ble_eq_true rfl) ⟨Nat.le_refl _, Nat.le_refl _⟩ dX7_buildsOne_55) (fun H locs M => ?_)
      clear h2
      refine lv_istore (lv' := [(4, .int r2), (3, .int y0), (0, .ref (Γ.1 66)), (1, .int x1), (2, .int x2)]) X.x X.b dX7_buildsOne_58 hl (by decide) rfl (fun ls hl => ?_)
      exact u_X7_buildsOne_b60 X x1 x2 y0 σ2 _ _ _ h M (lv_sub hl [2, 3, 4, 1] rfl)
/-- StreetNumbersModel.buildsOne()Z -/
def f_X7_buildsOne (σ : St) : Rs :=
  ob (f_X7_draw σ) fun r1 σ1 => (
  if inb 5 382 then (
  if ¬ (1 + (σ1 67 (5 : Int32).toNatClampNeg)) = 0 then (
  ob (f_X7_draw σ1) fun r4 σ4 => (
  if inb 5 382 then (
  if 10 ≤ (σ4 67 (5 : Int32).toNatClampNeg) then (
    f_X7_buildsOne_b38 (irm r1 (1 + (σ1 67 (5 : Int32).toNatClampNeg))) (irm r4 7) 0 σ4
  ) else (
    f_X7_buildsOne_b38 (irm r1 (1 + (σ1 67 (5 : Int32).toNatClampNeg))) (irm r4 7) 1 σ4
  )) else none)) else none) else none)
set_option maxRecDepth 100000 in
set_option maxHeartbeats 4000000 in
theorem T_X7_buildsOne {l : Launch} {Γ : Gm} {σ : St} {r : Int32} {σ' : St} (h : f_X7_buildsOne σ = some (r, σ')) : MetI l yX7_buildsOne cX7_buildsOne 5 .boolean 7 Γ σ [.ref (Γ.1 66)] r σ' := by
  intro sz
  refine met_in (by decide) (Nat.le_of_ble_eq_true rfl) (fun p e s m args below meth c ls X hsz M hl => ?_)
  subst hsz
  have X : Cx p s m args meth c cX7_buildsOne RX7 5 (some .boolean) Γ := X
  have hl : lv_has ls 5 [(0, .ref (Γ.1 66))] := hl
  unfold f_X7_buildsOne at h
  refine lv_aload_n X.x X.b dX7_buildsOne_0 rfl (lv_at hl 0 rfl) ?_
  obtain ⟨r1, σ1, h1, h⟩ := ob_e h
  refine r_runI M (r_callV (As := []) X M (lv_sub hl [] rfl) (T_X7_draw h1 _) cal_X7_draw q1066 ⟨by decide, by decide⟩ hq_66 (el_66 _ _) rfl rfl rfl (Nat.le_of_ble_eq_true rfl) ⟨Nat.le_refl _, Nat.le_refl _⟩ dX7_buildsOne_1) (fun H locs M => ?_)
  clear h1
  refine lv_iconst (v := 1) X.x X.b dX7_buildsOne_4 (by decide) ?_
  refine lv_aload_n X.x X.b dX7_buildsOne_5 rfl (lv_at hl 0 rfl) ?_
  refine r_get X M hq_66 (el_66 _ _) rfl inX7 0 (by decide) q728 rfl rfl dX7_buildsOne_6 ?_
  refine lv_iconst (v := 5) X.x X.b dX7_buildsOne_9 (by decide) ?_
  obtain ⟨c2, h⟩ := it_n h
  refine r_iald (q := 67) (n := 382) X M rfl c2 dX7_buildsOne_10 ?_
  refine lv_iadd X.x X.b dX7_buildsOne_11 ?_
  obtain ⟨c3, h⟩ := it_n h
  refine r_irem X dX7_buildsOne_12 c3 ?_
  refine lv_istore_n (lv' := [(1, .int (irm r1 (1 + (σ1 67 (5 : Int32).toNatClampNeg)))), (0, .ref (Γ.1 66))]) X.x X.b dX7_buildsOne_13 rfl hl (by decide) rfl (fun ls hl => ?_)
  refine lv_aload_n X.x X.b dX7_buildsOne_14 rfl (lv_at hl 1 rfl) ?_
  obtain ⟨r4, σ4, h4, h⟩ := ob_e h
  refine r_runI M (r_callV (As := []) X M (lv_sub hl [] rfl) (T_X7_draw h4 _) cal_X7_draw q1066 ⟨by decide, by decide⟩ hq_66 (el_66 _ _) rfl rfl rfl (Nat.le_of_ble_eq_true rfl) ⟨Nat.le_refl _, Nat.le_refl _⟩ dX7_buildsOne_15) (fun H locs M => ?_)
  clear h4
  refine lv_bipush (v := 7) X.x X.b dX7_buildsOne_18 (by decide) ?_
  refine r_irem X dX7_buildsOne_20 (by decide) ?_
  refine lv_istore_n (lv' := [(2, .int (irm r4 7)), (1, .int (irm r1 (1 + (σ1 67 (5 : Int32).toNatClampNeg)))), (0, .ref (Γ.1 66))]) X.x X.b dX7_buildsOne_21 rfl hl (by decide) rfl (fun ls hl => ?_)
  refine lv_aload_n X.x X.b dX7_buildsOne_22 rfl (lv_at hl 2 rfl) ?_
  refine r_get X M hq_66 (el_66 _ _) rfl inX7 0 (by decide) q728 rfl rfl dX7_buildsOne_23 ?_
  refine lv_iconst (v := 5) X.x X.b dX7_buildsOne_26 (by decide) ?_
  obtain ⟨c5, h⟩ := it_n h
  refine r_iald (q := 67) (n := 382) X M rfl c5 dX7_buildsOne_27 ?_
  refine lv_bipush (v := 10) X.x X.b dX7_buildsOne_28 (by decide) ?_
  refine lv_icmp_ge (tgt := 37) X.x X.b dX7_buildsOne_30 (by decide) (fun c6 => ?_) (fun c6 => ?_)
  · have h := it_t c6 h
    refine lv_iconst (v := 0) X.x X.b dX7_buildsOne_37 (by decide) ?_
    exact u_X7_buildsOne_b38 X (irm r1 (1 + (σ1 67 (5 : Int32).toNatClampNeg))) (irm r4 7) 0 σ4 _ _ _ h M (lv_sub hl [2, 1, 0] rfl)
  · have h := it_f c6 h
    refine lv_iconst (v := 1) X.x X.b dX7_buildsOne_33 (by decide) ?_
    refine lv_goto (tgt := 38) X.x X.b dX7_buildsOne_34 (by decide) ?_
    exact u_X7_buildsOne_b38 X (irm r1 (1 + (σ1 67 (5 : Int32).toNatClampNeg))) (irm r4 7) 1 σ4 _ _ _ h M (lv_sub hl [2, 1, 0] rfl)
def f_X7_loose_b40 (k40 : (Int32 → Int32 → Int32 → St → Rs)) (x1 : Int32) (x2 : Int32) (x3 : Int32) (σ : St) : Rs :=
  if x1 ≤ x3 then (
    some (x2, σ)
  ) else (
    ob (f_X7_buildsOne σ) fun r1 σ1 => (
    if r1 = 0 then (
      k40 x1 (x2 + 0) (x3 + 1) σ1
    ) else (
      k40 x1 (x2 + 1) (x3 + 1) σ1
    ))
  )
set_option maxRecDepth 100000 in
set_option maxHeartbeats 4000000 in
theorem u_X7_loose_b40 {l : Launch} {Γ : Gm} {p : Program} {e : Env} {s : State} {m : MethodId} {args : Array Value} {below : List Frame} {meth : Method} {c : Code} {r : Int32} {σ' : St} {k40 : Int32 → Int32 → Int32 → St → Rs} (X : Cx p s m args meth c cX7_loose RX7 4 (some .int) Γ) (H40 : ∀ (x1 : Int32) (x2 : Int32) (x3 : Int32) (σ : St) (H : Heap) (locs : List Loc) (ls : Array Slot), k40 x1 x2 x3 σ = some (r, σ') → Mv Γ σ s H locs → lv_has ls 4 [(0, .ref (Γ.1 66)), (1, .int x1), (2, .int x2), (3, .int x3)] → W p l e (rmd 8) s m args below meth c H locs 0 0 (MQ below (Qi Γ r σ' s.heap.size) args s 0 0 (Rg Γ s.heap.size)) (F0 m 40 ls [])) (x1 : Int32) (x2 : Int32) (x3 : Int32) (σ : St) (H : Heap) (locs : List Loc) (ls : Array Slot) (h : f_X7_loose_b40 k40 x1 x2 x3 σ = some (r, σ')) (M : Mv Γ σ s H locs) (hl : lv_has ls 4 [(0, .ref (Γ.1 66)), (1, .int x1), (2, .int x2), (3, .int x3)]) : W p l e (rmd 8) s m args below meth c H locs 0 0 (MQ below (Qi Γ r σ' s.heap.size) args s 0 0 (Rg Γ s.heap.size)) (F0 m 40 ls []) := by
  unfold f_X7_loose_b40 at h
  refine lv_iload_n X.x X.b dX7_loose_40 rfl (lv_at hl 3 rfl) ?_
  refine lv_iload_n X.x X.b dX7_loose_41 rfl (lv_at hl 1 rfl) ?_
  refine lv_icmp_ge (tgt := 66) X.x X.b dX7_loose_42 (by decide) (fun c3 => ?_) (fun c3 => ?_)
  · have h := it_t c3 h
    refine lv_iload_n X.x X.b dX7_loose_66 rfl (lv_at hl 2 rfl) ?_
    exact r_iret X M rfl h dX7_loose_67
  · have h := it_f c3 h
    refine lv_iload_n X.x X.b dX7_loose_45 rfl (lv_at hl 2 rfl) ?_
    refine lv_aload_n X.x X.b dX7_loose_46 rfl (lv_at hl 0 rfl) ?_
    obtain ⟨r1, σ1, h1, h⟩ := ob_e h
    refine r_runI M (r_callV (As := []) X M (lv_sub hl [] rfl) (T_X7_buildsOne h1 _) cal_X7_buildsOne q1062 ⟨by decide, by decide⟩ hq_66 (el_66 _ _) rfl rfl rfl (Nat.le_of_ble_eq_true rfl) ⟨Nat.le_refl _, Nat.le_refl _⟩ dX7_loose_47) (fun H locs M => ?_)
    clear h1
    refine lv_if_eq (tgt := 57) X.x X.b dX7_loose_50 (by decide) (fun c2 => ?_) (fun c2 => ?_)
    · have h := it_t c2 h
      refine lv_iconst (v := 0) X.x X.b dX7_loose_57 (by decide) ?_
      refine lv_iadd X.x X.b dX7_loose_58 ?_
      refine lv_istore_n (lv' := [(2, .int (x2 + 0)), (0, .ref (Γ.1 66)), (1, .int x1), (3, .int x3)]) X.x X.b dX7_loose_59 rfl hl (by decide) rfl (fun ls hl => ?_)
      refine lv_iinc (v := (x3 + 1)) (lv' := [(3, .int (x3 + 1)), (2, .int (x2 + 0)), (0, .ref (Γ.1 66)), (1, .int x1)]) X.x X.b dX7_loose_60 hl (k := 3) rfl rfl (by decide) rfl (fun ls hl => ?_)
      refine lv_goto (tgt := 40) X.x X.b dX7_loose_63 (by decide) ?_
      exact H40 x1 (x2 + 0) (x3 + 1) σ1 _ _ _ h M (lv_sub hl [2, 3, 1, 0] rfl)
    · have h := it_f c2 h
      refine lv_iconst (v := 1) X.x X.b dX7_loose_53 (by decide) ?_
      refine lv_goto (tgt := 58) X.x X.b dX7_loose_54 (by decide) ?_
      refine lv_iadd X.x X.b dX7_loose_58 ?_
      refine lv_istore_n (lv' := [(2, .int (x2 + 1)), (0, .ref (Γ.1 66)), (1, .int x1), (3, .int x3)]) X.x X.b dX7_loose_59 rfl hl (by decide) rfl (fun ls hl => ?_)
      refine lv_iinc (v := (x3 + 1)) (lv' := [(3, .int (x3 + 1)), (2, .int (x2 + 1)), (0, .ref (Γ.1 66)), (1, .int x1)]) X.x X.b dX7_loose_60 hl (k := 3) rfl rfl (by decide) rfl (fun ls hl => ?_)
      refine lv_goto (tgt := 40) X.x X.b dX7_loose_63 (by decide) ?_
      exact H40 x1 (x2 + 1) (x3 + 1) σ1 _ _ _ h M (lv_sub hl [2, 3, 1, 0] rfl)
def f_X7_loose_L40 : Nat → Int32 → Int32 → Int32 → St → Rs
  | 0 => fun _ _ _ _ => none
  | n + 1 => fun x1 x2 x3 σ => f_X7_loose_b40 (f_X7_loose_L40 n) x1 x2 x3 σ
theorem u_X7_loose_L40 {l : Launch} {Γ : Gm} {p : Program} {e : Env} {s : State} {m : MethodId} {args : Array Value} {below : List Frame} {meth : Method} {c : Code} {r : Int32} {σ' : St} (X : Cx p s m args meth c cX7_loose RX7 4 (some .int) Γ) : ∀ (n : Nat) (x1 : Int32) (x2 : Int32) (x3 : Int32) (σ : St) (H : Heap) (locs : List Loc) (ls : Array Slot), f_X7_loose_L40 n x1 x2 x3 σ = some (r, σ') → Mv Γ σ s H locs → lv_has ls 4 [(0, .ref (Γ.1 66)), (1, .int x1), (2, .int x2), (3, .int x3)] → W p l e (rmd 8) s m args below meth c H locs 0 0 (MQ below (Qi Γ r σ' s.heap.size) args s 0 0 (Rg Γ s.heap.size)) (F0 m 40 ls []) := by
  intro n
  induction n with
  | zero => intro x1 x2 x3 σ H locs ls h; cases h
  | succ n ih => intro x1 x2 x3 σ H locs ls h; exact u_X7_loose_b40 X  ih x1 x2 x3 σ H locs ls h
/-- StreetNumbersModel.loose(I)I -/
def f_X7_loose (x1 : Int32) (σ : St) : Rs :=
  ob (f_X7_in x1 1 30 σ) fun r1 σ1 => (
  if r1 = 0 then (
    ob (f_X7_error 1 σ1) fun r5 σ5 => (
    some (r5, σ5))
  ) else (
    if inb 0 382 then (
    if ((σ1 67 (0 : Int32).toNatClampNeg) + x1) ≤ 9999 then (
      f_X7_loose_L40 LF x1 0 0 σ1
    ) else (
      ob (f_X7_error 3 σ1) fun r3 σ3 => (
      some (r3, σ3))
    )) else none
  ))
set_option maxRecDepth 100000 in
set_option maxHeartbeats 4000000 in
theorem T_X7_loose {l : Launch} {Γ : Gm} {x1 : Int32} {σ : St} {r : Int32} {σ' : St} (h : f_X7_loose x1 σ = some (r, σ')) : MetI l yX7_loose cX7_loose 4 .int 8 Γ σ [.ref (Γ.1 66), .int x1] r σ' := by
  intro sz
  refine met_in (by decide) (Nat.le_of_ble_eq_true rfl) (fun p e s m args below meth c ls X hsz M hl => ?_)
  subst hsz
  have X : Cx p s m args meth c cX7_loose RX7 4 (some .int) Γ := X
  have hl : lv_has ls 4 [(0, .ref (Γ.1 66)), (1, .int x1)] := hl
  unfold f_X7_loose at h
  refine lv_iload_n X.x X.b dX7_loose_0 rfl (lv_at hl 1 rfl) ?_
  refine lv_iconst (v := 1) X.x X.b dX7_loose_1 (by decide) ?_
  refine lv_bipush (v := 30) X.x X.b dX7_loose_2 (by decide) ?_
  obtain ⟨r1, σ1, h1, h⟩ := ob_e h
  refine r_runI M (r_callS (As := [.int x1, .int 1, .int 30]) X M (lv_sub hl [] rfl) (T_X7_in h1 _) cal_X7_in q799 ⟨by decide, by decide⟩ rfl rfl (Nat.le_of_ble_eq_true rfl) ⟨Nat.le_refl _, Nat.le_refl _⟩ dX7_loose_4) (fun H locs M => ?_)
  clear h1
  refine lv_if_ne (tgt := 16) X.x X.b dX7_loose_7 (by decide) (fun c6 => ?_) (fun c6 => ?_)
  · have h := it_f c6 h
    refine lv_aload_n X.x X.b dX7_loose_16 rfl (lv_at hl 0 rfl) ?_
    refine r_get X M hq_66 (el_66 _ _) rfl inX7 0 (by decide) q728 rfl rfl dX7_loose_17 ?_
    refine lv_iconst (v := 0) X.x X.b dX7_loose_20 (by decide) ?_
    obtain ⟨c2, h⟩ := it_n h
    refine r_iald (q := 67) (n := 382) X M rfl c2 dX7_loose_21 ?_
    refine lv_iload_n X.x X.b dX7_loose_22 rfl (lv_at hl 1 rfl) ?_
    refine lv_iadd X.x X.b dX7_loose_23 ?_
    refine lv_sipush (v := 9999) X.x X.b dX7_loose_24 (by decide) ?_
    refine lv_icmp_le (tgt := 36) X.x X.b dX7_loose_27 (by decide) (fun c4 => ?_) (fun c4 => ?_)
    · have h := it_t c4 h
      refine lv_iconst (v := 0) X.x X.b dX7_loose_36 (by decide) ?_
      refine lv_istore_n (lv' := [(2, .int 0), (0, .ref (Γ.1 66)), (1, .int x1)]) X.x X.b dX7_loose_37 rfl hl (by decide) rfl (fun ls hl => ?_)
      refine lv_iconst (v := 0) X.x X.b dX7_loose_38 (by decide) ?_
      refine lv_istore_n (lv' := [(3, .int 0), (2, .int 0), (0, .ref (Γ.1 66)), (1, .int x1)]) X.x X.b dX7_loose_39 rfl hl (by decide) rfl (fun ls hl => ?_)
      exact u_X7_loose_L40 X LF x1 0 0 σ1 _ _ _ h M (lv_sub hl [2, 3, 1, 0] rfl)
    · have h := it_f c4 h
      refine lv_aload_n X.x X.b dX7_loose_30 rfl (lv_at hl 0 rfl) ?_
      refine lv_iconst (v := 3) X.x X.b dX7_loose_31 (by decide) ?_
      obtain ⟨r3, σ3, h3, h⟩ := ob_e h
      refine r_runI M (r_callV (As := [.int 3]) X M (lv_sub hl [] rfl) (T_X7_error h3 _) cal_X7_error q802 ⟨by decide, by decide⟩ hq_66 (el_66 _ _) rfl rfl rfl (Nat.le_of_ble_eq_true rfl) ⟨Nat.le_refl _, Nat.le_refl _⟩ dX7_loose_32) (fun H locs M => ?_)
      clear h3
      exact r_iret X M rfl h dX7_loose_35
  · have h := it_t c6 h
    refine lv_aload_n X.x X.b dX7_loose_10 rfl (lv_at hl 0 rfl) ?_
    refine lv_iconst (v := 1) X.x X.b dX7_loose_11 (by decide) ?_
    obtain ⟨r5, σ5, h5, h⟩ := ob_e h
    refine r_runI M (r_callV (As := [.int 1]) X M (lv_sub hl [] rfl) (T_X7_error h5 _) cal_X7_error q802 ⟨by decide, by decide⟩ hq_66 (el_66 _ _) rfl rfl rfl (Nat.le_of_ble_eq_true rfl) ⟨Nat.le_refl _, Nat.le_refl _⟩ dX7_loose_12) (fun H locs M => ?_)
    clear h5
    exact r_iret X M rfl h dX7_loose_15
def f_X7_move_b106 (σ : St) : Rs :=
  ob (f_X7_error 1 σ) fun r1 σ1 => (
  some (r1, σ1))
set_option maxRecDepth 100000 in
set_option maxHeartbeats 4000000 in
theorem u_X7_move_b106 {l : Launch} {Γ : Gm} {p : Program} {e : Env} {s : State} {m : MethodId} {args : Array Value} {below : List Frame} {meth : Method} {c : Code} {r : Int32} {σ' : St} (X : Cx p s m args meth c cX7_move RX7 7 (some .int) Γ) (σ : St) (H : Heap) (locs : List Loc) (ls : Array Slot) (h : f_X7_move_b106 σ = some (r, σ')) (M : Mv Γ σ s H locs) (hl : lv_has ls 7 [(0, .ref (Γ.1 66))]) : W p l e (rmd 3) s m args below meth c H locs 0 0 (MQ below (Qi Γ r σ' s.heap.size) args s 0 0 (Rg Γ s.heap.size)) (F0 m 106 ls []) := by
  unfold f_X7_move_b106 at h
  refine lv_aload_n X.x X.b dX7_move_106 rfl (lv_at hl 0 rfl) ?_
  refine lv_iconst (v := 1) X.x X.b dX7_move_107 (by decide) ?_
  obtain ⟨r1, σ1, h1, h⟩ := ob_e h
  refine r_runI M (r_callV (As := [.int 1]) X M (lv_sub hl [] rfl) (T_X7_error h1 _) cal_X7_error q802 ⟨by decide, by decide⟩ hq_66 (el_66 _ _) rfl rfl rfl (Nat.le_of_ble_eq_true rfl) ⟨Nat.le_refl _, Nat.le_refl _⟩ dX7_move_108) (fun H locs M => ?_)
  clear h1
  exact r_iret X M rfl h dX7_move_111
def f_X7_move_b152 (k152 : (Int32 → Int32 → Int32 → Int32 → St → Rs)) (x3 : Int32) (x4 : Int32) (x5 : Int32) (x6 : Int32) (σ : St) : Rs :=
  if x5 ≤ x6 then (
    some (x5, σ)
  ) else (
    if inb x6 24 then (
    if inb (((24 * x3) + x4) + x6) 96 then (
    ol (st σ 78 (((24 * x3) + x4) + x6).toNatClampNeg (σ 79 x6.toNatClampNeg)) fun σ3 => (
    k152 x3 x4 x5 (x6 + 1) σ3)) else none) else none
  )
set_option maxRecDepth 100000 in
set_option maxHeartbeats 4000000 in
theorem u_X7_move_b152 {l : Launch} {Γ : Gm} {p : Program} {e : Env} {s : State} {m : MethodId} {args : Array Value} {below : List Frame} {meth : Method} {c : Code} {r : Int32} {σ' : St} {k152 : Int32 → Int32 → Int32 → Int32 → St → Rs} (X : Cx p s m args meth c cX7_move RX7 7 (some .int) Γ) (H152 : ∀ (x3 : Int32) (x4 : Int32) (x5 : Int32) (x6 : Int32) (σ : St) (H : Heap) (locs : List Loc) (ls : Array Slot), k152 x3 x4 x5 x6 σ = some (r, σ') → Mv Γ σ s H locs → lv_has ls 7 [(0, .ref (Γ.1 66)), (3, .int x3), (4, .int x4), (5, .int x5), (6, .int x6)] → W p l e (rmd 3) s m args below meth c H locs 0 0 (MQ below (Qi Γ r σ' s.heap.size) args s 0 0 (Rg Γ s.heap.size)) (F0 m 152 ls [])) (x3 : Int32) (x4 : Int32) (x5 : Int32) (x6 : Int32) (σ : St) (H : Heap) (locs : List Loc) (ls : Array Slot) (h : f_X7_move_b152 k152 x3 x4 x5 x6 σ = some (r, σ')) (M : Mv Γ σ s H locs) (hl : lv_has ls 7 [(0, .ref (Γ.1 66)), (3, .int x3), (4, .int x4), (5, .int x5), (6, .int x6)]) : W p l e (rmd 3) s m args below meth c H locs 0 0 (MQ below (Qi Γ r σ' s.heap.size) args s 0 0 (Rg Γ s.heap.size)) (F0 m 152 ls []) := by
  unfold f_X7_move_b152 at h
  refine lv_iload X.x X.b dX7_move_152 (lv_at hl 4 rfl) ?_
  refine lv_iload X.x X.b dX7_move_154 (lv_at hl 3 rfl) ?_
  refine lv_icmp_ge (tgt := 187) X.x X.b dX7_move_156 (by decide) (fun c4 => ?_) (fun c4 => ?_)
  · have h := it_t c4 h
    refine lv_iload X.x X.b dX7_move_187 (lv_at hl 3 rfl) ?_
    exact r_iret X M rfl h dX7_move_189
  · have h := it_f c4 h
    refine lv_aload_n X.x X.b dX7_move_159 rfl (lv_at hl 0 rfl) ?_
    refine r_get X M hq_66 (el_66 _ _) rfl inX7 20 (by decide) q748 rfl rfl dX7_move_160 ?_
    refine lv_bipush (v := 24) X.x X.b dX7_move_163 (by decide) ?_
    refine lv_iload_n X.x X.b dX7_move_165 rfl (lv_at hl 1 rfl) ?_
    refine lv_imul X.x X.b dX7_move_166 ?_
    refine lv_iload X.x X.b dX7_move_167 (lv_at hl 2 rfl) ?_
    refine lv_iadd X.x X.b dX7_move_169 ?_
    refine lv_iload X.x X.b dX7_move_170 (lv_at hl 4 rfl) ?_
    refine lv_iadd X.x X.b dX7_move_172 ?_
    refine lv_aload_n X.x X.b dX7_move_173 rfl (lv_at hl 0 rfl) ?_
    refine r_get X M hq_66 (el_66 _ _) rfl inX7 21 (by decide) q749 rfl rfl dX7_move_174 ?_
    refine lv_iload X.x X.b dX7_move_177 (lv_at hl 4 rfl) ?_
    obtain ⟨c1, h⟩ := it_n h
    refine r_iald (q := 79) (n := 24) X M rfl c1 dX7_move_179 ?_
    obtain ⟨c2, h⟩ := it_n h
    obtain ⟨σ3, e3, h⟩ := ol_e h
    refine r_iast (q := 78) (n := 96) X M rfl c2 dX7_move_180 (fun H locs M => ?_)
    rw [← e3] at M
    refine lv_iinc (v := (x6 + 1)) (lv' := [(6, .int (x6 + 1)), (0, .ref (Γ.1 66)), (3, .int x3), (4, .int x4), (5, .int x5)]) X.x X.b dX7_move_181 hl (k := 4) rfl rfl (by decide) rfl (fun ls hl => ?_)
    refine lv_goto (tgt := 152) X.x X.b dX7_move_184 (by decide) ?_
    exact H152 x3 x4 x5 (x6 + 1) σ3 _ _ _ h M (lv_sub hl [1, 2, 3, 4, 0] rfl)
def f_X7_move_L152 : Nat → Int32 → Int32 → Int32 → Int32 → St → Rs
  | 0 => fun _ _ _ _ _ => none
  | n + 1 => fun x3 x4 x5 x6 σ => f_X7_move_b152 (f_X7_move_L152 n) x3 x4 x5 x6 σ
theorem u_X7_move_L152 {l : Launch} {Γ : Gm} {p : Program} {e : Env} {s : State} {m : MethodId} {args : Array Value} {below : List Frame} {meth : Method} {c : Code} {r : Int32} {σ' : St} (X : Cx p s m args meth c cX7_move RX7 7 (some .int) Γ) : ∀ (n : Nat) (x3 : Int32) (x4 : Int32) (x5 : Int32) (x6 : Int32) (σ : St) (H : Heap) (locs : List Loc) (ls : Array Slot), f_X7_move_L152 n x3 x4 x5 x6 σ = some (r, σ') → Mv Γ σ s H locs → lv_has ls 7 [(0, .ref (Γ.1 66)), (3, .int x3), (4, .int x4), (5, .int x5), (6, .int x6)] → W p l e (rmd 3) s m args below meth c H locs 0 0 (MQ below (Qi Γ r σ' s.heap.size) args s 0 0 (Rg Γ s.heap.size)) (F0 m 152 ls []) := by
  intro n
  induction n with
  | zero => intro x3 x4 x5 x6 σ H locs ls h; cases h
  | succ n ih => intro x3 x4 x5 x6 σ H locs ls h; exact u_X7_move_b152 X  ih x3 x4 x5 x6 σ H locs ls h
def f_X7_move_b115 (k115 : (Int32 → Int32 → Int32 → Int32 → Int32 → Int32 → St → Rs)) (x1 : Int32) (x2 : Int32) (x3 : Int32) (x4 : Int32) (x5 : Int32) (x6 : Int32) (σ : St) : Rs :=
  if x5 ≤ x6 then (
    f_X7_move_L152 LF x3 x4 x5 0 σ
  ) else (
    if inb (((24 * x1) + x2) + x6) 96 then (
    if inb x6 24 then (
    ol (st σ 79 x6.toNatClampNeg (σ 78 (((24 * x1) + x2) + x6).toNatClampNeg)) fun σ3 => (
    k115 x1 x2 x3 x4 x5 (x6 + 1) σ3)) else none) else none
  )
set_option maxRecDepth 100000 in
set_option maxHeartbeats 4000000 in
theorem u_X7_move_b115 {l : Launch} {Γ : Gm} {p : Program} {e : Env} {s : State} {m : MethodId} {args : Array Value} {below : List Frame} {meth : Method} {c : Code} {r : Int32} {σ' : St} {k115 : Int32 → Int32 → Int32 → Int32 → Int32 → Int32 → St → Rs} (X : Cx p s m args meth c cX7_move RX7 7 (some .int) Γ) (H115 : ∀ (x1 : Int32) (x2 : Int32) (x3 : Int32) (x4 : Int32) (x5 : Int32) (x6 : Int32) (σ : St) (H : Heap) (locs : List Loc) (ls : Array Slot), k115 x1 x2 x3 x4 x5 x6 σ = some (r, σ') → Mv Γ σ s H locs → lv_has ls 7 [(0, .ref (Γ.1 66)), (1, .int x1), (2, .int x2), (3, .int x3), (4, .int x4), (5, .int x5), (6, .int x6)] → W p l e (rmd 3) s m args below meth c H locs 0 0 (MQ below (Qi Γ r σ' s.heap.size) args s 0 0 (Rg Γ s.heap.size)) (F0 m 115 ls [])) (x1 : Int32) (x2 : Int32) (x3 : Int32) (x4 : Int32) (x5 : Int32) (x6 : Int32) (σ : St) (H : Heap) (locs : List Loc) (ls : Array Slot) (h : f_X7_move_b115 k115 x1 x2 x3 x4 x5 x6 σ = some (r, σ')) (M : Mv Γ σ s H locs) (hl : lv_has ls 7 [(0, .ref (Γ.1 66)), (1, .int x1), (2, .int x2), (3, .int x3), (4, .int x4), (5, .int x5), (6, .int x6)]) : W p l e (rmd 3) s m args below meth c H locs 0 0 (MQ below (Qi Γ r σ' s.heap.size) args s 0 0 (Rg Γ s.heap.size)) (F0 m 115 ls []) := by
  unfold f_X7_move_b115 at h
  refine lv_iload X.x X.b dX7_move_115 (lv_at hl 6 rfl) ?_
  refine lv_iload X.x X.b dX7_move_117 (lv_at hl 5 rfl) ?_
  refine lv_icmp_ge (tgt := 149) X.x X.b dX7_move_119 (by decide) (fun c4 => ?_) (fun c4 => ?_)
  · have h := it_t c4 h
    refine lv_iconst (v := 0) X.x X.b dX7_move_149 (by decide) ?_
    refine lv_istore (lv' := [(6, .int 0), (0, .ref (Γ.1 66)), (1, .int x1), (2, .int x2), (3, .int x3), (4, .int x4), (5, .int x5)]) X.x X.b dX7_move_150 hl (by decide) rfl (fun ls hl => ?_)
    exact u_X7_move_L152 X LF x3 x4 x5 0 σ _ _ _ h M (lv_sub hl [1, 4, 5, 6, 0] rfl)
  · have h := it_f c4 h
    refine lv_aload_n X.x X.b dX7_move_122 rfl (lv_at hl 0 rfl) ?_
    refine r_get X M hq_66 (el_66 _ _) rfl inX7 21 (by decide) q749 rfl rfl dX7_move_123 ?_
    refine lv_iload X.x X.b dX7_move_126 (lv_at hl 6 rfl) ?_
    refine lv_aload_n X.x X.b dX7_move_128 rfl (lv_at hl 0 rfl) ?_
    refine r_get X M hq_66 (el_66 _ _) rfl inX7 20 (by decide) q748 rfl rfl dX7_move_129 ?_
    refine lv_bipush (v := 24) X.x X.b dX7_move_132 (by decide) ?_
    refine lv_iload_n X.x X.b dX7_move_134 rfl (lv_at hl 1 rfl) ?_
    refine lv_imul X.x X.b dX7_move_135 ?_
    refine lv_iload_n X.x X.b dX7_move_136 rfl (lv_at hl 2 rfl) ?_
    refine lv_iadd X.x X.b dX7_move_137 ?_
    refine lv_iload X.x X.b dX7_move_138 (lv_at hl 6 rfl) ?_
    refine lv_iadd X.x X.b dX7_move_140 ?_
    obtain ⟨c1, h⟩ := it_n h
    refine r_iald (q := 78) (n := 96) X M rfl c1 dX7_move_141 ?_
    obtain ⟨c2, h⟩ := it_n h
    obtain ⟨σ3, e3, h⟩ := ol_e h
    refine r_iast (q := 79) (n := 24) X M rfl c2 dX7_move_142 (fun H locs M => ?_)
    rw [← e3] at M
    refine lv_iinc (v := (x6 + 1)) (lv' := [(6, .int (x6 + 1)), (0, .ref (Γ.1 66)), (1, .int x1), (2, .int x2), (3, .int x3), (4, .int x4), (5, .int x5)]) X.x X.b dX7_move_143 hl (k := 6) rfl rfl (by decide) rfl (fun ls hl => ?_)
    refine lv_goto (tgt := 115) X.x X.b dX7_move_146 (by decide) ?_
    exact H115 x1 x2 x3 x4 x5 (x6 + 1) σ3 _ _ _ h M (lv_sub hl [1, 2, 3, 4, 5, 6, 0] rfl)
def f_X7_move_L115 : Nat → Int32 → Int32 → Int32 → Int32 → Int32 → Int32 → St → Rs
  | 0 => fun _ _ _ _ _ _ _ => none
  | n + 1 => fun x1 x2 x3 x4 x5 x6 σ => f_X7_move_b115 (f_X7_move_L115 n) x1 x2 x3 x4 x5 x6 σ
theorem u_X7_move_L115 {l : Launch} {Γ : Gm} {p : Program} {e : Env} {s : State} {m : MethodId} {args : Array Value} {below : List Frame} {meth : Method} {c : Code} {r : Int32} {σ' : St} (X : Cx p s m args meth c cX7_move RX7 7 (some .int) Γ) : ∀ (n : Nat) (x1 : Int32) (x2 : Int32) (x3 : Int32) (x4 : Int32) (x5 : Int32) (x6 : Int32) (σ : St) (H : Heap) (locs : List Loc) (ls : Array Slot), f_X7_move_L115 n x1 x2 x3 x4 x5 x6 σ = some (r, σ') → Mv Γ σ s H locs → lv_has ls 7 [(0, .ref (Γ.1 66)), (1, .int x1), (2, .int x2), (3, .int x3), (4, .int x4), (5, .int x5), (6, .int x6)] → W p l e (rmd 3) s m args below meth c H locs 0 0 (MQ below (Qi Γ r σ' s.heap.size) args s 0 0 (Rg Γ s.heap.size)) (F0 m 115 ls []) := by
  intro n
  induction n with
  | zero => intro x1 x2 x3 x4 x5 x6 σ H locs ls h; cases h
  | succ n ih => intro x1 x2 x3 x4 x5 x6 σ H locs ls h; exact u_X7_move_b115 X  ih x1 x2 x3 x4 x5 x6 σ H locs ls h
/-- StreetNumbersModel.move(IIIII)I -/
def f_X7_move (x1 : Int32) (x2 : Int32) (x3 : Int32) (x4 : Int32) (x5 : Int32) (σ : St) : Rs :=
  ob (f_X7_isSheet x1 σ) fun r1 σ1 => (
  if r1 = 0 then (
    ob (f_X7_error 1 σ1) fun r2 σ2 => (
    some (r2, σ2))
  ) else (
    ob (f_X7_isSheet x3 σ1) fun r3 σ3 => (
    if r3 = 0 then (
      ob (f_X7_error 1 σ3) fun r21 σ21 => (
      some (r21, σ21))
    ) else (
      if inb x1 4 then (
      if (σ3 76 x1.toNatClampNeg) = 0 then (
        ob (f_X7_error 2 σ3) fun r5 σ5 => (
        some (r5, σ5))
      ) else (
        if inb x3 4 then (
        if (σ3 76 x3.toNatClampNeg) = 0 then (
          ob (f_X7_error 2 σ3) fun r18 σ18 => (
          some (r18, σ18))
        ) else (
          if inb x1 4 then (
          if inb x3 4 then (
          if (σ3 76 x1.toNatClampNeg) = (σ3 76 x3.toNatClampNeg) then (
            if x5 < 0 then (
              f_X7_move_b106 σ3
            ) else (
              if x2 < 0 then (
                f_X7_move_b106 σ3
              ) else (
                if x4 < 0 then (
                  f_X7_move_b106 σ3
                ) else (
                  if inb x1 4 then (
                  if ((σ3 77 x1.toNatClampNeg) - x5) < x2 then (
                    f_X7_move_b106 σ3
                  ) else (
                    if inb x3 4 then (
                    if x4 ≤ ((σ3 77 x3.toNatClampNeg) - x5) then (
                      f_X7_move_L115 LF x1 x2 x3 x4 x5 0 σ3
                    ) else (
                      f_X7_move_b106 σ3
                    )) else none
                  )) else none
                )
              )
            )
          ) else (
            ob (f_X7_error 5 σ3) fun r16 σ16 => (
            some (r16, σ16))
          )) else none) else none
        )) else none
      )) else none
    ))
  ))
set_option maxRecDepth 100000 in
set_option maxHeartbeats 4000000 in
theorem T_X7_move {l : Launch} {Γ : Gm} {x1 : Int32} {x2 : Int32} {x3 : Int32} {x4 : Int32} {x5 : Int32} {σ : St} {r : Int32} {σ' : St} (h : f_X7_move x1 x2 x3 x4 x5 σ = some (r, σ')) : MetI l yX7_move cX7_move 7 .int 3 Γ σ [.ref (Γ.1 66), .int x1, .int x2, .int x3, .int x4, .int x5] r σ' := by
  intro sz
  refine met_in (by decide) (Nat.le_of_ble_eq_true rfl) (fun p e s m args below meth c ls X hsz M hl => ?_)
  subst hsz
  have X : Cx p s m args meth c cX7_move RX7 7 (some .int) Γ := X
  have hl : lv_has ls 7 [(0, .ref (Γ.1 66)), (1, .int x1), (2, .int x2), (3, .int x3), (4, .int x4), (5, .int x5)] := hl
  unfold f_X7_move at h
  refine lv_iload_n X.x X.b dX7_move_0 rfl (lv_at hl 1 rfl) ?_
  obtain ⟨r1, σ1, h1, h⟩ := ob_e h
  refine r_runI M (r_callS (As := [.int x1]) X M (lv_sub hl [] rfl) (T_X7_isSheet h1 _) cal_X7_isSheet q1051 ⟨by decide, by decide⟩ rfl rfl (Nat.le_of_ble_eq_true rfl) ⟨Nat.le_refl _, Nat.le_refl _⟩ dX7_move_1) (fun H locs M => ?_)
  clear h1
  refine lv_if_eq (tgt := 14) X.x X.b dX7_move_4 (by decide) (fun c23 => ?_) (fun c23 => ?_)
  · have h := it_t c23 h
    refine lv_aload_n X.x X.b dX7_move_14 rfl (lv_at hl 0 rfl) ?_
    refine lv_iconst (v := 1) X.x X.b dX7_move_15 (by decide) ?_
    obtain ⟨r2, σ2, h2, h⟩ := ob_e h
    refine r_runI M (r_callV (As := [.int 1]) X M (lv_sub hl [] rfl) (T_X7_error h2 _) cal_X7_error q802 ⟨by decide, by decide⟩ hq_66 (el_66 _ _) rfl rfl rfl (Nat.le_of_ble_eq_true rfl) ⟨Nat.le_refl _, Nat.le_refl _⟩ dX7_move_16) (fun H locs M => ?_)
    clear h2
    exact r_iret X M rfl h dX7_move_19
  · have h := it_f c23 h
    refine lv_iload_n X.x X.b dX7_move_7 rfl (lv_at hl 3 rfl) ?_
    obtain ⟨r3, σ3, h3, h⟩ := ob_e h
    refine r_runI M (r_callS (As := [.int x3]) X M (lv_sub hl [] rfl) (T_X7_isSheet h3 _) cal_X7_isSheet q1051 ⟨by decide, by decide⟩ rfl rfl (Nat.le_of_ble_eq_true rfl) ⟨Nat.le_refl _, Nat.le_refl _⟩ dX7_move_8) (fun H locs M => ?_)
    clear h3
    refine lv_if_ne (tgt := 20) X.x X.b dX7_move_11 (by decide) (fun c22 => ?_) (fun c22 => ?_)
    · have h := it_f c22 h
      refine lv_aload_n X.x X.b dX7_move_20 rfl (lv_at hl 0 rfl) ?_
      refine r_get X M hq_66 (el_66 _ _) rfl inX7 18 (by decide) q746 rfl rfl dX7_move_21 ?_
      refine lv_iload_n X.x X.b dX7_move_24 rfl (lv_at hl 1 rfl) ?_
      obtain ⟨c4, h⟩ := it_n h
      refine r_iald (q := 76) (n := 4) X M rfl c4 dX7_move_25 ?_
      refine lv_if_eq (tgt := 38) X.x X.b dX7_move_26 (by decide) (fun c20 => ?_) (fun c20 => ?_)
      · have h := it_t c20 h
        refine lv_aload_n X.x X.b dX7_move_38 rfl (lv_at hl 0 rfl) ?_
        refine lv_iconst (v := 2) X.x X.b dX7_move_39 (by decide) ?_
        obtain ⟨r5, σ5, h5, h⟩ := ob_e h
        refine r_runI M (r_callV (As := [.int 2]) X M (lv_sub hl [] rfl) (T_X7_error h5 _) cal_X7_error q802 ⟨by decide, by decide⟩ hq_66 (el_66 _ _) rfl rfl rfl (Nat.le_of_ble_eq_true rfl) ⟨Nat.le_refl _, Nat.le_refl _⟩ dX7_move_40) (fun H locs M => ?_)
        clear h5
        exact r_iret X M rfl h dX7_move_43
      · have h := it_f c20 h
        refine lv_aload_n X.x X.b dX7_move_29 rfl (lv_at hl 0 rfl) ?_
        refine r_get X M hq_66 (el_66 _ _) rfl inX7 18 (by decide) q746 rfl rfl dX7_move_30 ?_
        refine lv_iload_n X.x X.b dX7_move_33 rfl (lv_at hl 3 rfl) ?_
        obtain ⟨c6, h⟩ := it_n h
        refine r_iald (q := 76) (n := 4) X M rfl c6 dX7_move_34 ?_
        refine lv_if_ne (tgt := 44) X.x X.b dX7_move_35 (by decide) (fun c19 => ?_) (fun c19 => ?_)
        · have h := it_f c19 h
          refine lv_aload_n X.x X.b dX7_move_44 rfl (lv_at hl 0 rfl) ?_
          refine r_get X M hq_66 (el_66 _ _) rfl inX7 18 (by decide) q746 rfl rfl dX7_move_45 ?_
          refine lv_iload_n X.x X.b dX7_move_48 rfl (lv_at hl 1 rfl) ?_
          obtain ⟨c7, h⟩ := it_n h
          refine r_iald (q := 76) (n := 4) X M rfl c7 dX7_move_49 ?_
          refine lv_aload_n X.x X.b dX7_move_50 rfl (lv_at hl 0 rfl) ?_
          refine r_get X M hq_66 (el_66 _ _) rfl inX7 18 (by decide) q746 rfl rfl dX7_move_51 ?_
          refine lv_iload_n X.x X.b dX7_move_54 rfl (lv_at hl 3 rfl) ?_
          obtain ⟨c8, h⟩ := it_n h
          refine r_iald (q := 76) (n := 4) X M rfl c8 dX7_move_55 ?_
          refine lv_icmp_eq (tgt := 65) X.x X.b dX7_move_56 (by decide) (fun c17 => ?_) (fun c17 => ?_)
          · have h := it_t c17 h
            refine lv_iload X.x X.b dX7_move_65 (lv_at hl 5 rfl) ?_
            refine lv_if_lt (tgt := 106) X.x X.b dX7_move_67 (by decide) (fun c15 => ?_) (fun c15 => ?_)
            · have h := it_t c15 h
              exact u_X7_move_b106 X σ3 _ _ _ h M (lv_sub hl [0] rfl)
            · have h := it_f c15 h
              refine lv_iload_n X.x X.b dX7_move_70 rfl (lv_at hl 2 rfl) ?_
              refine lv_if_lt (tgt := 106) X.x X.b dX7_move_71 (by decide) (fun c14 => ?_) (fun c14 => ?_)
              · have h := it_t c14 h
                exact u_X7_move_b106 X σ3 _ _ _ h M (lv_sub hl [0] rfl)
              · have h := it_f c14 h
                refine lv_iload X.x X.b dX7_move_74 (lv_at hl 4 rfl) ?_
                refine lv_if_lt (tgt := 106) X.x X.b dX7_move_76 (by decide) (fun c13 => ?_) (fun c13 => ?_)
                · have h := it_t c13 h
                  exact u_X7_move_b106 X σ3 _ _ _ h M (lv_sub hl [0] rfl)
                · have h := it_f c13 h
                  refine lv_iload_n X.x X.b dX7_move_79 rfl (lv_at hl 2 rfl) ?_
                  refine lv_aload_n X.x X.b dX7_move_80 rfl (lv_at hl 0 rfl) ?_
                  refine r_get X M hq_66 (el_66 _ _) rfl inX7 19 (by decide) q747 rfl rfl dX7_move_81 ?_
                  refine lv_iload_n X.x X.b dX7_move_84 rfl (lv_at hl 1 rfl) ?_
                  obtain ⟨c9, h⟩ := it_n h
                  refine r_iald (q := 77) (n := 4) X M rfl c9 dX7_move_85 ?_
                  refine lv_iload X.x X.b dX7_move_86 (lv_at hl 5 rfl) ?_
                  refine lv_isub X.x X.b dX7_move_88 ?_
                  refine lv_icmp_gt (tgt := 106) X.x X.b dX7_move_89 (by decide) (fun c12 => ?_) (fun c12 => ?_)
                  · have h := it_t c12 h
                    exact u_X7_move_b106 X σ3 _ _ _ h M (lv_sub hl [0] rfl)
                  · have h := it_f c12 h
                    refine lv_iload X.x X.b dX7_move_92 (lv_at hl 4 rfl) ?_
                    refine lv_aload_n X.x X.b dX7_move_94 rfl (lv_at hl 0 rfl) ?_
                    refine r_get X M hq_66 (el_66 _ _) rfl inX7 19 (by decide) q747 rfl rfl dX7_move_95 ?_
                    refine lv_iload_n X.x X.b dX7_move_98 rfl (lv_at hl 3 rfl) ?_
                    obtain ⟨c10, h⟩ := it_n h
                    refine r_iald (q := 77) (n := 4) X M rfl c10 dX7_move_99 ?_
                    refine lv_iload X.x X.b dX7_move_100 (lv_at hl 5 rfl) ?_
                    refine lv_isub X.x X.b dX7_move_102 ?_
                    refine lv_icmp_le (tgt := 112) X.x X.b dX7_move_103 (by decide) (fun c11 => ?_) (fun c11 => ?_)
                    · have h := it_t c11 h
                      refine lv_iconst (v := 0) X.x X.b dX7_move_112 (by decide) ?_
                      refine lv_istore (lv' := [(6, .int 0), (0, .ref (Γ.1 66)), (1, .int x1), (2, .int x2), (3, .int x3), (4, .int x4), (5, .int x5)]) X.x X.b dX7_move_113 hl (by decide) rfl (fun ls hl => ?_)
                      exact u_X7_move_L115 X LF x1 x2 x3 x4 x5 0 σ3 _ _ _ h M (lv_sub hl [1, 2, 3, 4, 5, 6, 0] rfl)
                    · have h := it_f c11 h
                      exact u_X7_move_b106 X σ3 _ _ _ h M (lv_sub hl [0] rfl)
          · have h := it_f c17 h
            refine lv_aload_n X.x X.b dX7_move_59 rfl (lv_at hl 0 rfl) ?_
            refine lv_iconst (v := 5) X.x X.b dX7_move_60 (by decide) ?_
            obtain ⟨r16, σ16, h16, h⟩ := ob_e h
            refine r_runI M (r_callV (As := [.int 5]) X M (lv_sub hl [] rfl) (T_X7_error h16 _) cal_X7_error q802 ⟨by decide, by decide⟩ hq_66 (el_66 _ _) rfl rfl rfl (Nat.le_of_ble_eq_true rfl) ⟨Nat.le_refl _, Nat.le_refl _⟩ dX7_move_61) (fun H locs M => ?_)
            clear h16
            exact r_iret X M rfl h dX7_move_64
        · have h := it_t c19 h
          refine lv_aload_n X.x X.b dX7_move_38 rfl (lv_at hl 0 rfl) ?_
          refine lv_iconst (v := 2) X.x X.b dX7_move_39 (by decide) ?_
          obtain ⟨r18, σ18, h18, h⟩ := ob_e h
          refine r_runI M (r_callV (As := [.int 2]) X M (lv_sub hl [] rfl) (T_X7_error h18 _) cal_X7_error q802 ⟨by decide, by decide⟩ hq_66 (el_66 _ _) rfl rfl rfl (Nat.le_of_ble_eq_true rfl) ⟨Nat.le_refl _, Nat.le_refl _⟩ dX7_move_40) (fun H locs M => ?_)
          clear h18
          exact r_iret X M rfl h dX7_move_43
    · have h := it_t c22 h
      refine lv_aload_n X.x X.b dX7_move_14 rfl (lv_at hl 0 rfl) ?_
      refine lv_iconst (v := 1) X.x X.b dX7_move_15 (by decide) ?_
      obtain ⟨r21, σ21, h21, h⟩ := ob_e h
      refine r_runI M (r_callV (As := [.int 1]) X M (lv_sub hl [] rfl) (T_X7_error h21 _) cal_X7_error q802 ⟨by decide, by decide⟩ hq_66 (el_66 _ _) rfl rfl rfl (Nat.le_of_ble_eq_true rfl) ⟨Nat.le_refl _, Nat.le_refl _⟩ dX7_move_16) (fun H locs M => ?_)
      clear h21
      exact r_iret X M rfl h dX7_move_19
def f_X7_divisor_b4 (k4 : (Int32 → Int32 → St → Rs)) (x2 : Int32) (x3 : Int32) (σ : St) : Rs :=
  if x3 = 0 then (
    some (x2, σ)
  ) else (
    if ¬ x3 = 0 then (
    k4 x3 (irm x2 x3) σ) else none
  )
set_option maxRecDepth 100000 in
set_option maxHeartbeats 4000000 in
theorem u_X7_divisor_b4 {l : Launch} {Γ : Gm} {p : Program} {e : Env} {s : State} {m : MethodId} {args : Array Value} {below : List Frame} {meth : Method} {c : Code} {r : Int32} {σ' : St} {k4 : Int32 → Int32 → St → Rs} (X : Cx p s m args meth c cX7_divisor RX7 5 (some .int) Γ) (H4 : ∀ (x2 : Int32) (x3 : Int32) (σ : St) (H : Heap) (locs : List Loc) (ls : Array Slot), k4 x2 x3 σ = some (r, σ') → Mv Γ σ s H locs → lv_has ls 5 [(2, .int x2), (3, .int x3)] → W p l e (rmd 1) s m args below meth c H locs 0 0 (MQ below (Qi Γ r σ' s.heap.size) args s 0 0 (Rg Γ s.heap.size)) (F0 m 4 ls [])) (x2 : Int32) (x3 : Int32) (σ : St) (H : Heap) (locs : List Loc) (ls : Array Slot) (h : f_X7_divisor_b4 k4 x2 x3 σ = some (r, σ')) (M : Mv Γ σ s H locs) (hl : lv_has ls 5 [(2, .int x2), (3, .int x3)]) : W p l e (rmd 1) s m args below meth c H locs 0 0 (MQ below (Qi Γ r σ' s.heap.size) args s 0 0 (Rg Γ s.heap.size)) (F0 m 4 ls []) := by
  unfold f_X7_divisor_b4 at h
  refine lv_iload_n X.x X.b dX7_divisor_4 rfl (lv_at hl 1 rfl) ?_
  refine lv_if_eq (tgt := 21) X.x X.b dX7_divisor_5 (by decide) (fun c2 => ?_) (fun c2 => ?_)
  · have h := it_t c2 h
    refine lv_iload_n X.x X.b dX7_divisor_21 rfl (lv_at hl 0 rfl) ?_
    exact r_iret X M rfl h dX7_divisor_22
  · have h := it_f c2 h
    refine lv_iload_n X.x X.b dX7_divisor_8 rfl (lv_at hl 0 rfl) ?_
    refine lv_iload_n X.x X.b dX7_divisor_9 rfl (lv_at hl 1 rfl) ?_
    obtain ⟨c1, h⟩ := it_n h
    refine r_irem X dX7_divisor_10 c1 ?_
    refine lv_istore (lv' := [(4, .int (irm x2 x3)), (2, .int x2), (3, .int x3)]) X.x X.b dX7_divisor_11 hl (by decide) rfl (fun ls hl => ?_)
    refine lv_iload_n X.x X.b dX7_divisor_13 rfl (lv_at hl 2 rfl) ?_
    refine lv_istore_n (lv' := [(2, .int x3), (4, .int (irm x2 x3)), (3, .int x3)]) X.x X.b dX7_divisor_14 rfl hl (by decide) rfl (fun ls hl => ?_)
    refine lv_iload X.x X.b dX7_divisor_15 (lv_at hl 1 rfl) ?_
    refine lv_istore_n (lv' := [(3, .int (irm x2 x3)), (2, .int x3), (4, .int (irm x2 x3))]) X.x X.b dX7_divisor_17 rfl hl (by decide) rfl (fun ls hl => ?_)
    refine lv_goto (tgt := 4) X.x X.b dX7_divisor_18 (by decide) ?_
    exact H4 x3 (irm x2 x3) σ _ _ _ h M (lv_sub hl [1, 0] rfl)
def f_X7_divisor_L4 : Nat → Int32 → Int32 → St → Rs
  | 0 => fun _ _ _ => none
  | n + 1 => fun x2 x3 σ => f_X7_divisor_b4 (f_X7_divisor_L4 n) x2 x3 σ
theorem u_X7_divisor_L4 {l : Launch} {Γ : Gm} {p : Program} {e : Env} {s : State} {m : MethodId} {args : Array Value} {below : List Frame} {meth : Method} {c : Code} {r : Int32} {σ' : St} (X : Cx p s m args meth c cX7_divisor RX7 5 (some .int) Γ) : ∀ (n : Nat) (x2 : Int32) (x3 : Int32) (σ : St) (H : Heap) (locs : List Loc) (ls : Array Slot), f_X7_divisor_L4 n x2 x3 σ = some (r, σ') → Mv Γ σ s H locs → lv_has ls 5 [(2, .int x2), (3, .int x3)] → W p l e (rmd 1) s m args below meth c H locs 0 0 (MQ below (Qi Γ r σ' s.heap.size) args s 0 0 (Rg Γ s.heap.size)) (F0 m 4 ls []) := by
  intro n
  induction n with
  | zero => intro x2 x3 σ H locs ls h; cases h
  | succ n ih => intro x2 x3 σ H locs ls h; exact u_X7_divisor_b4 X  ih x2 x3 σ H locs ls h
/-- StreetNumbersModel.divisor(II)I -/
def f_X7_divisor (x0 : Int32) (x1 : Int32) (σ : St) : Rs :=
  f_X7_divisor_L4 LF x0 x1 σ
set_option maxRecDepth 100000 in
set_option maxHeartbeats 4000000 in
theorem T_X7_divisor {l : Launch} {Γ : Gm} {x0 : Int32} {x1 : Int32} {σ : St} {r : Int32} {σ' : St} (h : f_X7_divisor x0 x1 σ = some (r, σ')) : MetI l yX7_divisor cX7_divisor 5 .int 1 Γ σ [.int x0, .int x1] r σ' := by
  intro sz
  refine met_in (by decide) (Nat.le_of_ble_eq_true rfl) (fun p e s m args below meth c ls X hsz M hl => ?_)
  subst hsz
  have X : Cx p s m args meth c cX7_divisor RX7 5 (some .int) Γ := X
  have hl : lv_has ls 5 [(0, .int x0), (1, .int x1)] := hl
  unfold f_X7_divisor at h
  refine lv_iload_n X.x X.b dX7_divisor_0 rfl (lv_at hl 0 rfl) ?_
  refine lv_istore_n (lv' := [(2, .int x0), (0, .int x0), (1, .int x1)]) X.x X.b dX7_divisor_1 rfl hl (by decide) rfl (fun ls hl => ?_)
  refine lv_iload_n X.x X.b dX7_divisor_2 rfl (lv_at hl 2 rfl) ?_
  refine lv_istore_n (lv' := [(3, .int x1), (2, .int x0), (0, .int x0), (1, .int x1)]) X.x X.b dX7_divisor_3 rfl hl (by decide) rfl (fun ls hl => ?_)
  exact u_X7_divisor_L4 X LF x0 x1 σ _ _ _ h M (lv_sub hl [1, 0] rfl)
