def f_X7_voice_b95 (y0 : Int32) (σ : St) : Rs :=
  if (σ 66 17) = 0 then (
    some (y0, σ)
  ) else (
    ob (f_X7_error 6 σ) fun r1 σ1 => (
    some (r1, σ1))
  )
set_option maxRecDepth 100000 in
set_option maxHeartbeats 4000000 in
theorem u_X7_voice_b95 {l : Launch} {Γ : Gm} {p : Program} {e : Env} {s : State} {m : MethodId} {args : Array Value} {below : List Frame} {meth : Method} {c : Code} {r : Int32} {σ' : St} (X : Cx p s m args meth c cX7_voice RX7 6 (some .int) Γ) (y0 : Int32) (σ : St) (H : Heap) (locs : List Loc) (ls : Array Slot) (h : f_X7_voice_b95 y0 σ = some (r, σ')) (M : Mv Γ σ s H locs) (hl : lv_has ls 6 [(0, .ref (Γ.1 66))]) : W p l e (rmd 305) s m args below meth c H locs 0 0 (MQ below (Qi Γ r σ' s.heap.size) args s 0 0 (Rg Γ s.heap.size)) (F0 m 95 ls [.int y0]) := by
  unfold f_X7_voice_b95 at h
  refine lv_istore (lv' := [(5, .int y0), (0, .ref (Γ.1 66))]) X.x X.b dX7_voice_95 hl (by decide) rfl (fun ls hl => ?_)
  refine lv_aload_n X.x X.b dX7_voice_97 rfl (lv_at hl 1 rfl) ?_
  refine r_get X M hq_66 (el_66 _ _) rfl inX7 17 (by decide) q745 rfl rfl dX7_voice_98 ?_
  refine lv_if_eq (tgt := 113) X.x X.b dX7_voice_101 (by decide) (fun c2 => ?_) (fun c2 => ?_)
  · have h := it_t c2 h
    refine lv_iload X.x X.b dX7_voice_113 (lv_at hl 0 rfl) ?_
    exact r_iret X M rfl h dX7_voice_115
  · have h := it_f c2 h
    refine lv_aload_n X.x X.b dX7_voice_104 rfl (lv_at hl 1 rfl) ?_
    refine lv_bipush (v := 6) X.x X.b dX7_voice_105 (by decide) ?_
    obtain ⟨r1, σ1, h1, h⟩ := ob_e h
    refine r_runI M (r_callV (As := [.int 6]) X M (lv_sub hl [] rfl) (T_X7_error h1 _) cal_X7_error q802 ⟨by decide, by decide⟩ hq_66 (el_66 _ _) rfl rfl rfl (Nat.le_of_ble_eq_true rfl) ⟨Nat.le_refl _, Nat.le_refl _⟩ dX7_voice_107) (fun H locs M => ?_)
    clear h1
    refine lv_goto (tgt := 115) X.x X.b dX7_voice_110 (by decide) ?_
    exact r_iret X M rfl h dX7_voice_115
/-- StreetNumbersModel.voice(III)I -/
def f_X7_voice (x1 : Int32) (x2 : Int32) (x3 : Int32) (σ : St) : Rs :=
  ob (f_X7_isHouse x1 σ) fun r1 σ1 => (
  if r1 = 0 then (
    ob (f_X7_error 1 σ1) fun r2 σ2 => (
    some (r2, σ2))
  ) else (
    ob (f_X7_in x2 0 3 σ1) fun r3 σ3 => (
    if r3 = 0 then (
      ob (f_X7_error 1 σ3) fun r15 σ15 => (
      some (r15, σ15))
    ) else (
      ol (st σ3 66 14 0) fun σ4 => (
      ol (st σ4 66 16 x1) fun σ5 => (
      ol (st σ5 66 17 0) fun σ6 => (
      ob (f_X7_kindNow σ6) fun r7 σ7 => (
      if x2 = 0 then (
        ob (g_X7_ringsAs 100 0 r7 x3 σ7) fun r13 σ13 => (
        f_X7_voice_b95 r13 σ13)
      ) else (
        if x2 = 1 then (
          ob (g_X7_answersAs 100 0 r7 x3 σ7) fun r11 σ11 => (
          f_X7_voice_b95 r11 σ11)
        ) else (
          if x2 = 2 then (
            ob (g_X7_waitsAs 100 0 r7 x3 σ7) fun r9 σ9 => (
            f_X7_voice_b95 r9 σ9)
          ) else (
            ob (g_X7_partsAs 100 0 r7 x3 σ7) fun r8 σ8 => (
            f_X7_voice_b95 r8 σ8)
          )
        )
      )))))
    ))
  ))
set_option maxRecDepth 100000 in
set_option maxHeartbeats 4000000 in
theorem T_X7_voice {l : Launch} {Γ : Gm} {x1 : Int32} {x2 : Int32} {x3 : Int32} {σ : St} {r : Int32} {σ' : St} (h : f_X7_voice x1 x2 x3 σ = some (r, σ')) : MetI l yX7_voice cX7_voice 6 .int 305 Γ σ [.ref (Γ.1 66), .int x1, .int x2, .int x3] r σ' := by
  intro sz
  refine met_in (by decide) (Nat.le_of_ble_eq_true rfl) (fun p e s m args below meth c ls X hsz M hl => ?_)
  subst hsz
  have X : Cx p s m args meth c cX7_voice RX7 6 (some .int) Γ := X
  have hl : lv_has ls 6 [(0, .ref (Γ.1 66)), (1, .int x1), (2, .int x2), (3, .int x3)] := hl
  unfold f_X7_voice at h
  refine lv_aload_n X.x X.b dX7_voice_0 rfl (lv_at hl 0 rfl) ?_
  refine lv_iload_n X.x X.b dX7_voice_1 rfl (lv_at hl 1 rfl) ?_
  obtain ⟨r1, σ1, h1, h⟩ := ob_e h
  refine r_runI M (r_callV (As := [.int x1]) X M (lv_sub hl [] rfl) (T_X7_isHouse h1 _) cal_X7_isHouse q886 ⟨by decide, by decide⟩ hq_66 (el_66 _ _) rfl rfl rfl (Nat.le_of_ble_eq_true rfl) ⟨Nat.le_refl _, Nat.le_refl _⟩ dX7_voice_2) (fun H locs M => ?_)
  clear h1
  refine lv_if_eq (tgt := 17) X.x X.b dX7_voice_5 (by decide) (fun c17 => ?_) (fun c17 => ?_)
  · have h := it_t c17 h
    refine lv_aload_n X.x X.b dX7_voice_17 rfl (lv_at hl 0 rfl) ?_
    refine lv_iconst (v := 1) X.x X.b dX7_voice_18 (by decide) ?_
    obtain ⟨r2, σ2, h2, h⟩ := ob_e h
    refine r_runI M (r_callV (As := [.int 1]) X M (lv_sub hl [] rfl) (T_X7_error h2 _) cal_X7_error q802 ⟨by decide, by decide⟩ hq_66 (el_66 _ _) rfl rfl rfl (Nat.le_of_ble_eq_true rfl) ⟨Nat.le_refl _, Nat.le_refl _⟩ dX7_voice_19) (fun H locs M => ?_)
    clear h2
    exact r_iret X M rfl h dX7_voice_22
  · have h := it_f c17 h
    refine lv_iload_n X.x X.b dX7_voice_8 rfl (lv_at hl 2 rfl) ?_
    refine lv_iconst (v := 0) X.x X.b dX7_voice_9 (by decide) ?_
    refine lv_iconst (v := 3) X.x X.b dX7_voice_10 (by decide) ?_
    obtain ⟨r3, σ3, h3, h⟩ := ob_e h
    refine r_runI M (r_callS (As := [.int x2, .int 0, .int 3]) X M (lv_sub hl [] rfl) (T_X7_in h3 _) cal_X7_in q799 ⟨by decide, by decide⟩ rfl rfl (Nat.le_of_ble_eq_true rfl) ⟨Nat.le_refl _, Nat.le_refl _⟩ dX7_voice_11) (fun H locs M => ?_)
    clear h3
    refine lv_if_ne (tgt := 23) X.x X.b dX7_voice_14 (by decide) (fun c16 => ?_) (fun c16 => ?_)
    · have h := it_f c16 h
      refine lv_aload_n X.x X.b dX7_voice_23 rfl (lv_at hl 0 rfl) ?_
      refine lv_iconst (v := 0) X.x X.b dX7_voice_24 (by decide) ?_
      obtain ⟨σ4, e4, h⟩ := ol_e h
      refine r_put (x := 0) (ty := .int) X M hq_66 (el_66 _ _) rfl inX7 tyX7_ok nmX7 14 (by decide) q742 rfl rfl rfl rfl rfl (Nat.le_of_ble_eq_true rfl) (pf_66_14 _ _ _) dX7_voice_25 (fun H locs M => ?_)
      rw [← e4] at M
      refine lv_aload_n X.x X.b dX7_voice_28 rfl (lv_at hl 0 rfl) ?_
      refine lv_iload_n X.x X.b dX7_voice_29 rfl (lv_at hl 1 rfl) ?_
      obtain ⟨σ5, e5, h⟩ := ol_e h
      refine r_put (x := x1) (ty := .int) X M hq_66 (el_66 _ _) rfl inX7 tyX7_ok nmX7 16 (by decide) q744 rfl rfl rfl rfl rfl (Nat.le_of_ble_eq_true rfl) (pf_66_16 _ _ _) dX7_voice_30 (fun H locs M => ?_)
      rw [← e5] at M
      refine lv_aload_n X.x X.b dX7_voice_33 rfl (lv_at hl 0 rfl) ?_
      refine lv_iconst (v := 0) X.x X.b dX7_voice_34 (by decide) ?_
      obtain ⟨σ6, e6, h⟩ := ol_e h
      refine r_put (x := 0) (ty := .boolean) X M hq_66 (el_66 _ _) rfl inX7 tyX7_ok nmX7 17 (by decide) q745 rfl rfl rfl rfl rfl (Nat.le_of_ble_eq_true rfl) (pf_66_17 _ _ _) dX7_voice_35 (fun H locs M => ?_)
      rw [← e6] at M
      refine lv_aload_n X.x X.b dX7_voice_38 rfl (lv_at hl 0 rfl) ?_
      obtain ⟨r7, σ7, h7, h⟩ := ob_e h
      refine r_runI M (r_callV (As := []) X M (lv_sub hl [] rfl) (T_X7_kindNow h7 _) cal_X7_kindNow q1079 ⟨by decide, by decide⟩ hq_66 (el_66 _ _) rfl rfl rfl (Nat.le_of_ble_eq_true rfl) ⟨Nat.le_refl _, Nat.le_refl _⟩ dX7_voice_39) (fun H locs M => ?_)
      clear h7
      refine lv_istore (lv' := [(4, .int r7), (0, .ref (Γ.1 66)), (1, .int x1), (2, .int x2), (3, .int x3)]) X.x X.b dX7_voice_42 hl (by decide) rfl (fun ls hl => ?_)
      refine lv_iload_n X.x X.b dX7_voice_44 rfl (lv_at hl 3 rfl) ?_
      refine lv_if_ne (tgt := 58) X.x X.b dX7_voice_45 (by decide) (fun c14 => ?_) (fun c14 => ?_)
      · have h := it_f c14 h
        refine lv_iload_n X.x X.b dX7_voice_58 rfl (lv_at hl 3 rfl) ?_
        refine lv_iconst (v := 1) X.x X.b dX7_voice_59 (by decide) ?_
        refine lv_icmp_ne (tgt := 73) X.x X.b dX7_voice_60 (by decide) (fun c12 => ?_) (fun c12 => ?_)
        · have h := it_f c12 h
          refine lv_iload_n X.x X.b dX7_voice_73 rfl (lv_at hl 3 rfl) ?_
          refine lv_iconst (v := 2) X.x X.b dX7_voice_74 (by decide) ?_
          refine lv_icmp_ne (tgt := 88) X.x X.b dX7_voice_75 (by decide) (fun c10 => ?_) (fun c10 => ?_)
          · have h := it_f c10 h
            refine lv_aload_n X.x X.b dX7_voice_88 rfl (lv_at hl 1 rfl) ?_
            refine lv_iload X.x X.b dX7_voice_89 (lv_at hl 0 rfl) ?_
            refine lv_iload_n X.x X.b dX7_voice_91 rfl (lv_at hl 4 rfl) ?_
            obtain ⟨r8, σ8, h8, h⟩ := ob_e h
            refine r_runI M (r_callV (As := [.int r7, .int x3]) X M (lv_sub hl [] rfl) ((TG_X7_partsAs 100) _ _ _ _ _ h8 _) cal_X7_partsAs q1103 ⟨by decide, by decide⟩ hq_66 (el_66 _ _) rfl rfl rfl (Nat.le_of_ble_eq_true rfl) ⟨Nat.le_refl _, Nat.le_refl _⟩ dX7_voice_92) (fun H locs M => ?_)
            clear h8
            exact u_X7_voice_b95 X r8 σ8 _ _ _ h M (lv_sub hl [1] rfl)
          · have h := it_t c10 h
            refine lv_aload_n X.x X.b dX7_voice_78 rfl (lv_at hl 1 rfl) ?_
            refine lv_iload X.x X.b dX7_voice_79 (lv_at hl 0 rfl) ?_
            refine lv_iload_n X.x X.b dX7_voice_81 rfl (lv_at hl 4 rfl) ?_
            obtain ⟨r9, σ9, h9, h⟩ := ob_e h
            refine r_runI M (r_callV (As := [.int r7, .int x3]) X M (lv_sub hl [] rfl) ((TG_X7_waitsAs 100) _ _ _ _ _ h9 _) cal_X7_waitsAs q1099 ⟨by decide, by decide⟩ hq_66 (el_66 _ _) rfl rfl rfl (Nat.le_of_ble_eq_true rfl) ⟨Nat.le_refl _, Nat.le_refl _⟩ dX7_voice_82) (fun H locs M => ?_)
            clear h9
            refine lv_goto (tgt := 95) X.x X.b dX7_voice_85 (by decide) ?_
            exact u_X7_voice_b95 X r9 σ9 _ _ _ h M (lv_sub hl [1] rfl)
        · have h := it_t c12 h
          refine lv_aload_n X.x X.b dX7_voice_63 rfl (lv_at hl 1 rfl) ?_
          refine lv_iload X.x X.b dX7_voice_64 (lv_at hl 0 rfl) ?_
          refine lv_iload_n X.x X.b dX7_voice_66 rfl (lv_at hl 4 rfl) ?_
          obtain ⟨r11, σ11, h11, h⟩ := ob_e h
          refine r_runI M (r_callV (As := [.int r7, .int x3]) X M (lv_sub hl [] rfl) ((TG_X7_answersAs 100) _ _ _ _ _ h11 _) cal_X7_answersAs q1091 ⟨by decide, by decide⟩ hq_66 (el_66 _ _) rfl rfl rfl (Nat.le_of_ble_eq_true rfl) ⟨Nat.le_refl _, Nat.le_refl _⟩ dX7_voice_67) (fun H locs M => ?_)
          clear h11
          refine lv_goto (tgt := 95) X.x X.b dX7_voice_70 (by decide) ?_
          exact u_X7_voice_b95 X r11 σ11 _ _ _ h M (lv_sub hl [1] rfl)
      · have h := it_t c14 h
        refine lv_aload_n X.x X.b dX7_voice_48 rfl (lv_at hl 1 rfl) ?_
        refine lv_iload X.x X.b dX7_voice_49 (lv_at hl 0 rfl) ?_
        refine lv_iload_n X.x X.b dX7_voice_51 rfl (lv_at hl 4 rfl) ?_
        obtain ⟨r13, σ13, h13, h⟩ := ob_e h
        refine r_runI M (r_callV (As := [.int r7, .int x3]) X M (lv_sub hl [] rfl) ((TG_X7_ringsAs 100) _ _ _ _ _ h13 _) cal_X7_ringsAs q1083 ⟨by decide, by decide⟩ hq_66 (el_66 _ _) rfl rfl rfl (Nat.le_of_ble_eq_true rfl) ⟨Nat.le_refl _, Nat.le_refl _⟩ dX7_voice_52) (fun H locs M => ?_)
        clear h13
        refine lv_goto (tgt := 95) X.x X.b dX7_voice_55 (by decide) ?_
        exact u_X7_voice_b95 X r13 σ13 _ _ _ h M (lv_sub hl [1] rfl)
    · have h := it_t c16 h
      refine lv_aload_n X.x X.b dX7_voice_17 rfl (lv_at hl 0 rfl) ?_
      refine lv_iconst (v := 1) X.x X.b dX7_voice_18 (by decide) ?_
      obtain ⟨r15, σ15, h15, h⟩ := ob_e h
      refine r_runI M (r_callV (As := [.int 1]) X M (lv_sub hl [] rfl) (T_X7_error h15 _) cal_X7_error q802 ⟨by decide, by decide⟩ hq_66 (el_66 _ _) rfl rfl rfl (Nat.le_of_ble_eq_true rfl) ⟨Nat.le_refl _, Nat.le_refl _⟩ dX7_voice_19) (fun H locs M => ?_)
      clear h15
      exact r_iret X M rfl h dX7_voice_22
/-- StreetNumbersModel.would(I)I -/
def f_X7_would (x1 : Int32) (σ : St) : Rs :=
  ob (f_X7_isGap x1 σ) fun r1 σ1 => (
  if r1 = 0 then (
    ob (f_X7_error 1 σ1) fun r2 σ2 => (
    some (r2, σ2))
  ) else (
    ob (f_X7_wouldBe x1 σ1) fun r3 σ3 => (
    some (r3, σ3))
  ))
set_option maxRecDepth 100000 in
set_option maxHeartbeats 4000000 in
theorem T_X7_would {l : Launch} {Γ : Gm} {x1 : Int32} {σ : St} {r : Int32} {σ' : St} (h : f_X7_would x1 σ = some (r, σ')) : MetI l yX7_would cX7_would 2 .int 6 Γ σ [.ref (Γ.1 66), .int x1] r σ' := by
  intro sz
  refine met_in (by decide) (Nat.le_of_ble_eq_true rfl) (fun p e s m args below meth c ls X hsz M hl => ?_)
  subst hsz
  have X : Cx p s m args meth c cX7_would RX7 2 (some .int) Γ := X
  have hl : lv_has ls 2 [(0, .ref (Γ.1 66)), (1, .int x1)] := hl
  unfold f_X7_would at h
  refine lv_iload_n X.x X.b dX7_would_0 rfl (lv_at hl 1 rfl) ?_
  obtain ⟨r1, σ1, h1, h⟩ := ob_e h
  refine r_runI M (r_callS (As := [.int x1]) X M (lv_sub hl [] rfl) (T_X7_isGap h1 _) cal_X7_isGap q976 ⟨by decide, by decide⟩ rfl rfl (Nat.le_of_ble_eq_true rfl) ⟨Nat.le_refl _, Nat.le_refl _⟩ dX7_would_1) (fun H locs M => ?_)
  clear h1
  refine lv_if_eq (tgt := 15) X.x X.b dX7_would_4 (by decide) (fun c4 => ?_) (fun c4 => ?_)
  · have h := it_t c4 h
    refine lv_aload_n X.x X.b dX7_would_15 rfl (lv_at hl 0 rfl) ?_
    refine lv_iconst (v := 1) X.x X.b dX7_would_16 (by decide) ?_
    obtain ⟨r2, σ2, h2, h⟩ := ob_e h
    refine r_runI M (r_callV (As := [.int 1]) X M (lv_sub hl [] rfl) (T_X7_error h2 _) cal_X7_error q802 ⟨by decide, by decide⟩ hq_66 (el_66 _ _) rfl rfl rfl (Nat.le_of_ble_eq_true rfl) ⟨Nat.le_refl _, Nat.le_refl _⟩ dX7_would_17) (fun H locs M => ?_)
    clear h2
    exact r_iret X M rfl h dX7_would_20
  · have h := it_f c4 h
    refine lv_aload_n X.x X.b dX7_would_7 rfl (lv_at hl 0 rfl) ?_
    refine lv_iload_n X.x X.b dX7_would_8 rfl (lv_at hl 1 rfl) ?_
    obtain ⟨r3, σ3, h3, h⟩ := ob_e h
    refine r_runI M (r_callV (As := [.int x1]) X M (lv_sub hl [] rfl) (T_X7_wouldBe h3 _) cal_X7_wouldBe q987 ⟨by decide, by decide⟩ hq_66 (el_66 _ _) rfl rfl rfl (Nat.le_of_ble_eq_true rfl) ⟨Nat.le_refl _, Nat.le_refl _⟩ dX7_would_9) (fun H locs M => ?_)
    clear h3
    refine lv_goto (tgt := 20) X.x X.b dX7_would_12 (by decide) ?_
    exact r_iret X M rfl h dX7_would_20
/-- StreetNumbersModel.year(I)I -/
def f_X7_year (x1 : Int32) (σ : St) : Rs :=
  ob (f_X7_in x1 0 9999 σ) fun r1 σ1 => (
  if r1 = 0 then (
    ob (f_X7_error 1 σ1) fun r2 σ2 => (
    some (r2, σ2))
  ) else (
    ob (f_X7_change1 0 x1 σ1) fun r3 σ3 => (
    some (r3, σ3))
  ))
set_option maxRecDepth 100000 in
set_option maxHeartbeats 4000000 in
theorem T_X7_year {l : Launch} {Γ : Gm} {x1 : Int32} {σ : St} {r : Int32} {σ' : St} (h : f_X7_year x1 σ = some (r, σ')) : MetI l yX7_year cX7_year 2 .int 2 Γ σ [.ref (Γ.1 66), .int x1] r σ' := by
  intro sz
  refine met_in (by decide) (Nat.le_of_ble_eq_true rfl) (fun p e s m args below meth c ls X hsz M hl => ?_)
  subst hsz
  have X : Cx p s m args meth c cX7_year RX7 2 (some .int) Γ := X
  have hl : lv_has ls 2 [(0, .ref (Γ.1 66)), (1, .int x1)] := hl
  unfold f_X7_year at h
  refine lv_iload_n X.x X.b dX7_year_0 rfl (lv_at hl 1 rfl) ?_
  refine lv_iconst (v := 0) X.x X.b dX7_year_1 (by decide) ?_
  refine lv_sipush (v := 9999) X.x X.b dX7_year_2 (by decide) ?_
  obtain ⟨r1, σ1, h1, h⟩ := ob_e h
  refine r_runI M (r_callS (As := [.int x1, .int 0, .int 9999]) X M (lv_sub hl [] rfl) (T_X7_in h1 _) cal_X7_in q799 ⟨by decide, by decide⟩ rfl rfl (Nat.le_of_ble_eq_true rfl) ⟨Nat.le_refl _, Nat.le_refl _⟩ dX7_year_5) (fun H locs M => ?_)
  clear h1
  refine lv_if_eq (tgt := 20) X.x X.b dX7_year_8 (by decide) (fun c4 => ?_) (fun c4 => ?_)
  · have h := it_t c4 h
    refine lv_aload_n X.x X.b dX7_year_20 rfl (lv_at hl 0 rfl) ?_
    refine lv_iconst (v := 1) X.x X.b dX7_year_21 (by decide) ?_
    obtain ⟨r2, σ2, h2, h⟩ := ob_e h
    refine r_runI M (r_callV (As := [.int 1]) X M (lv_sub hl [] rfl) (T_X7_error h2 _) cal_X7_error q802 ⟨by decide, by decide⟩ hq_66 (el_66 _ _) rfl rfl rfl (Nat.le_of_ble_eq_true rfl) ⟨Nat.le_refl _, Nat.le_refl _⟩ dX7_year_22) (fun H locs M => ?_)
    clear h2
    exact r_iret X M rfl h dX7_year_25
  · have h := it_f c4 h
    refine lv_aload_n X.x X.b dX7_year_11 rfl (lv_at hl 0 rfl) ?_
    refine lv_iconst (v := 0) X.x X.b dX7_year_12 (by decide) ?_
    refine lv_iload_n X.x X.b dX7_year_13 rfl (lv_at hl 1 rfl) ?_
    obtain ⟨r3, σ3, h3, h⟩ := ob_e h
    refine r_runI M (r_callV (As := [.int 0, .int x1]) X M (lv_sub hl [] rfl) (T_X7_change1 h3 _) cal_X7_change1 q928 ⟨by decide, by decide⟩ hq_66 (el_66 _ _) rfl rfl rfl (Nat.le_of_ble_eq_true rfl) ⟨Nat.le_refl _, Nat.le_refl _⟩ dX7_year_14) (fun H locs M => ?_)
    clear h3
    refine lv_goto (tgt := 25) X.x X.b dX7_year_17 (by decide) ?_
    exact r_iret X M rfl h dX7_year_25
