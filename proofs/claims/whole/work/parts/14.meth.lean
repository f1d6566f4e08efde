/-- StreetNumbers$Voices.partedBy(II)I -/
def f_X5_partedBy (x1 : Int32) (x2 : Int32) (σ : St) : Rs :=
  if (σ 55 0) = 0 then (
    if x1 = 0 then (
      ol (st σ 55 0 1) fun σ5 => (
      ob (f_X6_quotient x2 x1 σ5) fun r6 σ6 => (
      some (r6, σ6)))
    ) else (
      ol (st σ 55 0 0) fun σ3 => (
      ob (f_X6_quotient x2 x1 σ3) fun r4 σ4 => (
      some (r4, σ4)))
    )
  ) else (
    ol (st σ 55 0 1) fun σ1 => (
    ob (f_X6_quotient x2 x1 σ1) fun r2 σ2 => (
    some (r2, σ2)))
  )
set_option maxRecDepth 100000 in
set_option maxHeartbeats 4000000 in
theorem T_X5_partedBy {l : Launch} {Γ : Gm} {x1 : Int32} {x2 : Int32} {σ : St} {r : Int32} {σ' : St} (h : f_X5_partedBy x1 x2 σ = some (r, σ')) : MetI l yX5_partedBy cX5_partedBy 3 .int 2 Γ σ [.ref (Γ.1 55), .int x1, .int x2] r σ' := by
  intro sz
  refine met_in (by decide) (Nat.le_of_ble_eq_true rfl) (fun p e s m args below meth c ls X hsz M hl => ?_)
  subst hsz
  have X : Cx p s m args meth c cX5_partedBy RX5 3 (some .int) Γ := X
  have hl : lv_has ls 3 [(0, .ref (Γ.1 55)), (1, .int x1), (2, .int x2)] := hl
  unfold f_X5_partedBy at h
  refine lv_aload_n X.x X.b dX5_partedBy_0 rfl (lv_at hl 0 rfl) ?_
  refine lv_aload_n X.x X.b dX5_partedBy_1 rfl (lv_at hl 0 rfl) ?_
  refine r_get X M hq_55 (el_55 _ _) rfl inX5 0 (by decide) q150 rfl rfl dX5_partedBy_2 ?_
  refine lv_if_ne (tgt := 12) X.x X.b dX5_partedBy_5 (by decide) (fun c8 => ?_) (fun c8 => ?_)
  · have h := it_f c8 h
    refine lv_iconst (v := 1) X.x X.b dX5_partedBy_12 (by decide) ?_
    refine lv_goto (tgt := 17) X.x X.b dX5_partedBy_13 (by decide) ?_
    obtain ⟨σ1, e1, h⟩ := ol_e h
    refine r_put (x := 1) (ty := .boolean) X M hq_55 (el_55 _ _) rfl inX5 tyX5_ok nmX5 0 (by decide) q150 rfl rfl rfl rfl rfl (Nat.le_of_ble_eq_true rfl) (pf_55_0 _ _ _) dX5_partedBy_17 (fun H locs M => ?_)
    rw [← e1] at M
    refine lv_iload_n X.x X.b dX5_partedBy_20 rfl (lv_at hl 2 rfl) ?_
    refine lv_iload_n X.x X.b dX5_partedBy_21 rfl (lv_at hl 1 rfl) ?_
    obtain ⟨r2, σ2, h2, h⟩ := ob_e h
    refine r_runI M (r_callSN (As := [.int x2, .int x1]) (host := "StreetNumbers") X M (lv_sub hl [] rfl) (T_X6_quotient h2 _) cal_X6_quotient nst_X5_64 ⟨by decide, by decide⟩ rfl rfl (Nat.le_of_ble_eq_true rfl) ⟨Nat.le_refl _, Nat.le_refl _⟩ dX5_partedBy_22) (fun H locs M => ?_)
    clear h2
    exact r_iret X M rfl h dX5_partedBy_25
  · have h := it_t c8 h
    refine lv_iload_n X.x X.b dX5_partedBy_8 rfl (lv_at hl 1 rfl) ?_
    refine lv_if_ne (tgt := 16) X.x X.b dX5_partedBy_9 (by decide) (fun c7 => ?_) (fun c7 => ?_)
    · have h := it_f c7 h
      refine lv_iconst (v := 0) X.x X.b dX5_partedBy_16 (by decide) ?_
      obtain ⟨σ3, e3, h⟩ := ol_e h
      refine r_put (x := 0) (ty := .boolean) X M hq_55 (el_55 _ _) rfl inX5 tyX5_ok nmX5 0 (by decide) q150 rfl rfl rfl rfl rfl (Nat.le_of_ble_eq_true rfl) (pf_55_0 _ _ _) dX5_partedBy_17 (fun H locs M => ?_)
      rw [← e3] at M
      refine lv_iload_n X.x X.b dX5_partedBy_20 rfl (lv_at hl 2 rfl) ?_
      refine lv_iload_n X.x X.b dX5_partedBy_21 rfl (lv_at hl 1 rfl) ?_
      obtain ⟨r4, σ4, h4, h⟩ := ob_e h
      refine r_runI M (r_callSN (As := [.int x2, .int x1]) (host := "StreetNumbers") X M (lv_sub hl [] rfl) (T_X6_quotient h4 _) cal_X6_quotient nst_X5_64 ⟨by decide, by decide⟩ rfl rfl (Nat.le_of_ble_eq_true rfl) ⟨Nat.le_refl _, Nat.le_refl _⟩ dX5_partedBy_22) (fun H locs M => ?_)
      clear h4
      exact r_iret X M rfl h dX5_partedBy_25
    · have h := it_t c7 h
      refine lv_iconst (v := 1) X.x X.b dX5_partedBy_12 (by decide) ?_
      refine lv_goto (tgt := 17) X.x X.b dX5_partedBy_13 (by decide) ?_
      obtain ⟨σ5, e5, h⟩ := ol_e h
      refine r_put (x := 1) (ty := .boolean) X M hq_55 (el_55 _ _) rfl inX5 tyX5_ok nmX5 0 (by decide) q150 rfl rfl rfl rfl rfl (Nat.le_of_ble_eq_true rfl) (pf_55_0 _ _ _) dX5_partedBy_17 (fun H locs M => ?_)
      rw [← e5] at M
      refine lv_iload_n X.x X.b dX5_partedBy_20 rfl (lv_at hl 2 rfl) ?_
      refine lv_iload_n X.x X.b dX5_partedBy_21 rfl (lv_at hl 1 rfl) ?_
      obtain ⟨r6, σ6, h6, h⟩ := ob_e h
      refine r_runI M (r_callSN (As := [.int x2, .int x1]) (host := "StreetNumbers") X M (lv_sub hl [] rfl) (T_X6_quotient h6 _) cal_X6_quotient nst_X5_64 ⟨by decide, by decide⟩ rfl rfl (Nat.le_of_ble_eq_true rfl) ⟨Nat.le_refl _, Nat.le_refl _⟩ dX5_partedBy_22) (fun H locs M => ?_)
      clear h6
      exact r_iret X M rfl h dX5_partedBy_25
def GC_X5_above (l : Launch) (Γ : Gm) (d : Nat) (rec : Nat → Int32 → Int32 → Int32 → Int32 → St → Rs) : Prop := (∀ (x1 : Int32) (x2 : Int32) (x3 : Int32) (x4 : Int32) (σ : St) (r : Int32) (σ' : St), rec 0 x1 x2 x3 x4 σ = some (r, σ') → MetI l yX5_above cX5_above 5 .int d Γ σ [.ref (Γ.1 55), .int x1, .int x2, .int x3, .int x4] r σ') ∧ (∀ (x1 : Int32) (x2 : Int32) (x3 : Int32) (σ : St) (r : Int32) (σ' : St), rec 1 x1 x2 x3 0 σ = some (r, σ') → MetI l yX5_own cX5_own 4 .int d Γ σ [.ref (Γ.1 55), .int x1, .int x2, .int x3] r σ') ∧ (∀ (x1 : Int32) (x2 : Int32) (x3 : Int32) (x4 : Int32) (σ : St) (r : Int32) (σ' : St), rec 2 x1 x2 x3 x4 σ = some (r, σ') → MetI l yX5_speak cX5_speak 7 .int d Γ σ [.ref (Γ.1 55), .int x1, .int x2, .int x3, .int x4] r σ') ∧ (∀ (x1 : Int32) (x2 : Int32) (x3 : Int32) (σ : St) (r : Int32) (σ' : St), rec 3 x1 x2 x3 0 σ = some (r, σ') → MetI l yX5_work cX5_work 4 .int d Γ σ [.ref (Γ.1 55), .int x1, .int x2, .int x3] r σ')
/-- StreetNumbers$Voices.above(IIII)I -/
def f_X5_above (rec : Nat → Int32 → Int32 → Int32 → Int32 → St → Rs) (x1 : Int32) (x2 : Int32) (x3 : Int32) (x4 : Int32) (σ : St) : Rs :=
  ob (f_X6_kindAbove x1 σ) fun r1 σ1 => (
  ob (rec 2 r1 x2 x3 x4 σ1) fun r2 σ2 => (
  some (r2, σ2)))
set_option maxRecDepth 100000 in
set_option maxHeartbeats 4000000 in
theorem T_X5_above {l : Launch} {Γ : Gm} {d : Nat} {rec : Nat → Int32 → Int32 → Int32 → Int32 → St → Rs} (HR : GC_X5_above l Γ d rec) (hd : 3 ≤ d) {x1 : Int32} {x2 : Int32} {x3 : Int32} {x4 : Int32} {σ : St} {r : Int32} {σ' : St} (h : f_X5_above rec x1 x2 x3 x4 σ = some (r, σ')) : MetI l yX5_above cX5_above 5 .int (d + 1) Γ σ [.ref (Γ.1 55), .int x1, .int x2, .int x3, .int x4] r σ' := by
  intro sz
  refine met_in (by decide) (Nat.le_of_ble_eq_true rfl) (fun p e s m args below meth c ls X hsz M hl => ?_)
  subst hsz
  have X : Cx p s m args meth c cX5_above RX5 5 (some .int) Γ := X
  have hl : lv_has ls 5 [(0, .ref (Γ.1 55)), (1, .int x1), (2, .int x2), (3, .int x3), (4, .int x4)] := hl
  unfold f_X5_above at h
  refine lv_aload_n X.x X.b dX5_above_0 rfl (lv_at hl 0 rfl) ?_
  refine lv_iload_n X.x X.b dX5_above_1 rfl (lv_at hl 1 rfl) ?_
  obtain ⟨r1, σ1, h1, h⟩ := ob_e h
  refine r_runI M (r_callSN (As := [.int x1]) (host := "StreetNumbers") X M (lv_sub hl [] rfl) (T_X6_kindAbove h1 _) cal_X6_kindAbove nst_X5_43 ⟨by show 1 + 1 ≤ d + 1; omega, by show 8 + (1 + 11) + 48 * 1 ≤ 48 * (d + 1); omega⟩ rfl rfl (Nat.le_of_ble_eq_true rfl) ⟨Nat.le_refl _, Nat.le_refl _⟩ dX5_above_2) (fun H locs M => ?_)
  clear h1
  refine lv_iload_n X.x X.b dX5_above_5 rfl (lv_at hl 2 rfl) ?_
  refine lv_iload_n X.x X.b dX5_above_6 rfl (lv_at hl 3 rfl) ?_
  refine lv_iload X.x X.b dX5_above_7 (lv_at hl 4 rfl) ?_
  obtain ⟨r2, σ2, h2, h⟩ := ob_e h
  refine r_runI M (r_callV (As := [.int r1, .int x2, .int x3, .int x4]) X M (lv_sub hl [] rfl) (HR.2.2.1 _ _ _ _ _ _ _ h2 _) cal_X5_speak q602 ⟨Nat.le_refl _, (by show 8 + (7 + 11) + 48 * d ≤ 48 * (d + 1); omega)⟩ hq_55 (el_55 _ _) rfl rfl rfl (Nat.le_of_ble_eq_true rfl) ⟨Nat.le_refl _, Nat.le_refl _⟩ dX5_above_9) (fun H locs M => ?_)
  clear h2
  exact r_iret X M rfl h dX5_above_12
/-- StreetNumbers$Voices.own(III)I -/
def f_X5_own (rec : Nat → Int32 → Int32 → Int32 → Int32 → St → Rs) (x1 : Int32) (x2 : Int32) (x3 : Int32) (σ : St) : Rs :=
  ob (rec 2 (σ 55 3) x1 x2 x3 σ) fun r1 σ1 => (
  some (r1, σ1))
set_option maxRecDepth 100000 in
set_option maxHeartbeats 4000000 in
theorem T_X5_own {l : Launch} {Γ : Gm} {d : Nat} {rec : Nat → Int32 → Int32 → Int32 → Int32 → St → Rs} (HR : GC_X5_above l Γ d rec) (hd : 3 ≤ d) {x1 : Int32} {x2 : Int32} {x3 : Int32} {σ : St} {r : Int32} {σ' : St} (h : f_X5_own rec x1 x2 x3 σ = some (r, σ')) : MetI l yX5_own cX5_own 4 .int (d + 1) Γ σ [.ref (Γ.1 55), .int x1, .int x2, .int x3] r σ' := by
  intro sz
  refine met_in (by decide) (Nat.le_of_ble_eq_true rfl) (fun p e s m args below meth c ls X hsz M hl => ?_)
  subst hsz
  have X : Cx p s m args meth c cX5_own RX5 4 (some .int) Γ := X
  have hl : lv_has ls 4 [(0, .ref (Γ.1 55)), (1, .int x1), (2, .int x2), (3, .int x3)] := hl
  unfold f_X5_own at h
  refine lv_aload_n X.x X.b dX5_own_0 rfl (lv_at hl 0 rfl) ?_
  refine lv_aload_n X.x X.b dX5_own_1 rfl (lv_at hl 0 rfl) ?_
  refine r_get X M hq_55 (el_55 _ _) rfl inX5 3 (by decide) q155 rfl rfl dX5_own_2 ?_
  refine lv_iload_n X.x X.b dX5_own_5 rfl (lv_at hl 1 rfl) ?_
  refine lv_iload_n X.x X.b dX5_own_6 rfl (lv_at hl 2 rfl) ?_
  refine lv_iload_n X.x X.b dX5_own_7 rfl (lv_at hl 3 rfl) ?_
  obtain ⟨r1, σ1, h1, h⟩ := ob_e h
  refine r_runI M (r_callV (As := [.int (σ 55 3), .int x1, .int x2, .int x3]) X M (lv_sub hl [] rfl) (HR.2.2.1 _ _ _ _ _ _ _ h1 _) cal_X5_speak q602 ⟨Nat.le_refl _, (by show 8 + (7 + 11) + 48 * d ≤ 48 * (d + 1); omega)⟩ hq_55 (el_55 _ _) rfl rfl rfl (Nat.le_of_ble_eq_true rfl) ⟨Nat.le_refl _, Nat.le_refl _⟩ dX5_own_8) (fun H locs M => ?_)
  clear h1
  exact r_iret X M rfl h dX5_own_11
def f_X5_speak_b56 (rec : Nat → Int32 → Int32 → Int32 → Int32 → St → Rs) (x2 : Int32) (x3 : Int32) (x4 : Int32) (x5 : Int32) (σ : St) : Rs :=
  ob (f_X5_ownBody x5 x2 σ) fun r1 σ1 => (
  ob (f_X5_begin r1 σ1) fun _ σ2 => (
  ob (rec 3 r1 x3 (x4 + 1) 0 σ2) fun r3 σ3 => (
  some (r3, σ3))))
set_option maxRecDepth 100000 in
set_option maxHeartbeats 4000000 in
theorem u_X5_speak_b56 {l : Launch} {Γ : Gm} {p : Program} {e : Env} {s : State} {m : MethodId} {args : Array Value} {below : List Frame} {meth : Method} {c : Code} {r : Int32} {σ' : St} {d : Nat} {rec : Nat → Int32 → Int32 → Int32 → Int32 → St → Rs} (X : Cx p s m args meth c cX5_speak RX5 7 (some .int) Γ) (HR : GC_X5_above l Γ d rec) (hd : 3 ≤ d) (x2 : Int32) (x3 : Int32) (x4 : Int32) (x5 : Int32) (σ : St) (H : Heap) (locs : List Loc) (ls : Array Slot) (h : f_X5_speak_b56 rec x2 x3 x4 x5 σ = some (r, σ')) (M : Mv Γ σ s H locs) (hl : lv_has ls 7 [(0, .ref (Γ.1 55)), (2, .int x2), (3, .int x3), (4, .int x4), (5, .int x5)]) : W p l e (rmd (d + 1)) s m args below meth c H locs 0 0 (MQ below (Qi Γ r σ' s.heap.size) args s 0 0 (Rg Γ s.heap.size)) (F0 m 56 ls []) := by
  unfold f_X5_speak_b56 at h
  refine lv_iload X.x X.b dX5_speak_56 (lv_at hl 4 rfl) ?_
  refine lv_iload_n X.x X.b dX5_speak_58 rfl (lv_at hl 1 rfl) ?_
  obtain ⟨r1, σ1, h1, h⟩ := ob_e h
  refine r_runI M (r_callS (As := [.int x5, .int x2]) X M (lv_sub hl [] rfl) (T_X5_ownBody h1 _) cal_X5_ownBody q606 ⟨by show 1 + 1 ≤ d + 1; omega, by show 8 + (3 + 11) + 48 * 1 ≤ 48 * (d + 1); omega⟩ rfl rfl (Nat.le_of_ble_eq_true rfl) ⟨Nat.le_refl _, Nat.le_refl _⟩ dX5_speak_59) (fun H locs M => ?_)
  clear h1
  refine lv_istore (lv' := [(6, .int r1), (0, .ref (Γ.1 55)), (2, .int x2), (3, .int x3), (4, .int x4), (5, .int x5)]) X.x X.b dX5_speak_62 hl (by decide) rfl (fun ls hl => ?_)
  refine lv_aload_n X.x X.b dX5_speak_64 rfl (lv_at hl 1 rfl) ?_
  refine lv_iload X.x X.b dX5_speak_65 (lv_at hl 0 rfl) ?_
  obtain ⟨r2, σ2, h2, h⟩ := ob_e h
  refine r_runV M (r_callV (As := [.int r1]) X M (lv_sub hl [] rfl) (T_X5_begin h2 _) cal_X5_begin q612 ⟨by show 1 + 1 ≤ d + 1; omega, by show 8 + (2 + 11) + 48 * 1 ≤ 48 * (d + 1); omega⟩ hq_55 (el_55 _ _) rfl rfl rfl (Nat.le_of_ble_eq_true rfl) ⟨Nat.le_refl _, Nat.le_refl _⟩ dX5_speak_67) (fun H locs M => ?_)
  clear h2
  refine lv_aload_n X.x X.b dX5_speak_70 rfl (lv_at hl 1 rfl) ?_
  refine lv_iload X.x X.b dX5_speak_71 (lv_at hl 0 rfl) ?_
  refine lv_iload_n X.x X.b dX5_speak_73 rfl (lv_at hl 3 rfl) ?_
  refine lv_iload X.x X.b dX5_speak_74 (lv_at hl 4 rfl) ?_
  refine lv_iconst (v := 1) X.x X.b dX5_speak_76 (by decide) ?_
  refine lv_iadd X.x X.b dX5_speak_77 ?_
  obtain ⟨r3, σ3, h3, h⟩ := ob_e h
  refine r_runI M (r_callV (As := [.int r1, .int x3, .int (x4 + 1)]) X M (lv_sub hl [] rfl) (HR.2.2.2 _ _ _ _ _ _ h3 _) cal_X5_work q616 ⟨Nat.le_refl _, (by show 8 + (4 + 11) + 48 * d ≤ 48 * (d + 1); omega)⟩ hq_55 (el_55 _ _) rfl rfl rfl (Nat.le_of_ble_eq_true rfl) ⟨Nat.le_refl _, Nat.le_refl _⟩ dX5_speak_78) (fun H locs M => ?_)
  clear h3
  exact r_iret X M rfl h dX5_speak_81
def f_X5_speak_b22 (rec : Nat → Int32 → Int32 → Int32 → Int32 → St → Rs) (k22 : (Int32 → Int32 → Int32 → Int32 → Int32 → St → Rs)) (x2 : Int32) (x3 : Int32) (x4 : Int32) (x5 : Int32) (x6 : Int32) (σ : St) : Rs :=
  if 7 ≤ x6 then (
    f_X5_speak_b56 rec x2 x3 x4 x5 σ
  ) else (
    if x5 ≤ 0 then (
      f_X5_speak_b56 rec x2 x3 x4 x5 σ
    ) else (
      ob (f_X5_ownBody x5 x2 σ) fun r1 σ1 => (
      if r1 = 0 then (
        ob (f_X6_kindAbove x5 σ1) fun r2 σ2 => (
        k22 x2 x3 x4 r2 (x6 + 1) σ2)
      ) else (
        f_X5_speak_b56 rec x2 x3 x4 x5 σ1
      ))
    )
  )
set_option maxRecDepth 100000 in
set_option maxHeartbeats 4000000 in
theorem u_X5_speak_b22 {l : Launch} {Γ : Gm} {p : Program} {e : Env} {s : State} {m : MethodId} {args : Array Value} {below : List Frame} {meth : Method} {c : Code} {r : Int32} {σ' : St} {d : Nat} {rec : Nat → Int32 → Int32 → Int32 → Int32 → St → Rs} {k22 : Int32 → Int32 → Int32 → Int32 → Int32 → St → Rs} (X : Cx p s m args meth c cX5_speak RX5 7 (some .int) Γ) (HR : GC_X5_above l Γ d rec) (hd : 3 ≤ d) (H22 : ∀ (x2 : Int32) (x3 : Int32) (x4 : Int32) (x5 : Int32) (x6 : Int32) (σ : St) (H : Heap) (locs : List Loc) (ls : Array Slot), k22 x2 x3 x4 x5 x6 σ = some (r, σ') → Mv Γ σ s H locs → lv_has ls 7 [(0, .ref (Γ.1 55)), (2, .int x2), (3, .int x3), (4, .int x4), (5, .int x5), (6, .int x6)] → W p l e (rmd (d + 1)) s m args below meth c H locs 0 0 (MQ below (Qi Γ r σ' s.heap.size) args s 0 0 (Rg Γ s.heap.size)) (F0 m 22 ls [])) (x2 : Int32) (x3 : Int32) (x4 : Int32) (x5 : Int32) (x6 : Int32) (σ : St) (H : Heap) (locs : List Loc) (ls : Array Slot) (h : f_X5_speak_b22 rec k22 x2 x3 x4 x5 x6 σ = some (r, σ')) (M : Mv Γ σ s H locs) (hl : lv_has ls 7 [(0, .ref (Γ.1 55)), (2, .int x2), (3, .int x3), (4, .int x4), (5, .int x5), (6, .int x6)]) : W p l e (rmd (d + 1)) s m args below meth c H locs 0 0 (MQ below (Qi Γ r σ' s.heap.size) args s 0 0 (Rg Γ s.heap.size)) (F0 m 22 ls []) := by
  unfold f_X5_speak_b22 at h
  refine lv_iload X.x X.b dX5_speak_22 (lv_at hl 5 rfl) ?_
  refine lv_bipush (v := 7) X.x X.b dX5_speak_24 (by decide) ?_
  refine lv_icmp_ge (tgt := 56) X.x X.b dX5_speak_26 (by decide) (fun c5 => ?_) (fun c5 => ?_)
  · have h := it_t c5 h
    exact u_X5_speak_b56 X HR hd x2 x3 x4 x5 σ _ _ _ h M (lv_sub hl [0, 1, 2, 3, 4] rfl)
  · have h := it_f c5 h
    refine lv_iload X.x X.b dX5_speak_29 (lv_at hl 4 rfl) ?_
    refine lv_if_le (tgt := 56) X.x X.b dX5_speak_31 (by decide) (fun c4 => ?_) (fun c4 => ?_)
    · have h := it_t c4 h
      exact u_X5_speak_b56 X HR hd x2 x3 x4 x5 σ _ _ _ h M (lv_sub hl [0, 1, 2, 3, 4] rfl)
    · have h := it_f c4 h
      refine lv_iload X.x X.b dX5_speak_34 (lv_at hl 4 rfl) ?_
      refine lv_iload_n X.x X.b dX5_speak_36 rfl (lv_at hl 1 rfl) ?_
      obtain ⟨r1, σ1, h1, h⟩ := ob_e h
      refine r_runI M (r_callS (As := [.int x5, .int x2]) X M (lv_sub hl [] rfl) (T_X5_ownBody h1 _) cal_X5_ownBody q606 ⟨by show 1 + 1 ≤ d + 1; omega, by show 8 + (3 + 11) + 48 * 1 ≤ 48 * (d + 1); omega⟩ rfl rfl (Nat.le_of_ble_eq_true rfl) ⟨Nat.le_refl _, Nat.le_refl _⟩ dX5_speak_37) (fun H locs M => ?_)
      clear h1
      refine lv_if_ne (tgt := 56) X.x X.b dX5_speak_40 (by decide) (fun c3 => ?_) (fun c3 => ?_)
      · have h := it_f c3 h
        exact u_X5_speak_b56 X HR hd x2 x3 x4 x5 σ1 _ _ _ h M (lv_sub hl [0, 1, 2, 3, 4] rfl)
      · have h := it_t c3 h
        refine lv_iload X.x X.b dX5_speak_43 (lv_at hl 4 rfl) ?_
        obtain ⟨r2, σ2, h2, h⟩ := ob_e h
        refine r_runI M (r_callSN (As := [.int x5]) (host := "StreetNumbers") X M (lv_sub hl [] rfl) (T_X6_kindAbove h2 _) cal_X6_kindAbove nst_X5_43 ⟨by show 1 + 1 ≤ d + 1; omega, by show 8 + (1 + 11) + 48 * 1 ≤ 48 * (d + 1); omega⟩ rfl rfl (Nat.le_of_ble_eq_true rfl) ⟨Nat.le_refl _, Nat.le_refl _⟩ dX5_speak_45) (fun H locs M => ?_)
        clear h2
        refine lv_istore (lv' := [(5, .int r2), (0, .ref (Γ.1 55)), (2, .int x2), (3, .int x3), (4, .int x4), (6, .int x6)]) X.x X.b dX5_speak_48 hl (by decide) rfl (fun ls hl => ?_)
        refine lv_iinc (v := (x6 + 1)) (lv' := [(6, .int (x6 + 1)), (5, .int r2), (0, .ref (Γ.1 55)), (2, .int x2), (3, .int x3), (4, .int x4)]) X.x X.b dX5_speak_50 hl (k := 5) rfl rfl (by decide) rfl (fun ls hl => ?_)
        refine lv_goto (tgt := 22) X.x X.b dX5_speak_53 (by decide) ?_
        exact H22 x2 x3 x4 r2 (x6 + 1) σ2 _ _ _ h M (lv_sub hl [2, 3, 4, 5, 1, 0] rfl)
def f_X5_speak_L22 (rec : Nat → Int32 → Int32 → Int32 → Int32 → St → Rs) : Nat → Int32 → Int32 → Int32 → Int32 → Int32 → St → Rs
  | 0 => fun _ _ _ _ _ _ => none
  | n + 1 => fun x2 x3 x4 x5 x6 σ => f_X5_speak_b22 rec (f_X5_speak_L22 rec n) x2 x3 x4 x5 x6 σ
theorem u_X5_speak_L22 {l : Launch} {Γ : Gm} {p : Program} {e : Env} {s : State} {m : MethodId} {args : Array Value} {below : List Frame} {meth : Method} {c : Code} {r : Int32} {σ' : St} {d : Nat} {rec : Nat → Int32 → Int32 → Int32 → Int32 → St → Rs} (X : Cx p s m args meth c cX5_speak RX5 7 (some .int) Γ) (HR : GC_X5_above l Γ d rec) (hd : 3 ≤ d) : ∀ (n : Nat) (x2 : Int32) (x3 : Int32) (x4 : Int32) (x5 : Int32) (x6 : Int32) (σ : St) (H : Heap) (locs : List Loc) (ls : Array Slot), f_X5_speak_L22 rec n x2 x3 x4 x5 x6 σ = some (r, σ') → Mv Γ σ s H locs → lv_has ls 7 [(0, .ref (Γ.1 55)), (2, .int x2), (3, .int x3), (4, .int x4), (5, .int x5), (6, .int x6)] → W p l e (rmd (d + 1)) s m args below meth c H locs 0 0 (MQ below (Qi Γ r σ' s.heap.size) args s 0 0 (Rg Γ s.heap.size)) (F0 m 22 ls []) := by
  intro n
  induction n with
  | zero => intro x2 x3 x4 x5 x6 σ H locs ls h; cases h
  | succ n ih => intro x2 x3 x4 x5 x6 σ H locs ls h; exact u_X5_speak_b22 X HR hd  ih x2 x3 x4 x5 x6 σ H locs ls h
/-- StreetNumbers$Voices.speak(IIII)I -/
def f_X5_speak (rec : Nat → Int32 → Int32 → Int32 → Int32 → St → Rs) (x1 : Int32) (x2 : Int32) (x3 : Int32) (x4 : Int32) (σ : St) : Rs :=
  if (σ 55 0) = 0 then (
    if x4 ≤ 40 then (
      f_X5_speak_L22 rec LF x2 x3 x4 x1 0 σ
    ) else (
      some (0, σ)
    )
  ) else (
    some (0, σ)
  )
set_option maxRecDepth 100000 in
set_option maxHeartbeats 4000000 in
theorem T_X5_speak {l : Launch} {Γ : Gm} {d : Nat} {rec : Nat → Int32 → Int32 → Int32 → Int32 → St → Rs} (HR : GC_X5_above l Γ d rec) (hd : 3 ≤ d) {x1 : Int32} {x2 : Int32} {x3 : Int32} {x4 : Int32} {σ : St} {r : Int32} {σ' : St} (h : f_X5_speak rec x1 x2 x3 x4 σ = some (r, σ')) : MetI l yX5_speak cX5_speak 7 .int (d + 1) Γ σ [.ref (Γ.1 55), .int x1, .int x2, .int x3, .int x4] r σ' := by
  intro sz
  refine met_in (by decide) (Nat.le_of_ble_eq_true rfl) (fun p e s m args below meth c ls X hsz M hl => ?_)
  subst hsz
  have X : Cx p s m args meth c cX5_speak RX5 7 (some .int) Γ := X
  have hl : lv_has ls 7 [(0, .ref (Γ.1 55)), (1, .int x1), (2, .int x2), (3, .int x3), (4, .int x4)] := hl
  unfold f_X5_speak at h
  refine lv_aload_n X.x X.b dX5_speak_0 rfl (lv_at hl 0 rfl) ?_
  refine r_get X M hq_55 (el_55 _ _) rfl inX5 0 (by decide) q150 rfl rfl dX5_speak_1 ?_
  refine lv_if_ne (tgt := 14) X.x X.b dX5_speak_4 (by decide) (fun c2 => ?_) (fun c2 => ?_)
  · have h := it_f c2 h
    refine lv_iconst (v := 0) X.x X.b dX5_speak_14 (by decide) ?_
    exact r_iret X M rfl h dX5_speak_15
  · have h := it_t c2 h
    refine lv_iload X.x X.b dX5_speak_7 (lv_at hl 4 rfl) ?_
    refine lv_bipush (v := 40) X.x X.b dX5_speak_9 (by decide) ?_
    refine lv_icmp_le (tgt := 16) X.x X.b dX5_speak_11 (by decide) (fun c1 => ?_) (fun c1 => ?_)
    · have h := it_t c1 h
      refine lv_iload_n X.x X.b dX5_speak_16 rfl (lv_at hl 1 rfl) ?_
      refine lv_istore (lv' := [(5, .int x1), (0, .ref (Γ.1 55)), (1, .int x1), (2, .int x2), (3, .int x3), (4, .int x4)]) X.x X.b dX5_speak_17 hl (by decide) rfl (fun ls hl => ?_)
      refine lv_iconst (v := 0) X.x X.b dX5_speak_19 (by decide) ?_
      refine lv_istore (lv' := [(6, .int 0), (5, .int x1), (0, .ref (Γ.1 55)), (1, .int x1), (2, .int x2), (3, .int x3), (4, .int x4)]) X.x X.b dX5_speak_20 hl (by decide) rfl (fun ls hl => ?_)
      exact u_X5_speak_L22 X HR hd LF x2 x3 x4 x1 0 σ _ _ _ h M (lv_sub hl [2, 4, 5, 6, 1, 0] rfl)
    · have h := it_f c1 h
      refine lv_iconst (v := 0) X.x X.b dX5_speak_14 (by decide) ?_
      exact r_iret X M rfl h dX5_speak_15
/-- StreetNumbers$Voices.work(III)I -/
def f_X5_work (rec : Nat → Int32 → Int32 → Int32 → Int32 → St → Rs) (x1 : Int32) (x2 : Int32) (x3 : Int32) (σ : St) : Rs :=
  if x1 = 10 then (
    some ((x2 + (σ 55 4)), σ)
  ) else (
  if x1 = 11 then (
    ob (rec 1 0 x2 x3 0 σ) fun r3 σ3 => (
    some ((r3 * 2), σ3))
  ) else (
  if x1 = 12 then (
    ob (rec 1 1 x2 x3 0 σ) fun r5 σ5 => (
    some ((r5 - (σ5 55 5)), σ5))
  ) else (
  if x1 = 13 then (
    ob (f_X5_partedBy ((σ 55 5) - (σ 55 4)) x2 σ) fun r7 σ7 => (
    some (r7, σ7))
  ) else (
  if x1 = 20 then (
    ob (rec 0 1 0 x2 x3 σ) fun r9 σ9 => (
    some ((r9 - 4), σ9))
  ) else (
  if x1 = 21 then (
    ob (rec 0 1 3 x2 x3 σ) fun r11 σ11 => (
    ob (rec 1 1 1 x3 0 σ11) fun r12 σ12 => (
    some ((r11 + r12), σ12)))
  ) else (
  if x1 = 30 then (
    ob (rec 0 2 1 x2 x3 σ) fun r14 σ14 => (
    some ((0 - r14), σ14))
  ) else (
  if x1 = 40 then (
    ob (rec 0 3 2 (x2 / 2) x3 σ) fun r16 σ16 => (
    some (r16, σ16))
  ) else (
  if x1 = 50 then (
    ob (rec 0 4 0 x2 x3 σ) fun r18 σ18 => (
    some ((r18 * 3), σ18))
  ) else (
  if x1 = 51 then (
    ob (rec 0 4 2 x2 x3 σ) fun r20 σ20 => (
    some ((r20 ^^^ (σ20 55 4)), σ20))
  ) else (
  if x1 = 60 then (
    ob (rec 0 5 1 (x2 + 1) x3 σ) fun r22 σ22 => (
    some (r22, σ22))
  ) else (
  if x1 = 70 then (
    some (9, σ)
  ) else (
  if x1 = 71 then (
    ob (rec 0 6 1 x2 x3 σ) fun r25 σ25 => (
    some ((r25 + (σ25 55 5)), σ25))
  ) else (
    some (0, σ)
  )))))))))))))
set_option maxRecDepth 100000 in
set_option maxHeartbeats 4000000 in
theorem T_X5_work {l : Launch} {Γ : Gm} {d : Nat} {rec : Nat → Int32 → Int32 → Int32 → Int32 → St → Rs} (HR : GC_X5_above l Γ d rec) (hd : 3 ≤ d) {x1 : Int32} {x2 : Int32} {x3 : Int32} {σ : St} {r : Int32} {σ' : St} (h : f_X5_work rec x1 x2 x3 σ = some (r, σ')) : MetI l yX5_work cX5_work 4 .int (d + 1) Γ σ [.ref (Γ.1 55), .int x1, .int x2, .int x3] r σ' := by
  intro sz
  refine met_in (by decide) (Nat.le_of_ble_eq_true rfl) (fun p e s m args below meth c ls X hsz M hl => ?_)
  subst hsz
  have X : Cx p s m args meth c cX5_work RX5 4 (some .int) Γ := X
  have hl : lv_has ls 4 [(0, .ref (Γ.1 55)), (1, .int x1), (2, .int x2), (3, .int x3)] := hl
  unfold f_X5_work at h
  refine lv_iload_n X.x X.b dX5_work_0 rfl (lv_at hl 1 rfl) ?_
  by_cases c1 : x1 = 10
  · have h := it_t c1 h
    refine lv_lookup (off := 115) (tgt := 116) X.x X.b dX5_work_1 (by decide) (by first | (rw [c1]; done) | (rw [c1]; rfl)) (by decide) ?_
    refine lv_iload_n X.x X.b dX5_work_116 rfl (lv_at hl 2 rfl) ?_
    refine lv_aload_n X.x X.b dX5_work_117 rfl (lv_at hl 0 rfl) ?_
    refine r_get X M hq_55 (el_55 _ _) rfl inX5 4 (by decide) q156 rfl rfl dX5_work_118 ?_
    refine lv_iadd X.x X.b dX5_work_121 ?_
    exact r_iret X M rfl h dX5_work_122
  have h := it_f c1 h
  by_cases c2 : x1 = 11
  · have h := it_t c2 h
    refine lv_lookup (off := 122) (tgt := 123) X.x X.b dX5_work_1 (by decide) (by first | (rw [c2]; done) | (rw [c2]; rfl)) (by decide) ?_
    refine lv_aload_n X.x X.b dX5_work_123 rfl (lv_at hl 0 rfl) ?_
    refine lv_iconst (v := 0) X.x X.b dX5_work_124 (by decide) ?_
    refine lv_iload_n X.x X.b dX5_work_125 rfl (lv_at hl 2 rfl) ?_
    refine lv_iload_n X.x X.b dX5_work_126 rfl (lv_at hl 3 rfl) ?_
    obtain ⟨r3, σ3, h3, h⟩ := ob_e h
    refine r_runI M (r_callV (As := [.int 0, .int x2, .int x3]) X M (lv_sub hl [] rfl) (HR.2.1 _ _ _ _ _ _ h3 _) cal_X5_own q620 ⟨Nat.le_refl _, (by show 8 + (4 + 11) + 48 * d ≤ 48 * (d + 1); omega)⟩ hq_55 (el_55 _ _) rfl rfl rfl (Nat.le_of_ble_eq_true rfl) ⟨Nat.le_refl _, Nat.le_refl _⟩ dX5_work_127) (fun H locs M => ?_)
    clear h3
    refine lv_iconst (v := 2) X.x X.b dX5_work_130 (by decide) ?_
    refine lv_imul X.x X.b dX5_work_131 ?_
    exact r_iret X M rfl h dX5_work_132
  have h := it_f c2 h
  by_cases c4 : x1 = 12
  · have h := it_t c4 h
    refine lv_lookup (off := 132) (tgt := 133) X.x X.b dX5_work_1 (by decide) (by first | (rw [c4]; done) | (rw [c4]; rfl)) (by decide) ?_
    refine lv_aload_n X.x X.b dX5_work_133 rfl (lv_at hl 0 rfl) ?_
    refine lv_iconst (v := 1) X.x X.b dX5_work_134 (by decide) ?_
    refine lv_iload_n X.x X.b dX5_work_135 rfl (lv_at hl 2 rfl) ?_
    refine lv_iload_n X.x X.b dX5_work_136 rfl (lv_at hl 3 rfl) ?_
    obtain ⟨r5, σ5, h5, h⟩ := ob_e h
    refine r_runI M (r_callV (As := [.int 1, .int x2, .int x3]) X M (lv_sub hl [] rfl) (HR.2.1 _ _ _ _ _ _ h5 _) cal_X5_own q620 ⟨Nat.le_refl _, (by show 8 + (4 + 11) + 48 * d ≤ 48 * (d + 1); omega)⟩ hq_55 (el_55 _ _) rfl rfl rfl (Nat.le_of_ble_eq_true rfl) ⟨Nat.le_refl _, Nat.le_refl _⟩ dX5_work_137) (fun H locs M => ?_)
    clear h5
    refine lv_aload_n X.x X.b dX5_work_140 rfl (lv_at hl 0 rfl) ?_
    refine r_get X M hq_55 (el_55 _ _) rfl inX5 5 (by decide) q157 rfl rfl dX5_work_141 ?_
    refine lv_isub X.x X.b dX5_work_144 ?_
    exact r_iret X M rfl h dX5_work_145
  have h := it_f c4 h
  by_cases c6 : x1 = 13
  · have h := it_t c6 h
    refine lv_lookup (off := 145) (tgt := 146) X.x X.b dX5_work_1 (by decide) (by first | (rw [c6]; done) | (rw [c6]; rfl)) (by decide) ?_
    refine lv_aload_n X.x X.b dX5_work_146 rfl (lv_at hl 0 rfl) ?_
    refine lv_aload_n X.x X.b dX5_work_147 rfl (lv_at hl 0 rfl) ?_
    refine r_get X M hq_55 (el_55 _ _) rfl inX5 5 (by decide) q157 rfl rfl dX5_work_148 ?_
    refine lv_aload_n X.x X.b dX5_work_151 rfl (lv_at hl 0 rfl) ?_
    refine r_get X M hq_55 (el_55 _ _) rfl inX5 4 (by decide) q156 rfl rfl dX5_work_152 ?_
    refine lv_isub X.x X.b dX5_work_155 ?_
    refine lv_iload_n X.x X.b dX5_work_156 rfl (lv_at hl 2 rfl) ?_
    obtain ⟨r7, σ7, h7, h⟩ := ob_e h
    refine r_runI M (r_callV (As := [.int ((σ 55 5) - (σ 55 4)), .int x2]) X M (lv_sub hl [] rfl) (T_X5_partedBy h7 _) cal_X5_partedBy q624 ⟨by show 2 + 1 ≤ d + 1; omega, by show 8 + (3 + 11) + 48 * 2 ≤ 48 * (d + 1); omega⟩ hq_55 (el_55 _ _) rfl rfl rfl (Nat.le_of_ble_eq_true rfl) ⟨Nat.le_refl _, Nat.le_refl _⟩ dX5_work_157) (fun H locs M => ?_)
    clear h7
    exact r_iret X M rfl h dX5_work_160
  have h := it_f c6 h
  by_cases c8 : x1 = 20
  · have h := it_t c8 h
    refine lv_lookup (off := 160) (tgt := 161) X.x X.b dX5_work_1 (by decide) (by first | (rw [c8]; done) | (rw [c8]; rfl)) (by decide) ?_
    refine lv_aload_n X.x X.b dX5_work_161 rfl (lv_at hl 0 rfl) ?_
    refine lv_iconst (v := 1) X.x X.b dX5_work_162 (by decide) ?_
    refine lv_iconst (v := 0) X.x X.b dX5_work_163 (by decide) ?_
    refine lv_iload_n X.x X.b dX5_work_164 rfl (lv_at hl 2 rfl) ?_
    refine lv_iload_n X.x X.b dX5_work_165 rfl (lv_at hl 3 rfl) ?_
    obtain ⟨r9, σ9, h9, h⟩ := ob_e h
    refine r_runI M (r_callV (As := [.int 1, .int 0, .int x2, .int x3]) X M (lv_sub hl [] rfl) (HR.1 _ _ _ _ _ _ _ h9 _) cal_X5_above q629 ⟨Nat.le_refl _, (by show 8 + (5 + 11) + 48 * d ≤ 48 * (d + 1); omega)⟩ hq_55 (el_55 _ _) rfl rfl rfl (Nat.le_of_ble_eq_true rfl) ⟨Nat.le_refl _, Nat.le_refl _⟩ dX5_work_166) (fun H locs M => ?_)
    clear h9
    refine lv_iconst (v := 4) X.x X.b dX5_work_169 (by decide) ?_
    refine lv_isub X.x X.b dX5_work_170 ?_
    exact r_iret X M rfl h dX5_work_171
  have h := it_f c8 h
  by_cases c10 : x1 = 21
  · have h := it_t c10 h
    refine lv_lookup (off := 171) (tgt := 172) X.x X.b dX5_work_1 (by decide) (by first | (rw [c10]; done) | (rw [c10]; rfl)) (by decide) ?_
    refine lv_aload_n X.x X.b dX5_work_172 rfl (lv_at hl 0 rfl) ?_
    refine lv_iconst (v := 1) X.x X.b dX5_work_173 (by decide) ?_
    refine lv_iconst (v := 3) X.x X.b dX5_work_174 (by decide) ?_
    refine lv_iload_n X.x X.b dX5_work_175 rfl (lv_at hl 2 rfl) ?_
    refine lv_iload_n X.x X.b dX5_work_176 rfl (lv_at hl 3 rfl) ?_
    obtain ⟨r11, σ11, h11, h⟩ := ob_e h
    refine r_runI M (r_callV (As := [.int 1, .int 3, .int x2, .int x3]) X M (lv_sub hl [] rfl) (HR.1 _ _ _ _ _ _ _ h11 _) cal_X5_above q629 ⟨Nat.le_refl _, (by show 8 + (5 + 11) + 48 * d ≤ 48 * (d + 1); omega)⟩ hq_55 (el_55 _ _) rfl rfl rfl (Nat.le_of_ble_eq_true rfl) ⟨Nat.le_refl _, Nat.le_refl _⟩ dX5_work_177) (fun H locs M => ?_)
    clear h11
    refine lv_aload_n X.x X.b dX5_work_180 rfl (lv_at hl 0 rfl) ?_
    refine lv_iconst (v := 1) X.x X.b dX5_work_181 (by decide) ?_
    refine lv_iconst (v := 1) X.x X.b dX5_work_182 (by decide) ?_
    refine lv_iload_n X.x X.b dX5_work_183 rfl (lv_at hl 3 rfl) ?_
    obtain ⟨r12, σ12, h12, h⟩ := ob_e h
    refine r_runI M (r_callV (As := [.int 1, .int 1, .int x3]) X M (lv_sub hl [] rfl) (HR.2.1 _ _ _ _ _ _ h12 _) cal_X5_own q620 ⟨Nat.le_refl _, (by show 8 + (4 + 11) + 48 * d ≤ 48 * (d + 1); omega)⟩ hq_55 (el_55 _ _) rfl rfl rfl (Nat.le_of_ble_eq_true rfl) ⟨Nat.le_refl _, Nat.le_refl _⟩ dX5_work_184) (fun H locs M => ?_)
    clear h12
    refine lv_iadd X.x X.b dX5_work_187 ?_
    exact r_iret X M rfl h dX5_work_188
  have h := it_f c10 h
  by_cases c13 : x1 = 30
  · have h := it_t c13 h
    refine lv_lookup (off := 188) (tgt := 189) X.x X.b dX5_work_1 (by decide) (by first | (rw [c13]; done) | (rw [c13]; rfl)) (by decide) ?_
    refine lv_iconst (v := 0) X.x X.b dX5_work_189 (by decide) ?_
    refine lv_aload_n X.x X.b dX5_work_190 rfl (lv_at hl 0 rfl) ?_
    refine lv_iconst (v := 2) X.x X.b dX5_work_191 (by decide) ?_
    refine lv_iconst (v := 1) X.x X.b dX5_work_192 (by decide) ?_
    refine lv_iload_n X.x X.b dX5_work_193 rfl (lv_at hl 2 rfl) ?_
    refine lv_iload_n X.x X.b dX5_work_194 rfl (lv_at hl 3 rfl) ?_
    obtain ⟨r14, σ14, h14, h⟩ := ob_e h
    refine r_runI M (r_callV (As := [.int 2, .int 1, .int x2, .int x3]) X M (lv_sub hl [] rfl) (HR.1 _ _ _ _ _ _ _ h14 _) cal_X5_above q629 ⟨Nat.le_refl _, (by show 8 + (5 + 11) + 48 * d ≤ 48 * (d + 1); omega)⟩ hq_55 (el_55 _ _) rfl rfl rfl (Nat.le_of_ble_eq_true rfl) ⟨Nat.le_refl _, Nat.le_refl _⟩ dX5_work_195) (fun H locs M => ?_)
    clear h14
    refine lv_isub X.x X.b dX5_work_198 ?_
    exact r_iret X M rfl h dX5_work_199
  have h := it_f c13 h
  by_cases c15 : x1 = 40
  · have h := it_t c15 h
    refine lv_lookup (off := 199) (tgt := 200) X.x X.b dX5_work_1 (by decide) (by first | (rw [c15]; done) | (rw [c15]; rfl)) (by decide) ?_
    refine lv_aload_n X.x X.b dX5_work_200 rfl (lv_at hl 0 rfl) ?_
    refine lv_iconst (v := 3) X.x X.b dX5_work_201 (by decide) ?_
    refine lv_iconst (v := 2) X.x X.b dX5_work_202 (by decide) ?_
    refine lv_iload_n X.x X.b dX5_work_203 rfl (lv_at hl 2 rfl) ?_
    refine lv_iconst (v := 2) X.x X.b dX5_work_204 (by decide) ?_
    refine lv_idiv X.x X.b dX5_work_205 (by decide) ?_
    refine lv_iload_n X.x X.b dX5_work_206 rfl (lv_at hl 3 rfl) ?_
    obtain ⟨r16, σ16, h16, h⟩ := ob_e h
    refine r_runI M (r_callV (As := [.int 3, .int 2, .int (x2 / 2), .int x3]) X M (lv_sub hl [] rfl) (HR.1 _ _ _ _ _ _ _ h16 _) cal_X5_above q629 ⟨Nat.le_refl _, (by show 8 + (5 + 11) + 48 * d ≤ 48 * (d + 1); omega)⟩ hq_55 (el_55 _ _) rfl rfl rfl (Nat.le_of_ble_eq_true rfl) ⟨Nat.le_refl _, Nat.le_refl _⟩ dX5_work_207) (fun H locs M => ?_)
    clear h16
    exact r_iret X M rfl h dX5_work_210
  have h := it_f c15 h
  by_cases c17 : x1 = 50
  · have h := it_t c17 h
    refine lv_lookup (off := 210) (tgt := 211) X.x X.b dX5_work_1 (by decide) (by first | (rw [c17]; done) | (rw [c17]; rfl)) (by decide) ?_
    refine lv_aload_n X.x X.b dX5_work_211 rfl (lv_at hl 0 rfl) ?_
    refine lv_iconst (v := 4) X.x X.b dX5_work_212 (by decide) ?_
    refine lv_iconst (v := 0) X.x X.b dX5_work_213 (by decide) ?_
    refine lv_iload_n X.x X.b dX5_work_214 rfl (lv_at hl 2 rfl) ?_
    refine lv_iload_n X.x X.b dX5_work_215 rfl (lv_at hl 3 rfl) ?_
    obtain ⟨r18, σ18, h18, h⟩ := ob_e h
    refine r_runI M (r_callV (As := [.int 4, .int 0, .int x2, .int x3]) X M (lv_sub hl [] rfl) (HR.1 _ _ _ _ _ _ _ h18 _) cal_X5_above q629 ⟨Nat.le_refl _, (by show 8 + (5 + 11) + 48 * d ≤ 48 * (d + 1); omega)⟩ hq_55 (el_55 _ _) rfl rfl rfl (Nat.le_of_ble_eq_true rfl) ⟨Nat.le_refl _, Nat.le_refl _⟩ dX5_work_216) (fun H locs M => ?_)
    clear h18
    refine lv_iconst (v := 3) X.x X.b dX5_work_219 (by decide) ?_
    refine lv_imul X.x X.b dX5_work_220 ?_
    exact r_iret X M rfl h dX5_work_221
  have h := it_f c17 h
  by_cases c19 : x1 = 51
  · have h := it_t c19 h
    refine lv_lookup (off := 221) (tgt := 222) X.x X.b dX5_work_1 (by decide) (by first | (rw [c19]; done) | (rw [c19]; rfl)) (by decide) ?_
    refine lv_aload_n X.x X.b dX5_work_222 rfl (lv_at hl 0 rfl) ?_
    refine lv_iconst (v := 4) X.x X.b dX5_work_223 (by decide) ?_
    refine lv_iconst (v := 2) X.x X.b dX5_work_224 (by decide) ?_
    refine lv_iload_n X.x X.b dX5_work_225 rfl (lv_at hl 2 rfl) ?_
    refine lv_iload_n X.x X.b dX5_work_226 rfl (lv_at hl 3 rfl) ?_
    obtain ⟨r20, σ20, h20, h⟩ := ob_e h
    refine r_runI M (r_callV (As := [.int 4, .int 2, .int x2, .int x3]) X M (lv_sub hl [] rfl) (HR.1 _ _ _ _ _ _ _ h20 _) cal_X5_above q629 ⟨Nat.le_refl _, (by show 8 + (5 + 11) + 48 * d ≤ 48 * (d + 1); omega)⟩ hq_55 (el_55 _ _) rfl rfl rfl (Nat.le_of_ble_eq_true rfl) ⟨Nat.le_refl _, Nat.le_refl _⟩ dX5_work_227) (fun H locs M => ?_)
    clear h20
    refine lv_aload_n X.x X.b dX5_work_230 rfl (lv_at hl 0 rfl) ?_
    refine r_get X M hq_55 (el_55 _ _) rfl inX5 4 (by decide) q156 rfl rfl dX5_work_231 ?_
    refine lv_ixor X.x X.b dX5_work_234 ?_
    exact r_iret X M rfl h dX5_work_235
  have h := it_f c19 h
  by_cases c21 : x1 = 60
  · have h := it_t c21 h
    refine lv_lookup (off := 235) (tgt := 236) X.x X.b dX5_work_1 (by decide) (by first | (rw [c21]; done) | (rw [c21]; rfl)) (by decide) ?_
    refine lv_aload_n X.x X.b dX5_work_236 rfl (lv_at hl 0 rfl) ?_
    refine lv_iconst (v := 5) X.x X.b dX5_work_237 (by decide) ?_
    refine lv_iconst (v := 1) X.x X.b dX5_work_238 (by decide) ?_
    refine lv_iload_n X.x X.b dX5_work_239 rfl (lv_at hl 2 rfl) ?_
    refine lv_iconst (v := 1) X.x X.b dX5_work_240 (by decide) ?_
    refine lv_iadd X.x X.b dX5_work_241 ?_
    refine lv_iload_n X.x X.b dX5_work_242 rfl (lv_at hl 3 rfl) ?_
    obtain ⟨r22, σ22, h22, h⟩ := ob_e h
    refine r_runI M (r_callV (As := [.int 5, .int 1, .int (x2 + 1), .int x3]) X M (lv_sub hl [] rfl) (HR.1 _ _ _ _ _ _ _ h22 _) cal_X5_above q629 ⟨Nat.le_refl _, (by show 8 + (5 + 11) + 48 * d ≤ 48 * (d + 1); omega)⟩ hq_55 (el_55 _ _) rfl rfl rfl (Nat.le_of_ble_eq_true rfl) ⟨Nat.le_refl _, Nat.le_refl _⟩ dX5_work_243) (fun H locs M => ?_)
    clear h22
    exact r_iret X M rfl h dX5_work_246
  have h := it_f c21 h
  by_cases c23 : x1 = 70
  · have h := it_t c23 h
    refine lv_lookup (off := 246) (tgt := 247) X.x X.b dX5_work_1 (by decide) (by first | (rw [c23]; done) | (rw [c23]; rfl)) (by decide) ?_
    refine lv_bipush (v := 9) X.x X.b dX5_work_247 (by decide) ?_
    exact r_iret X M rfl h dX5_work_249
  have h := it_f c23 h
  by_cases c24 : x1 = 71
  · have h := it_t c24 h
    refine lv_lookup (off := 249) (tgt := 250) X.x X.b dX5_work_1 (by decide) (by first | (rw [c24]; done) | (rw [c24]; rfl)) (by decide) ?_
    refine lv_aload_n X.x X.b dX5_work_250 rfl (lv_at hl 0 rfl) ?_
    refine lv_bipush (v := 6) X.x X.b dX5_work_251 (by decide) ?_
    refine lv_iconst (v := 1) X.x X.b dX5_work_253 (by decide) ?_
    refine lv_iload_n X.x X.b dX5_work_254 rfl (lv_at hl 2 rfl) ?_
    refine lv_iload_n X.x X.b dX5_work_255 rfl (lv_at hl 3 rfl) ?_
    obtain ⟨r25, σ25, h25, h⟩ := ob_e h
    refine r_runI M (r_callV (As := [.int 6, .int 1, .int x2, .int x3]) X M (lv_sub hl [] rfl) (HR.1 _ _ _ _ _ _ _ h25 _) cal_X5_above q629 ⟨Nat.le_refl _, (by show 8 + (5 + 11) + 48 * d ≤ 48 * (d + 1); omega)⟩ hq_55 (el_55 _ _) rfl rfl rfl (Nat.le_of_ble_eq_true rfl) ⟨Nat.le_refl _, Nat.le_refl _⟩ dX5_work_256) (fun H locs M => ?_)
    clear h25
    refine lv_aload_n X.x X.b dX5_work_259 rfl (lv_at hl 0 rfl) ?_
    refine r_get X M hq_55 (el_55 _ _) rfl inX5 5 (by decide) q157 rfl rfl dX5_work_260 ?_
    refine lv_iadd X.x X.b dX5_work_263 ?_
    exact r_iret X M rfl h dX5_work_264
  have h := it_f c24 h
  refine lv_lookup (off := 264) (tgt := 265) X.x X.b dX5_work_1 (by decide) (by show Op.lookupswitch.offset [(10, 115), (11, 122), (12, 132), (13, 145), (20, 160), (21, 171), (30, 188), (40, 199), (50, 210), (51, 221), (60, 235), (70, 246), (71, 249)] _ _ = _; first | (rw [lv_osw c1 (by decide), lv_osw c2 (by decide), lv_osw c4 (by decide), lv_osw c6 (by decide), lv_osw c8 (by decide), lv_osw c10 (by decide), lv_osw c13 (by decide), lv_osw c15 (by decide), lv_osw c17 (by decide), lv_osw c19 (by decide), lv_osw c21 (by decide), lv_osw c23 (by decide), lv_osw c24 (by decide)]; done) | (rw [lv_osw c1 (by decide), lv_osw c2 (by decide), lv_osw c4 (by decide), lv_osw c6 (by decide), lv_osw c8 (by decide), lv_osw c10 (by decide), lv_osw c13 (by decide), lv_osw c15 (by decide), lv_osw c17 (by decide), lv_osw c19 (by decide), lv_osw c21 (by decide), lv_osw c23 (by decide), lv_osw c24 (by decide)]; rfl)) (by decide) ?_
  refine lv_iconst (v := 0) X.x X.b dX5_work_265 (by decide) ?_
  exact r_iret X M rfl h dX5_work_266
def g_X5_above : Nat → Nat → Int32 → Int32 → Int32 → Int32 → St → Rs
  | 0 => fun _ _ _ _ _ _ => none
  | n + 1 => fun t a b c d σ => if t = 0 then f_X5_above (g_X5_above n) a b c d σ else if t = 1 then f_X5_own (g_X5_above n) a b c σ else if t = 2 then f_X5_speak (g_X5_above n) a b c d σ else if t = 3 then f_X5_work (g_X5_above n) a b c σ else none
theorem TG_X5_above {l : Launch} {Γ : Gm} : ∀ n : Nat, GC_X5_above l Γ (3 + n) (g_X5_above n) := by
  intro n
  induction n with
  | zero => exact ⟨fun _ _ _ _ _ _ _ h => (by cases h), fun _ _ _ _ _ _ h => (by cases h), fun _ _ _ _ _ _ _ h => (by cases h), fun _ _ _ _ _ _ h => (by cases h)⟩
  | succ n ih =>
    exact ⟨fun _ _ _ _ _ _ _ h => T_X5_above (l := l) (Γ := Γ) ih (by omega) h, fun _ _ _ _ _ _ h => T_X5_own (l := l) (Γ := Γ) ih (by omega) h, fun _ _ _ _ _ _ _ h => T_X5_speak (l := l) (Γ := Γ) ih (by omega) h, fun _ _ _ _ _ _ h => T_X5_work (l := l) (Γ := Γ) ih (by omega) h⟩
/-- StreetNumbers$Voices.answerOf(IIIII)I -/
def f_X5_answerOf (x1 : Int32) (x2 : Int32) (x3 : Int32) (x4 : Int32) (x5 : Int32) (σ : St) : Rs :=
  ol (st σ 55 3 x1) fun σ1 => (
  ol (st σ1 55 4 x2) fun σ2 => (
  ol (st σ2 55 5 x3) fun σ3 => (
  ol (st σ3 55 0 0) fun σ4 => (
  ol (st σ4 55 1 0) fun σ5 => (
  ob (g_X5_above 100 2 x1 x4 x5 0 σ5) fun r6 σ6 => (
  some (r6, σ6)))))))
set_option maxRecDepth 100000 in
set_option maxHeartbeats 4000000 in
theorem T_X5_answerOf {l : Launch} {Γ : Gm} {x1 : Int32} {x2 : Int32} {x3 : Int32} {x4 : Int32} {x5 : Int32} {σ : St} {r : Int32} {σ' : St} (h : f_X5_answerOf x1 x2 x3 x4 x5 σ = some (r, σ')) : MetI l yX5_answerOf cX5_answerOf 6 .int 104 Γ σ [.ref (Γ.1 55), .int x1, .int x2, .int x3, .int x4, .int x5] r σ' := by
  intro sz
  refine met_in (by decide) (Nat.le_of_ble_eq_true rfl) (fun p e s m args below meth c ls X hsz M hl => ?_)
  subst hsz
  have X : Cx p s m args meth c cX5_answerOf RX5 6 (some .int) Γ := X
  have hl : lv_has ls 6 [(0, .ref (Γ.1 55)), (1, .int x1), (2, .int x2), (3, .int x3), (4, .int x4), (5, .int x5)] := hl
  unfold f_X5_answerOf at h
  refine lv_aload_n X.x X.b dX5_answerOf_0 rfl (lv_at hl 0 rfl) ?_
  refine lv_iload_n X.x X.b dX5_answerOf_1 rfl (lv_at hl 1 rfl) ?_
  obtain ⟨σ1, e1, h⟩ := ol_e h
  refine r_put (x := x1) (ty := .int) X M hq_55 (el_55 _ _) rfl inX5 tyX5_ok nmX5 3 (by decide) q155 rfl rfl rfl rfl rfl (Nat.le_of_ble_eq_true rfl) (pf_55_3 _ _ _) dX5_answerOf_2 (fun H locs M => ?_)
  rw [← e1] at M
  refine lv_aload_n X.x X.b dX5_answerOf_5 rfl (lv_at hl 0 rfl) ?_
  refine lv_iload_n X.x X.b dX5_answerOf_6 rfl (lv_at hl 2 rfl) ?_
  obtain ⟨σ2, e2, h⟩ := ol_e h
  refine r_put (x := x2) (ty := .int) X M hq_55 (el_55 _ _) rfl inX5 tyX5_ok nmX5 4 (by decide) q156 rfl rfl rfl rfl rfl (Nat.le_of_ble_eq_true rfl) (pf_55_4 _ _ _) dX5_answerOf_7 (fun H locs M => ?_)
  rw [← e2] at M
  refine lv_aload_n X.x X.b dX5_answerOf_10 rfl (lv_at hl 0 rfl) ?_
  refine lv_iload_n X.x X.b dX5_answerOf_11 rfl (lv_at hl 3 rfl) ?_
  obtain ⟨σ3, e3, h⟩ := ol_e h
  refine r_put (x := x3) (ty := .int) X M hq_55 (el_55 _ _) rfl inX5 tyX5_ok nmX5 5 (by decide) q157 rfl rfl rfl rfl rfl (Nat.le_of_ble_eq_true rfl) (pf_55_5 _ _ _) dX5_answerOf_12 (fun H locs M => ?_)
  rw [← e3] at M
  refine lv_aload_n X.x X.b dX5_answerOf_15 rfl (lv_at hl 0 rfl) ?_
  refine lv_iconst (v := 0) X.x X.b dX5_answerOf_16 (by decide) ?_
  obtain ⟨σ4, e4, h⟩ := ol_e h
  refine r_put (x := 0) (ty := .boolean) X M hq_55 (el_55 _ _) rfl inX5 tyX5_ok nmX5 0 (by decide) q150 rfl rfl rfl rfl rfl (Nat.le_of_ble_eq_true rfl) (pf_55_0 _ _ _) dX5_answerOf_17 (fun H locs M => ?_)
  rw [← e4] at M
  refine lv_aload_n X.x X.b dX5_answerOf_20 rfl (lv_at hl 0 rfl) ?_
  refine lv_iconst (v := 0) X.x X.b dX5_answerOf_21 (by decide) ?_
  obtain ⟨σ5, e5, h⟩ := ol_e h
  refine r_put (x := 0) (ty := .int) X M hq_55 (el_55 _ _) rfl inX5 tyX5_ok nmX5 1 (by decide) q152 rfl rfl rfl rfl rfl (Nat.le_of_ble_eq_true rfl) (pf_55_1 _ _ _) dX5_answerOf_22 (fun H locs M => ?_)
  rw [← e5] at M
  refine lv_aload_n X.x X.b dX5_answerOf_25 rfl (lv_at hl 0 rfl) ?_
  refine lv_iload_n X.x X.b dX5_answerOf_26 rfl (lv_at hl 1 rfl) ?_
  refine lv_iload X.x X.b dX5_answerOf_27 (lv_at hl 4 rfl) ?_
  refine lv_iload X.x X.b dX5_answerOf_29 (lv_at hl 5 rfl) ?_
  refine lv_iconst (v := 0) X.x X.b dX5_answerOf_31 (by decide) ?_
  obtain ⟨r6, σ6, h6, h⟩ := ob_e h
  refine r_runI M (r_callV (As := [.int x1, .int x4, .int x5, .int 0]) X M (lv_sub hl [] rfl) ((TG_X5_above 100).2.2.1 _ _ _ _ _ _ _ h6 _) cal_X5_speak q602 ⟨by decide, by decide⟩ hq_55 (el_55 _ _) rfl rfl rfl (Nat.le_of_ble_eq_true rfl) ⟨Nat.le_refl _, Nat.le_refl _⟩ dX5_answerOf_32) (fun H locs M => ?_)
  clear h6
  exact r_iret X M rfl h dX5_answerOf_35
def f_X6_voice_b20 (σ : St) : Rs :=
  ob (f_X6_failing 1 σ) fun r1 σ1 => (
  some (r1, σ1))
set_option maxRecDepth 100000 in
set_option maxHeartbeats 4000000 in
theorem u_X6_voice_b20 {l : Launch} {Γ : Gm} {p : Program} {e : Env} {s : State} {m : MethodId} {args : Array Value} {below : List Frame} {meth : Method} {c : Code} {r : Int32} {σ' : St} (X : Cx p s m args meth c cX6_voice RX6 5 (some .int) Γ) (σ : St) (H : Heap) (locs : List Loc) (ls : Array Slot) (h : f_X6_voice_b20 σ = some (r, σ')) (M : Mv Γ σ s H locs) (hl : lv_has ls 5 [(0, .ref (Γ.1 0))]) : W p l e (rmd 105) s m args below meth c H locs 0 0 (MQ below (Qi Γ r σ' s.heap.size) args s 0 0 (Rg Γ s.heap.size)) (F0 m 20 ls []) := by
  unfold f_X6_voice_b20 at h
  refine lv_aload_n X.x X.b dX6_voice_20 rfl (lv_at hl 0 rfl) ?_
  refine lv_iconst (v := 1) X.x X.b dX6_voice_21 (by decide) ?_
  obtain ⟨r1, σ1, h1, h⟩ := ob_e h
  refine r_runI M (r_callV (As := [.int 1]) X M (lv_sub hl [] rfl) (T_X6_failing h1 _) cal_X6_failing q223 ⟨by decide, by decide⟩ hq_0 (el_0 _ _) rfl rfl rfl (Nat.le_of_ble_eq_true rfl) ⟨Nat.le_refl _, Nat.le_refl _⟩ dX6_voice_22) (fun H locs M => ?_)
  clear h1
  exact r_iret X M rfl h dX6_voice_25
/-- StreetNumbers.voice(III)I -/
def f_X6_voice (x1 : Int32) (x2 : Int32) (x3 : Int32) (σ : St) : Rs :=
  ob (f_X3_hasHouse x1 σ) fun r1 σ1 => (
  if r1 = 0 then (
    f_X6_voice_b20 σ1
  ) else (
    if x2 < 0 then (
      f_X6_voice_b20 σ1
    ) else (
      if x2 < 4 then (
        ob (f_X3_kind x1 σ1) fun r2 σ2 => (
        ob (f_X3_m x1 σ2) fun r3 σ3 => (
        ob (f_X5_answerOf r2 x1 r3 x2 x3 σ3) fun r4 σ4 => (
        if (σ4 55 0) = 0 then (
          some (r4, σ4)
        ) else (
          ob (f_X6_failing 6 σ4) fun r5 σ5 => (
          some (r5, σ5))
        ))))
      ) else (
        f_X6_voice_b20 σ1
      )
    )
  ))
set_option maxRecDepth 100000 in
set_option maxHeartbeats 4000000 in
theorem T_X6_voice {l : Launch} {Γ : Gm} {x1 : Int32} {x2 : Int32} {x3 : Int32} {σ : St} {r : Int32} {σ' : St} (h : f_X6_voice x1 x2 x3 σ = some (r, σ')) : MetI l yX6_voice cX6_voice 5 .int 105 Γ σ [.ref (Γ.1 0), .int x1, .int x2, .int x3] r σ' := by
  intro sz
  refine met_in (by decide) (Nat.le_of_ble_eq_true rfl) (fun p e s m args below meth c ls X hsz M hl => ?_)
  subst hsz
  have X : Cx p s m args meth c cX6_voice RX6 5 (some .int) Γ := X
  have hl : lv_has ls 5 [(0, .ref (Γ.1 0)), (1, .int x1), (2, .int x2), (3, .int x3)] := hl
  unfold f_X6_voice at h
  refine lv_aload_n X.x X.b dX6_voice_0 rfl (lv_at hl 0 rfl) ?_
  refine r_get X M hq_0 (el_0 _ _) rfl inX6 0 (by decide) q188 rfl rfl dX6_voice_1 ?_
  refine lv_iload_n X.x X.b dX6_voice_4 rfl (lv_at hl 1 rfl) ?_
  obtain ⟨r1, σ1, h1, h⟩ := ob_e h
  refine r_runI M (r_callV (As := [.int x1]) X M (lv_sub hl [] rfl) (T_X3_hasHouse h1 _) cal_X3_hasHouse q251 ⟨by decide, by decide⟩ hq_1 (el_1 _ _) rfl rfl rfl (Nat.le_of_ble_eq_true rfl) ⟨Nat.le_refl _, Nat.le_refl _⟩ dX6_voice_5) (fun H locs M => ?_)
  clear h1
  refine lv_if_eq (tgt := 20) X.x X.b dX6_voice_8 (by decide) (fun c9 => ?_) (fun c9 => ?_)
  · have h := it_t c9 h
    exact u_X6_voice_b20 X σ1 _ _ _ h M (lv_sub hl [0] rfl)
  · have h := it_f c9 h
    refine lv_iload_n X.x X.b dX6_voice_11 rfl (lv_at hl 2 rfl) ?_
    refine lv_if_lt (tgt := 20) X.x X.b dX6_voice_12 (by decide) (fun c8 => ?_) (fun c8 => ?_)
    · have h := it_t c8 h
      exact u_X6_voice_b20 X σ1 _ _ _ h M (lv_sub hl [0] rfl)
    · have h := it_f c8 h
      refine lv_iload_n X.x X.b dX6_voice_15 rfl (lv_at hl 2 rfl) ?_
      refine lv_iconst (v := 4) X.x X.b dX6_voice_16 (by decide) ?_
      refine lv_icmp_lt (tgt := 26) X.x X.b dX6_voice_17 (by decide) (fun c7 => ?_) (fun c7 => ?_)
      · have h := it_t c7 h
        refine lv_aload_n X.x X.b dX6_voice_26 rfl (lv_at hl 0 rfl) ?_
        refine r_get X M hq_0 (el_0 _ _) rfl inX6 4 (by decide) q192 rfl rfl dX6_voice_27 ?_
        refine lv_aload_n X.x X.b dX6_voice_30 rfl (lv_at hl 0 rfl) ?_
        refine r_get X M hq_0 (el_0 _ _) rfl inX6 0 (by decide) q188 rfl rfl dX6_voice_31 ?_
        refine lv_iload_n X.x X.b dX6_voice_34 rfl (lv_at hl 1 rfl) ?_
        obtain ⟨r2, σ2, h2, h⟩ := ob_e h
        refine r_runI M (r_callV (As := [.int x1]) X M (lv_sub hl [] rfl) (T_X3_kind h2 _) cal_X3_kind q252 ⟨by decide, by decide⟩ hq_1 (el_1 _ _) rfl rfl rfl (Nat.le_of_ble_eq_true rfl) ⟨Nat.le_refl _, Nat.le_refl _⟩ dX6_voice_35) (fun H locs M => ?_)
        clear h2
        refine lv_iload_n X.x X.b dX6_voice_38 rfl (lv_at hl 1 rfl) ?_
        refine lv_aload_n X.x X.b dX6_voice_39 rfl (lv_at hl 0 rfl) ?_
        refine r_get X M hq_0 (el_0 _ _) rfl inX6 0 (by decide) q188 rfl rfl dX6_voice_40 ?_
        refine lv_iload_n X.x X.b dX6_voice_43 rfl (lv_at hl 1 rfl) ?_
        obtain ⟨r3, σ3, h3, h⟩ := ob_e h
        refine r_runI M (r_callV (As := [.int x1]) X M (lv_sub hl [] rfl) (T_X3_m h3 _) cal_X3_m q256 ⟨by decide, by decide⟩ hq_1 (el_1 _ _) rfl rfl rfl (Nat.le_of_ble_eq_true rfl) ⟨Nat.le_refl _, Nat.le_refl _⟩ dX6_voice_44) (fun H locs M => ?_)
        clear h3
        refine lv_iload_n X.x X.b dX6_voice_47 rfl (lv_at hl 2 rfl) ?_
        refine lv_iload_n X.x X.b dX6_voice_48 rfl (lv_at hl 3 rfl) ?_
        obtain ⟨r4, σ4, h4, h⟩ := ob_e h
        refine r_runI M (r_callV (As := [.int r2, .int x1, .int r3, .int x2, .int x3]) X M (lv_sub hl [] rfl) (T_X5_answerOf h4 _) cal_X5_answerOf q598 ⟨by decide, by decide⟩ hq_55 (el_55 _ _) rfl rfl rfl (Nat.le_of_ble_eq_true rfl) ⟨Nat.le_refl _, Nat.le_refl _⟩ dX6_voice_49) (fun H locs M => ?_)
        clear h4
        refine lv_istore (lv' := [(4, .int r4), (0, .ref (Γ.1 0)), (1, .int x1), (2, .int x2), (3, .int x3)]) X.x X.b dX6_voice_52 hl (by decide) rfl (fun ls hl => ?_)
        refine lv_aload_n X.x X.b dX6_voice_54 rfl (lv_at hl 1 rfl) ?_
        refine r_get X M hq_0 (el_0 _ _) rfl inX6 4 (by decide) q192 rfl rfl dX6_voice_55 ?_
        refine r_get X M hq_55 (el_55 _ _) rfl inX5 0 (by decide) q151 rfl rfl dX6_voice_58 ?_
        refine lv_if_eq (tgt := 73) X.x X.b dX6_voice_61 (by decide) (fun c6 => ?_) (fun c6 => ?_)
        · have h := it_t c6 h
          refine lv_iload X.x X.b dX6_voice_73 (lv_at hl 0 rfl) ?_
          exact r_iret X M rfl h dX6_voice_75
        · have h := it_f c6 h
          refine lv_aload_n X.x X.b dX6_voice_64 rfl (lv_at hl 1 rfl) ?_
          refine lv_bipush (v := 6) X.x X.b dX6_voice_65 (by decide) ?_
          obtain ⟨r5, σ5, h5, h⟩ := ob_e h
          refine r_runI M (r_callV (As := [.int 6]) X M (lv_sub hl [] rfl) (T_X6_failing h5 _) cal_X6_failing q223 ⟨by decide, by decide⟩ hq_0 (el_0 _ _) rfl rfl rfl (Nat.le_of_ble_eq_true rfl) ⟨Nat.le_refl _, Nat.le_refl _⟩ dX6_voice_67) (fun H locs M => ?_)
          clear h5
          refine lv_goto (tgt := 75) X.x X.b dX6_voice_70 (by decide) ?_
          exact r_iret X M rfl h dX6_voice_75
      · have h := it_f c7 h
        exact u_X6_voice_b20 X σ1 _ _ _ h M (lv_sub hl [0] rfl)
/-- StreetNumbers.would(I)I -/
def f_X6_would (x1 : Int32) (σ : St) : Rs :=
  if x1 < 1 then (
    ob (f_X6_failing 1 σ) fun r1 σ1 => (
    some (r1, σ1))
  ) else (
    if x1 ≤ 50 then (
      ob (f_X3_harmOfGap x1 σ) fun r2 σ2 => (
      some (r2, σ2))
    ) else (
      ob (f_X6_failing 1 σ) fun r3 σ3 => (
      some (r3, σ3))
    )
  )
set_option maxRecDepth 100000 in
set_option maxHeartbeats 4000000 in
theorem T_X6_would {l : Launch} {Γ : Gm} {x1 : Int32} {σ : St} {r : Int32} {σ' : St} (h : f_X6_would x1 σ = some (r, σ')) : MetI l yX6_would cX6_would 2 .int 6 Γ σ [.ref (Γ.1 0), .int x1] r σ' := by
  intro sz
  refine met_in (by decide) (Nat.le_of_ble_eq_true rfl) (fun p e s m args below meth c ls X hsz M hl => ?_)
  subst hsz
  have X : Cx p s m args meth c cX6_would RX6 2 (some .int) Γ := X
  have hl : lv_has ls 2 [(0, .ref (Γ.1 0)), (1, .int x1)] := hl
  unfold f_X6_would at h
  refine lv_iload_n X.x X.b dX6_would_0 rfl (lv_at hl 1 rfl) ?_
  refine lv_iconst (v := 1) X.x X.b dX6_would_1 (by decide) ?_
  refine lv_icmp_lt (tgt := 11) X.x X.b dX6_would_2 (by decide) (fun c5 => ?_) (fun c5 => ?_)
  · have h := it_t c5 h
    refine lv_aload_n X.x X.b dX6_would_11 rfl (lv_at hl 0 rfl) ?_
    refine lv_iconst (v := 1) X.x X.b dX6_would_12 (by decide) ?_
    obtain ⟨r1, σ1, h1, h⟩ := ob_e h
    refine r_runI M (r_callV (As := [.int 1]) X M (lv_sub hl [] rfl) (T_X6_failing h1 _) cal_X6_failing q223 ⟨by decide, by decide⟩ hq_0 (el_0 _ _) rfl rfl rfl (Nat.le_of_ble_eq_true rfl) ⟨Nat.le_refl _, Nat.le_refl _⟩ dX6_would_13) (fun H locs M => ?_)
    clear h1
    exact r_iret X M rfl h dX6_would_16
  · have h := it_f c5 h
    refine lv_iload_n X.x X.b dX6_would_5 rfl (lv_at hl 1 rfl) ?_
    refine lv_bipush (v := 50) X.x X.b dX6_would_6 (by decide) ?_
    refine lv_icmp_le (tgt := 17) X.x X.b dX6_would_8 (by decide) (fun c4 => ?_) (fun c4 => ?_)
    · have h := it_t c4 h
      refine lv_aload_n X.x X.b dX6_would_17 rfl (lv_at hl 0 rfl) ?_
      refine r_get X M hq_0 (el_0 _ _) rfl inX6 0 (by decide) q188 rfl rfl dX6_would_18 ?_
      refine lv_iload_n X.x X.b dX6_would_21 rfl (lv_at hl 1 rfl) ?_
      obtain ⟨r2, σ2, h2, h⟩ := ob_e h
      refine r_runI M (r_callV (As := [.int x1]) X M (lv_sub hl [] rfl) (T_X3_harmOfGap h2 _) cal_X3_harmOfGap q460 ⟨by decide, by decide⟩ hq_1 (el_1 _ _) rfl rfl rfl (Nat.le_of_ble_eq_true rfl) ⟨Nat.le_refl _, Nat.le_refl _⟩ dX6_would_22) (fun H locs M => ?_)
      clear h2
      exact r_iret X M rfl h dX6_would_25
    · have h := it_f c4 h
      refine lv_aload_n X.x X.b dX6_would_11 rfl (lv_at hl 0 rfl) ?_
      refine lv_iconst (v := 1) X.x X.b dX6_would_12 (by decide) ?_
      obtain ⟨r3, σ3, h3, h⟩ := ob_e h
      refine r_runI M (r_callV (As := [.int 1]) X M (lv_sub hl [] rfl) (T_X6_failing h3 _) cal_X6_failing q223 ⟨by decide, by decide⟩ hq_0 (el_0 _ _) rfl rfl rfl (Nat.le_of_ble_eq_true rfl) ⟨Nat.le_refl _, Nat.le_refl _⟩ dX6_would_13) (fun H locs M => ?_)
      clear h3
      exact r_iret X M rfl h dX6_would_16
/-- StreetNumbers.year(I)I -/
def f_X6_year (x1 : Int32) (σ : St) : Rs :=
  if x1 < 0 then (
    ob (f_X6_failing 1 σ) fun r1 σ1 => (
    some (r1, σ1))
  ) else (
    if x1 ≤ 9999 then (
      ol (st σ 1 2 x1) fun σ2 => (
      some ((σ 1 2), σ2))
    ) else (
      ob (f_X6_failing 1 σ) fun r3 σ3 => (
      some (r3, σ3))
    )
  )
set_option maxRecDepth 100000 in
set_option maxHeartbeats 4000000 in
theorem T_X6_year {l : Launch} {Γ : Gm} {x1 : Int32} {σ : St} {r : Int32} {σ' : St} (h : f_X6_year x1 σ = some (r, σ')) : MetI l yX6_year cX6_year 3 .int 2 Γ σ [.ref (Γ.1 0), .int x1] r σ' := by
  intro sz
  refine met_in (by decide) (Nat.le_of_ble_eq_true rfl) (fun p e s m args below meth c ls X hsz M hl => ?_)
  subst hsz
  have X : Cx p s m args meth c cX6_year RX6 3 (some .int) Γ := X
  have hl : lv_has ls 3 [(0, .ref (Γ.1 0)), (1, .int x1)] := hl
  unfold f_X6_year at h
  refine lv_iload_n X.x X.b dX6_year_0 rfl (lv_at hl 1 rfl) ?_
  refine lv_if_lt (tgt := 11) X.x X.b dX6_year_1 (by decide) (fun c5 => ?_) (fun c5 => ?_)
  · have h := it_t c5 h
    refine lv_aload_n X.x X.b dX6_year_11 rfl (lv_at hl 0 rfl) ?_
    refine lv_iconst (v := 1) X.x X.b dX6_year_12 (by decide) ?_
    obtain ⟨r1, σ1, h1, h⟩ := ob_e h
    refine r_runI M (r_callV (As := [.int 1]) X M (lv_sub hl [] rfl) (T_X6_failing h1 _) cal_X6_failing q223 ⟨by decide, by decide⟩ hq_0 (el_0 _ _) rfl rfl rfl (Nat.le_of_ble_eq_true rfl) ⟨Nat.le_refl _, Nat.le_refl _⟩ dX6_year_13) (fun H locs M => ?_)
    clear h1
    exact r_iret X M rfl h dX6_year_16
  · have h := it_f c5 h
    refine lv_iload_n X.x X.b dX6_year_4 rfl (lv_at hl 1 rfl) ?_
    refine lv_sipush (v := 9999) X.x X.b dX6_year_5 (by decide) ?_
    refine lv_icmp_le (tgt := 17) X.x X.b dX6_year_8 (by decide) (fun c4 => ?_) (fun c4 => ?_)
    · have h := it_t c4 h
      refine lv_aload_n X.x X.b dX6_year_17 rfl (lv_at hl 0 rfl) ?_
      refine r_get X M hq_0 (el_0 _ _) rfl inX6 0 (by decide) q188 rfl rfl dX6_year_18 ?_
      refine r_get X M hq_1 (el_1 _ _) rfl inX3 2 (by decide) q58 rfl rfl dX6_year_21 ?_
      refine lv_istore_n (lv' := [(2, .int (σ 1 2)), (0, .ref (Γ.1 0)), (1, .int x1)]) X.x X.b dX6_year_24 rfl hl (by decide) rfl (fun ls hl => ?_)
      refine lv_aload_n X.x X.b dX6_year_25 rfl (lv_at hl 1 rfl) ?_
      refine r_get X M hq_0 (el_0 _ _) rfl inX6 0 (by decide) q188 rfl rfl dX6_year_26 ?_
      refine lv_iload_n X.x X.b dX6_year_29 rfl (lv_at hl 2 rfl) ?_
      obtain ⟨σ2, e2, h⟩ := ol_e h
      refine r_put (x := x1) (ty := .int) X M hq_1 (el_1 _ _) rfl inX3 tyX3_ok nmX3 2 (by decide) q58 rfl rfl rfl rfl rfl (Nat.le_of_ble_eq_true rfl) (pf_1_2 _ _ _) dX6_year_30 (fun H locs M => ?_)
      rw [← e2] at M
      refine lv_iload_n X.x X.b dX6_year_33 rfl (lv_at hl 0 rfl) ?_
      exact r_iret X M rfl h dX6_year_34
    · have h := it_f c4 h
      refine lv_aload_n X.x X.b dX6_year_11 rfl (lv_at hl 0 rfl) ?_
      refine lv_iconst (v := 1) X.x X.b dX6_year_12 (by decide) ?_
      obtain ⟨r3, σ3, h3, h⟩ := ob_e h
      refine r_runI M (r_callV (As := [.int 1]) X M (lv_sub hl [] rfl) (T_X6_failing h3 _) cal_X6_failing q223 ⟨by decide, by decide⟩ hq_0 (el_0 _ _) rfl rfl rfl (Nat.le_of_ble_eq_true rfl) ⟨Nat.le_refl _, Nat.le_refl _⟩ dX6_year_13) (fun H locs M => ?_)
      clear h3
      exact r_iret X M rfl h dX6_year_16
/-- StreetNumbersModel.in(III)Z -/
def f_X7_in (x0 : Int32) (x1 : Int32) (x2 : Int32) (σ : St) : Rs :=
  if x0 < x1 then (
    some (0, σ)
  ) else (
    if x2 < x0 then (
      some (0, σ)
    ) else (
      some (1, σ)
    )
  )
set_option maxRecDepth 100000 in
set_option maxHeartbeats 4000000 in
theorem T_X7_in {l : Launch} {Γ : Gm} {x0 : Int32} {x1 : Int32} {x2 : Int32} {σ : St} {r : Int32} {σ' : St} (h : f_X7_in x0 x1 x2 σ = some (r, σ')) : MetI l yX7_in cX7_in 3 .boolean 1 Γ σ [.int x0, .int x1, .int x2] r σ' := by
  intro sz
  refine met_in (by decide) (Nat.le_of_ble_eq_true rfl) (fun p e s m args below meth c ls X hsz M hl => ?_)
  subst hsz
  have X : Cx p s m args meth c cX7_in RX7 3 (some .boolean) Γ := X
  have hl : lv_has ls 3 [(0, .int x0), (1, .int x1), (2, .int x2)] := hl
  unfold f_X7_in at h
  refine lv_iload_n X.x X.b dX7_in_0 rfl (lv_at hl 0 rfl) ?_
  refine lv_iload_n X.x X.b dX7_in_1 rfl (lv_at hl 1 rfl) ?_
  refine lv_icmp_lt (tgt := 14) X.x X.b dX7_in_2 (by decide) (fun c2 => ?_) (fun c2 => ?_)
  · have h := it_t c2 h
    refine lv_iconst (v := 0) X.x X.b dX7_in_14 (by decide) ?_
    exact r_iret X M rfl h dX7_in_15
  · have h := it_f c2 h
    refine lv_iload_n X.x X.b dX7_in_5 rfl (lv_at hl 0 rfl) ?_
    refine lv_iload_n X.x X.b dX7_in_6 rfl (lv_at hl 2 rfl) ?_
    refine lv_icmp_gt (tgt := 14) X.x X.b dX7_in_7 (by decide) (fun c1 => ?_) (fun c1 => ?_)
    · have h := it_t c1 h
      refine lv_iconst (v := 0) X.x X.b dX7_in_14 (by decide) ?_
      exact r_iret X M rfl h dX7_in_15
    · have h := it_f c1 h
      refine lv_iconst (v := 1) X.x X.b dX7_in_10 (by decide) ?_
      refine lv_goto (tgt := 15) X.x X.b dX7_in_11 (by decide) ?_
      exact r_iret X M rfl h dX7_in_15
/-- StreetNumbersModel.isHouse(I)Z -/
def f_X7_isHouse (x1 : Int32) (σ : St) : Rs :=
  if inb 5 382 then (
  ob (f_X7_in x1 0 ((σ 67 (5 : Int32).toNatClampNeg) - 1) σ) fun r2 σ2 => (
  if r2 = 0 ∨ r2 = 1 then some (r2, σ2) else none)) else none
set_option maxRecDepth 100000 in
set_option maxHeartbeats 4000000 in
theorem T_X7_isHouse {l : Launch} {Γ : Gm} {x1 : Int32} {σ : St} {r : Int32} {σ' : St} (h : f_X7_isHouse x1 σ = some (r, σ')) : MetI l yX7_isHouse cX7_isHouse 2 .boolean 2 Γ σ [.ref (Γ.1 66), .int x1] r σ' := by
  intro sz
  refine met_in (by decide) (Nat.le_of_ble_eq_true rfl) (fun p e s m args below meth c ls X hsz M hl => ?_)
  subst hsz
  have X : Cx p s m args meth c cX7_isHouse RX7 2 (some .boolean) Γ := X
  have hl : lv_has ls 2 [(0, .ref (Γ.1 66)), (1, .int x1)] := hl
  unfold f_X7_isHouse at h
  refine lv_iload_n X.x X.b dX7_isHouse_0 rfl (lv_at hl 1 rfl) ?_
  refine lv_iconst (v := 0) X.x X.b dX7_isHouse_1 (by decide) ?_
  refine lv_aload_n X.x X.b dX7_isHouse_2 rfl (lv_at hl 0 rfl) ?_
  refine r_get X M hq_66 (el_66 _ _) rfl inX7 0 (by decide) q728 rfl rfl dX7_isHouse_3 ?_
  refine lv_iconst (v := 5) X.x X.b dX7_isHouse_6 (by decide) ?_
  obtain ⟨c1, h⟩ := it_n h
  refine r_iald (q := 67) (n := 382) X M rfl c1 dX7_isHouse_7 ?_
  refine lv_iconst (v := 1) X.x X.b dX7_isHouse_8 (by decide) ?_
  refine lv_isub X.x X.b dX7_isHouse_9 ?_
  obtain ⟨r2, σ2, h2, h⟩ := ob_e h
  refine r_runI M (r_callS (As := [.int x1, .int 0, .int ((σ 67 (5 : Int32).toNatClampNeg) - 1)]) X M (lv_sub hl [] rfl) (T_X7_in h2 _) cal_X7_in q799 ⟨by decide, by decide⟩ rfl rfl (Nat.le_of_ble_eq_true rfl) ⟨Nat.le_refl _, Nat.le_refl _⟩ dX7_isHouse_10) (fun H locs M => ?_)
  clear h2
  obtain ⟨c3, h⟩ := it_n h
  exact r_iret X M (nar_b c3) h dX7_isHouse_13
/-- StreetNumbersModel.error(I)I -/
def f_X7_error (x1 : Int32) (σ : St) : Rs :=
  if inb x1 7 then (
  if inb x1 7 then (
  ol (st σ 69 x1.toNatClampNeg ((σ 69 x1.toNatClampNeg) + 1)) fun σ3 => (
  some (((-1000000000) - x1), σ3))) else none) else none
set_option maxRecDepth 100000 in
set_option maxHeartbeats 4000000 in
theorem T_X7_error {l : Launch} {Γ : Gm} {x1 : Int32} {σ : St} {r : Int32} {σ' : St} (h : f_X7_error x1 σ = some (r, σ')) : MetI l yX7_error cX7_error 2 .int 1 Γ σ [.ref (Γ.1 66), .int x1] r σ' := by
  intro sz
  refine met_in (by decide) (Nat.le_of_ble_eq_true rfl) (fun p e s m args below meth c ls X hsz M hl => ?_)
  subst hsz
  have X : Cx p s m args meth c cX7_error RX7 2 (some .int) Γ := X
  have hl : lv_has ls 2 [(0, .ref (Γ.1 66)), (1, .int x1)] := hl
  unfold f_X7_error at h
  refine lv_aload_n X.x X.b dX7_error_0 rfl (lv_at hl 0 rfl) ?_
  refine r_get X M hq_66 (el_66 _ _) rfl inX7 3 (by decide) q731 rfl rfl dX7_error_1 ?_
  refine lv_iload_n X.x X.b dX7_error_4 rfl (lv_at hl 1 rfl) ?_
  refine lv_dup2_11 X.x X.b dX7_error_5 rfl rfl ?_
  obtain ⟨c1, h⟩ := it_n h
  refine r_iald (q := 69) (n := 7) X M rfl c1 dX7_error_6 ?_
  refine lv_iconst (v := 1) X.x X.b dX7_error_7 (by decide) ?_
  refine lv_iadd X.x X.b dX7_error_8 ?_
  obtain ⟨c2, h⟩ := it_n h
  obtain ⟨σ3, e3, h⟩ := ol_e h
  refine r_iast (q := 69) (n := 7) X M rfl c2 dX7_error_9 (fun H locs M => ?_)
  rw [← e3] at M
  refine lv_ldc (v := (-1000000000)) X.x X.b X.ow (X.ts _ q806) dX7_error_10 ?_
  refine lv_iload_n X.x X.b dX7_error_12 rfl (lv_at hl 1 rfl) ?_
  refine lv_isub X.x X.b dX7_error_13 ?_
  exact r_iret X M rfl h dX7_error_14
/-- StreetNumbersModel.its(II)I -/
def f_X7_its (x1 : Int32) (x2 : Int32) (σ : St) : Rs :=
  if inb ((8 + (4 * x1)) + x2) 382 then (
  some ((σ 67 ((8 + (4 * x1)) + x2).toNatClampNeg), σ)) else none
set_option maxRecDepth 100000 in
set_option maxHeartbeats 4000000 in
theorem T_X7_its {l : Launch} {Γ : Gm} {x1 : Int32} {x2 : Int32} {σ : St} {r : Int32} {σ' : St} (h : f_X7_its x1 x2 σ = some (r, σ')) : MetI l yX7_its cX7_its 3 .int 1 Γ σ [.ref (Γ.1 66), .int x1, .int x2] r σ' := by
  intro sz
  refine met_in (by decide) (Nat.le_of_ble_eq_true rfl) (fun p e s m args below meth c ls X hsz M hl => ?_)
  subst hsz
  have X : Cx p s m args meth c cX7_its RX7 3 (some .int) Γ := X
  have hl : lv_has ls 3 [(0, .ref (Γ.1 66)), (1, .int x1), (2, .int x2)] := hl
  unfold f_X7_its at h
  refine lv_aload_n X.x X.b dX7_its_0 rfl (lv_at hl 0 rfl) ?_
  refine r_get X M hq_66 (el_66 _ _) rfl inX7 0 (by decide) q728 rfl rfl dX7_its_1 ?_
  refine lv_bipush (v := 8) X.x X.b dX7_its_4 (by decide) ?_
  refine lv_iconst (v := 4) X.x X.b dX7_its_6 (by decide) ?_
  refine lv_iload_n X.x X.b dX7_its_7 rfl (lv_at hl 1 rfl) ?_
  refine lv_imul X.x X.b dX7_its_8 ?_
  refine lv_iadd X.x X.b dX7_its_9 ?_
  refine lv_iload_n X.x X.b dX7_its_10 rfl (lv_at hl 2 rfl) ?_
  refine lv_iadd X.x X.b dX7_its_11 ?_
  obtain ⟨c1, h⟩ := it_n h
  refine r_iald (q := 67) (n := 382) X M rfl c1 dX7_its_12 ?_
  exact r_iret X M rfl h dX7_its_13
/-- StreetNumbersModel.above(I)I -/
def f_X7_above (x0 : Int32) (σ : St) : Rs :=
  if x0 = 4 then (
    some (1, σ)
  ) else (
    if x0 = 5 then (
      some (2, σ)
    ) else (
      some (0, σ)
    )
  )
set_option maxRecDepth 100000 in
set_option maxHeartbeats 4000000 in
theorem T_X7_above {l : Launch} {Γ : Gm} {x0 : Int32} {σ : St} {r : Int32} {σ' : St} (h : f_X7_above x0 σ = some (r, σ')) : MetI l yX7_above cX7_above 1 .int 1 Γ σ [.int x0] r σ' := by
  intro sz
  refine met_in (by decide) (Nat.le_of_ble_eq_true rfl) (fun p e s m args below meth c ls X hsz M hl => ?_)
  subst hsz
  have X : Cx p s m args meth c cX7_above RX7 1 (some .int) Γ := X
  have hl : lv_has ls 1 [(0, .int x0)] := hl
  unfold f_X7_above at h
  refine lv_iload_n X.x X.b dX7_above_0 rfl (lv_at hl 0 rfl) ?_
  refine lv_iconst (v := 4) X.x X.b dX7_above_1 (by decide) ?_
  refine lv_icmp_ne (tgt := 9) X.x X.b dX7_above_2 (by decide) (fun c2 => ?_) (fun c2 => ?_)
  · have h := it_f c2 h
    refine lv_iload_n X.x X.b dX7_above_9 rfl (lv_at hl 0 rfl) ?_
    refine lv_iconst (v := 5) X.x X.b dX7_above_10 (by decide) ?_
    refine lv_icmp_ne (tgt := 18) X.x X.b dX7_above_11 (by decide) (fun c1 => ?_) (fun c1 => ?_)
    · have h := it_f c1 h
      refine lv_iconst (v := 0) X.x X.b dX7_above_18 (by decide) ?_
      exact r_iret X M rfl h dX7_above_19
    · have h := it_t c1 h
      refine lv_iconst (v := 2) X.x X.b dX7_above_14 (by decide) ?_
      refine lv_goto (tgt := 19) X.x X.b dX7_above_15 (by decide) ?_
      exact r_iret X M rfl h dX7_above_19
  · have h := it_t c2 h
    refine lv_iconst (v := 1) X.x X.b dX7_above_5 (by decide) ?_
    refine lv_goto (tgt := 19) X.x X.b dX7_above_6 (by decide) ?_
    exact r_iret X M rfl h dX7_above_19
def f_X7_as_b48 (x1 : Int32) (x2 : Int32) (x3 : Int32) (σ : St) : Rs :=
  if x3 = x2 then (
    ob (f_X7_its x1 1 σ) fun r2 σ2 => (
    some (r2, σ2))
  ) else (
    ob (f_X7_error 5 σ) fun r1 σ1 => (
    some (r1, σ1))
  )
set_option maxRecDepth 100000 in
set_option maxHeartbeats 4000000 in
theorem u_X7_as_b48 {l : Launch} {Γ : Gm} {p : Program} {e : Env} {s : State} {m : MethodId} {args : Array Value} {below : List Frame} {meth : Method} {c : Code} {r : Int32} {σ' : St} (X : Cx p s m args meth c cX7_as RX7 4 (some .int) Γ) (x1 : Int32) (x2 : Int32) (x3 : Int32) (σ : St) (H : Heap) (locs : List Loc) (ls : Array Slot) (h : f_X7_as_b48 x1 x2 x3 σ = some (r, σ')) (M : Mv Γ σ s H locs) (hl : lv_has ls 4 [(0, .ref (Γ.1 66)), (1, .int x1), (2, .int x2), (3, .int x3)]) : W p l e (rmd 3) s m args below meth c H locs 0 0 (MQ below (Qi Γ r σ' s.heap.size) args s 0 0 (Rg Γ s.heap.size)) (F0 m 48 ls []) := by
  unfold f_X7_as_b48 at h
  refine lv_iload_n X.x X.b dX7_as_48 rfl (lv_at hl 3 rfl) ?_
  refine lv_iload_n X.x X.b dX7_as_49 rfl (lv_at hl 2 rfl) ?_
  refine lv_icmp_ne (tgt := 62) X.x X.b dX7_as_50 (by decide) (fun c3 => ?_) (fun c3 => ?_)
  · have h := it_f c3 h
    refine lv_aload_n X.x X.b dX7_as_62 rfl (lv_at hl 0 rfl) ?_
    refine lv_iconst (v := 5) X.x X.b dX7_as_63 (by decide) ?_
    obtain ⟨r1, σ1, h1, h⟩ := ob_e h
    refine r_runI M (r_callV (As := [.int 5]) X M (lv_sub hl [] rfl) (T_X7_error h1 _) cal_X7_error q802 ⟨by decide, by decide⟩ hq_66 (el_66 _ _) rfl rfl rfl (Nat.le_of_ble_eq_true rfl) ⟨Nat.le_refl _, Nat.le_refl _⟩ dX7_as_64) (fun H locs M => ?_)
    clear h1
    exact r_iret X M rfl h dX7_as_67
  · have h := it_t c3 h
    refine lv_aload_n X.x X.b dX7_as_53 rfl (lv_at hl 0 rfl) ?_
    refine lv_iload_n X.x X.b dX7_as_54 rfl (lv_at hl 1 rfl) ?_
    refine lv_iconst (v := 1) X.x X.b dX7_as_55 (by decide) ?_
    obtain ⟨r2, σ2, h2, h⟩ := ob_e h
    refine r_runI M (r_callV (As := [.int x1, .int 1]) X M (lv_sub hl [] rfl) (T_X7_its h2 _) cal_X7_its q874 ⟨by decide, by decide⟩ hq_66 (el_66 _ _) rfl rfl rfl (Nat.le_of_ble_eq_true rfl) ⟨Nat.le_refl _, Nat.le_refl _⟩ dX7_as_56) (fun H locs M => ?_)
    clear h2
    refine lv_goto (tgt := 67) X.x X.b dX7_as_59 (by decide) ?_
    exact r_iret X M rfl h dX7_as_67
def f_X7_as_b31 (k31 : (Int32 → Int32 → Int32 → St → Rs)) (x1 : Int32) (x2 : Int32) (x3 : Int32) (σ : St) : Rs :=
  if x3 = x2 then (
    f_X7_as_b48 x1 x2 x3 σ
  ) else (
    if x3 = 0 then (
      f_X7_as_b48 x1 x2 x3 σ
    ) else (
      ob (f_X7_above x3 σ) fun r1 σ1 => (
      k31 x1 x2 r1 σ1)
    )
  )
set_option maxRecDepth 100000 in
set_option maxHeartbeats 4000000 in
theorem u_X7_as_b31 {l : Launch} {Γ : Gm} {p : Program} {e : Env} {s : State} {m : MethodId} {args : Array Value} {below : List Frame} {meth : Method} {c : Code} {r : Int32} {σ' : St} {k31 : Int32 → Int32 → Int32 → St → Rs} (X : Cx p s m args meth c cX7_as RX7 4 (some .int) Γ) (H31 : ∀ (x1 : Int32) (x2 : Int32) (x3 : Int32) (σ : St) (H : Heap) (locs : List Loc) (ls : Array Slot), k31 x1 x2 x3 σ = some (r, σ') → Mv Γ σ s H locs → lv_has ls 4 [(0, .ref (Γ.1 66)), (1, .int x1), (2, .int x2), (3, .int x3)] → W p l e (rmd 3) s m args below meth c H locs 0 0 (MQ below (Qi Γ r σ' s.heap.size) args s 0 0 (Rg Γ s.heap.size)) (F0 m 31 ls [])) (x1 : Int32) (x2 : Int32) (x3 : Int32) (σ : St) (H : Heap) (locs : List Loc) (ls : Array Slot) (h : f_X7_as_b31 k31 x1 x2 x3 σ = some (r, σ')) (M : Mv Γ σ s H locs) (hl : lv_has ls 4 [(0, .ref (Γ.1 66)), (1, .int x1), (2, .int x2), (3, .int x3)]) : W p l e (rmd 3) s m args below meth c H locs 0 0 (MQ below (Qi Γ r σ' s.heap.size) args s 0 0 (Rg Γ s.heap.size)) (F0 m 31 ls []) := by
  unfold f_X7_as_b31 at h
  refine lv_iload_n X.x X.b dX7_as_31 rfl (lv_at hl 3 rfl) ?_
  refine lv_iload_n X.x X.b dX7_as_32 rfl (lv_at hl 2 rfl) ?_
  refine lv_icmp_eq (tgt := 48) X.x X.b dX7_as_33 (by decide) (fun c3 => ?_) (fun c3 => ?_)
  · have h := it_t c3 h
    exact u_X7_as_b48 X x1 x2 x3 σ _ _ _ h M (lv_sub hl [0, 1, 2, 3] rfl)
  · have h := it_f c3 h
    refine lv_iload_n X.x X.b dX7_as_36 rfl (lv_at hl 3 rfl) ?_
    refine lv_if_eq (tgt := 48) X.x X.b dX7_as_37 (by decide) (fun c2 => ?_) (fun c2 => ?_)
    · have h := it_t c2 h
      exact u_X7_as_b48 X x1 x2 x3 σ _ _ _ h M (lv_sub hl [0, 1, 2, 3] rfl)
    · have h := it_f c2 h
      refine lv_iload_n X.x X.b dX7_as_40 rfl (lv_at hl 3 rfl) ?_
      obtain ⟨r1, σ1, h1, h⟩ := ob_e h
      refine r_runI M (r_callS (As := [.int x3]) X M (lv_sub hl [] rfl) (T_X7_above h1 _) cal_X7_above q936 ⟨by decide, by decide⟩ rfl rfl (Nat.le_of_ble_eq_true rfl) ⟨Nat.le_refl _, Nat.le_refl _⟩ dX7_as_41) (fun H locs M => ?_)
      clear h1
      refine lv_istore_n (lv' := [(3, .int r1), (0, .ref (Γ.1 66)), (1, .int x1), (2, .int x2)]) X.x X.b dX7_as_44 rfl hl (by decide) rfl (fun ls hl => ?_)
      refine lv_goto (tgt := 31) X.x X.b dX7_as_45 (by decide) ?_
      exact H31 x1 x2 r1 σ1 _ _ _ h M (lv_sub hl [1, 2, 3, 0] rfl)
def f_X7_as_L31 : Nat → Int32 → Int32 → Int32 → St → Rs
  | 0 => fun _ _ _ _ => none
  | n + 1 => fun x1 x2 x3 σ => f_X7_as_b31 (f_X7_as_L31 n) x1 x2 x3 σ
theorem u_X7_as_L31 {l : Launch} {Γ : Gm} {p : Program} {e : Env} {s : State} {m : MethodId} {args : Array Value} {below : List Frame} {meth : Method} {c : Code} {r : Int32} {σ' : St} (X : Cx p s m args meth c cX7_as RX7 4 (some .int) Γ) : ∀ (n : Nat) (x1 : Int32) (x2 : Int32) (x3 : Int32) (σ : St) (H : Heap) (locs : List Loc) (ls : Array Slot), f_X7_as_L31 n x1 x2 x3 σ = some (r, σ') → Mv Γ σ s H locs → lv_has ls 4 [(0, .ref (Γ.1 66)), (1, .int x1), (2, .int x2), (3, .int x3)] → W p l e (rmd 3) s m args below meth c H locs 0 0 (MQ below (Qi Γ r σ' s.heap.size) args s 0 0 (Rg Γ s.heap.size)) (F0 m 31 ls []) := by
  intro n
  induction n with
  | zero => intro x1 x2 x3 σ H locs ls h; cases h
  | succ n ih => intro x1 x2 x3 σ H locs ls h; exact u_X7_as_b31 X  ih x1 x2 x3 σ H locs ls h
/-- StreetNumbersModel.as(II)I -/
def f_X7_as (x1 : Int32) (x2 : Int32) (σ : St) : Rs :=
  ob (f_X7_isHouse x1 σ) fun r1 σ1 => (
  if r1 = 0 then (
    ob (f_X7_error 1 σ1) fun r2 σ2 => (
    some (r2, σ2))
  ) else (
    ob (f_X7_in x2 0 6 σ1) fun r3 σ3 => (
    if r3 = 0 then (
      ob (f_X7_error 1 σ3) fun r5 σ5 => (
      some (r5, σ5))
    ) else (
      ob (f_X7_its x1 0 σ3) fun r4 σ4 => (
      f_X7_as_L31 LF x1 x2 r4 σ4)
    ))
  ))
set_option maxRecDepth 100000 in
set_option maxHeartbeats 4000000 in
theorem T_X7_as {l : Launch} {Γ : Gm} {x1 : Int32} {x2 : Int32} {σ : St} {r : Int32} {σ' : St} (h : f_X7_as x1 x2 σ = some (r, σ')) : MetI l yX7_as cX7_as 4 .int 3 Γ σ [.ref (Γ.1 66), .int x1, .int x2] r σ' := by
  intro sz
  refine met_in (by decide) (Nat.le_of_ble_eq_true rfl) (fun p e s m args below meth c ls X hsz M hl => ?_)
  subst hsz
  have X : Cx p s m args meth c cX7_as RX7 4 (some .int) Γ := X
  have hl : lv_has ls 4 [(0, .ref (Γ.1 66)), (1, .int x1), (2, .int x2)] := hl
  unfold f_X7_as at h
  refine lv_aload_n X.x X.b dX7_as_0 rfl (lv_at hl 0 rfl) ?_
  refine lv_iload_n X.x X.b dX7_as_1 rfl (lv_at hl 1 rfl) ?_
  obtain ⟨r1, σ1, h1, h⟩ := ob_e h
  refine r_runI M (r_callV (As := [.int x1]) X M (lv_sub hl [] rfl) (T_X7_isHouse h1 _) cal_X7_isHouse q886 ⟨by decide, by decide⟩ hq_66 (el_66 _ _) rfl rfl rfl (Nat.le_of_ble_eq_true rfl) ⟨Nat.le_refl _, Nat.le_refl _⟩ dX7_as_2) (fun H locs M => ?_)
  clear h1
  refine lv_if_eq (tgt := 18) X.x X.b dX7_as_5 (by decide) (fun c7 => ?_) (fun c7 => ?_)
  · have h := it_t c7 h
    refine lv_aload_n X.x X.b dX7_as_18 rfl (lv_at hl 0 rfl) ?_
    refine lv_iconst (v := 1) X.x X.b dX7_as_19 (by decide) ?_
    obtain ⟨r2, σ2, h2, h⟩ := ob_e h
    refine r_runI M (r_callV (As := [.int 1]) X M (lv_sub hl [] rfl) (T_X7_error h2 _) cal_X7_error q802 ⟨by decide, by decide⟩ hq_66 (el_66 _ _) rfl rfl rfl (Nat.le_of_ble_eq_true rfl) ⟨Nat.le_refl _, Nat.le_refl _⟩ dX7_as_20) (fun H locs M => ?_)
    clear h2
    exact r_iret X M rfl h dX7_as_23
  · have h := it_f c7 h
    refine lv_iload_n X.x X.b dX7_as_8 rfl (lv_at hl 2 rfl) ?_
    refine lv_iconst (v := 0) X.x X.b dX7_as_9 (by decide) ?_
    refine lv_bipush (v := 6) X.x X.b dX7_as_10 (by decide) ?_
    obtain ⟨r3, σ3, h3, h⟩ := ob_e h
    refine r_runI M (r_callS (As := [.int x2, .int 0, .int 6]) X M (lv_sub hl [] rfl) (T_X7_in h3 _) cal_X7_in q799 ⟨by decide, by decide⟩ rfl rfl (Nat.le_of_ble_eq_true rfl) ⟨Nat.le_refl _, Nat.le_refl _⟩ dX7_as_12) (fun H locs M => ?_)
    clear h3
    refine lv_if_ne (tgt := 24) X.x X.b dX7_as_15 (by decide) (fun c6 => ?_) (fun c6 => ?_)
    · have h := it_f c6 h
      refine lv_aload_n X.x X.b dX7_as_24 rfl (lv_at hl 0 rfl) ?_
      refine lv_iload_n X.x X.b dX7_as_25 rfl (lv_at hl 1 rfl) ?_
      refine lv_iconst (v := 0) X.x X.b dX7_as_26 (by decide) ?_
      obtain ⟨r4, σ4, h4, h⟩ := ob_e h
      refine r_runI M (r_callV (As := [.int x1, .int 0]) X M (lv_sub hl [] rfl) (T_X7_its h4 _) cal_X7_its q874 ⟨by decide, by decide⟩ hq_66 (el_66 _ _) rfl rfl rfl (Nat.le_of_ble_eq_true rfl) ⟨Nat.le_refl _, Nat.le_refl _⟩ dX7_as_27) (fun H locs M => ?_)
      clear h4
      refine lv_istore_n (lv' := [(3, .int r4), (0, .ref (Γ.1 66)), (1, .int x1), (2, .int x2)]) X.x X.b dX7_as_30 rfl hl (by decide) rfl (fun ls hl => ?_)
      exact u_X7_as_L31 X LF x1 x2 r4 σ4 _ _ _ h M (lv_sub hl [1, 2, 3, 0] rfl)
    · have h := it_t c6 h
      refine lv_aload_n X.x X.b dX7_as_18 rfl (lv_at hl 0 rfl) ?_
      refine lv_iconst (v := 1) X.x X.b dX7_as_19 (by decide) ?_
      obtain ⟨r5, σ5, h5, h⟩ := ob_e h
      refine r_runI M (r_callV (As := [.int 1]) X M (lv_sub hl [] rfl) (T_X7_error h5 _) cal_X7_error q802 ⟨by decide, by decide⟩ hq_66 (el_66 _ _) rfl rfl rfl (Nat.le_of_ble_eq_true rfl) ⟨Nat.le_refl _, Nat.le_refl _⟩ dX7_as_20) (fun H locs M => ?_)
      clear h5
      exact r_iret X M rfl h dX7_as_23
/-- StreetNumbersModel.isKind(I)Z -/
def f_X7_isKind (x0 : Int32) (σ : St) : Rs :=
  ob (f_X7_in x0 0 69 σ) fun r1 σ1 => (
  if r1 = 0 ∨ r1 = 1 then some (r1, σ1) else none)
set_option maxRecDepth 100000 in
set_option maxHeartbeats 4000000 in
theorem T_X7_isKind {l : Launch} {Γ : Gm} {x0 : Int32} {σ : St} {r : Int32} {σ' : St} (h : f_X7_isKind x0 σ = some (r, σ')) : MetI l yX7_isKind cX7_isKind 1 .boolean 2 Γ σ [.int x0] r σ' := by
  intro sz
  refine met_in (by decide) (Nat.le_of_ble_eq_true rfl) (fun p e s m args below meth c ls X hsz M hl => ?_)
  subst hsz
  have X : Cx p s m args meth c cX7_isKind RX7 1 (some .boolean) Γ := X
  have hl : lv_has ls 1 [(0, .int x0)] := hl
  unfold f_X7_isKind at h
  refine lv_iload_n X.x X.b dX7_isKind_0 rfl (lv_at hl 0 rfl) ?_
  refine lv_iconst (v := 0) X.x X.b dX7_isKind_1 (by decide) ?_
  refine lv_bipush (v := 69) X.x X.b dX7_isKind_2 (by decide) ?_
  obtain ⟨r1, σ1, h1, h⟩ := ob_e h
  refine r_runI M (r_callS (As := [.int x0, .int 0, .int 69]) X M (lv_sub hl [] rfl) (T_X7_in h1 _) cal_X7_in q799 ⟨by decide, by decide⟩ rfl rfl (Nat.le_of_ble_eq_true rfl) ⟨Nat.le_refl _, Nat.le_refl _⟩ dX7_isKind_4) (fun H locs M => ?_)
  clear h1
  obtain ⟨c2, h⟩ := it_n h
  exact r_iret X M (nar_b c2) h dX7_isKind_7
/-- StreetNumbersModel.lays1(III)V -/
def f_X7_lays1 (x1 : Int32) (x2 : Int32) (x3 : Int32) (σ : St) : Rs :=
  if inb ((8 + (4 * x1)) + x2) 382 then (
  ol (st σ 67 ((8 + (4 * x1)) + x2).toNatClampNeg x3) fun σ2 => (
  some (0, σ2))) else none
set_option maxRecDepth 100000 in
set_option maxHeartbeats 4000000 in
theorem T_X7_lays1 {l : Launch} {Γ : Gm} {x1 : Int32} {x2 : Int32} {x3 : Int32} {σ : St} {r : Int32} {σ' : St} (h : f_X7_lays1 x1 x2 x3 σ = some (r, σ')) : MetV l yX7_lays1 cX7_lays1 4 1 Γ σ [.ref (Γ.1 66), .int x1, .int x2, .int x3] σ' := by
  intro sz
  refine met_in (by decide) (Nat.le_of_ble_eq_true rfl) (fun p e s m args below meth c ls X hsz M hl => ?_)
  subst hsz
  have X : Cx p s m args meth c cX7_lays1 RX7 4 none Γ := X
  have hl : lv_has ls 4 [(0, .ref (Γ.1 66)), (1, .int x1), (2, .int x2), (3, .int x3)] := hl
  unfold f_X7_lays1 at h
  refine lv_aload_n X.x X.b dX7_lays1_0 rfl (lv_at hl 0 rfl) ?_
  refine r_get X M hq_66 (el_66 _ _) rfl inX7 0 (by decide) q728 rfl rfl dX7_lays1_1 ?_
  refine lv_bipush (v := 8) X.x X.b dX7_lays1_4 (by decide) ?_
  refine lv_iconst (v := 4) X.x X.b dX7_lays1_6 (by decide) ?_
  refine lv_iload_n X.x X.b dX7_lays1_7 rfl (lv_at hl 1 rfl) ?_
  refine lv_imul X.x X.b dX7_lays1_8 ?_
  refine lv_iadd X.x X.b dX7_lays1_9 ?_
  refine lv_iload_n X.x X.b dX7_lays1_10 rfl (lv_at hl 2 rfl) ?_
  refine lv_iadd X.x X.b dX7_lays1_11 ?_
  refine lv_iload_n X.x X.b dX7_lays1_12 rfl (lv_at hl 3 rfl) ?_
  obtain ⟨c1, h⟩ := it_n h
  obtain ⟨σ2, e2, h⟩ := ol_e h
  refine r_iast (q := 67) (n := 382) X M rfl c1 dX7_lays1_13 (fun H locs M => ?_)
  rw [← e2] at M
  exact r_vret X M h dX7_lays1_14
/-- StreetNumbersModel.change1(II)I -/
def f_X7_change1 (x1 : Int32) (x2 : Int32) (σ : St) : Rs :=
  if inb x1 382 then (
  if inb x1 382 then (
  ol (st σ 67 x1.toNatClampNeg x2) fun σ3 => (
  some ((σ 67 x1.toNatClampNeg), σ3))) else none) else none
set_option maxRecDepth 100000 in
set_option maxHeartbeats 4000000 in
theorem T_X7_change1 {l : Launch} {Γ : Gm} {x1 : Int32} {x2 : Int32} {σ : St} {r : Int32} {σ' : St} (h : f_X7_change1 x1 x2 σ = some (r, σ')) : MetI l yX7_change1 cX7_change1 4 .int 1 Γ σ [.ref (Γ.1 66), .int x1, .int x2] r σ' := by
  intro sz
  refine met_in (by decide) (Nat.le_of_ble_eq_true rfl) (fun p e s m args below meth c ls X hsz M hl => ?_)
  subst hsz
  have X : Cx p s m args meth c cX7_change1 RX7 4 (some .int) Γ := X
  have hl : lv_has ls 4 [(0, .ref (Γ.1 66)), (1, .int x1), (2, .int x2)] := hl
  unfold f_X7_change1 at h
  refine lv_aload_n X.x X.b dX7_change1_0 rfl (lv_at hl 0 rfl) ?_
  refine r_get X M hq_66 (el_66 _ _) rfl inX7 0 (by decide) q728 rfl rfl dX7_change1_1 ?_
  refine lv_iload_n X.x X.b dX7_change1_4 rfl (lv_at hl 1 rfl) ?_
  obtain ⟨c1, h⟩ := it_n h
  refine r_iald (q := 67) (n := 382) X M rfl c1 dX7_change1_5 ?_
  refine lv_istore_n (lv' := [(3, .int (σ 67 x1.toNatClampNeg)), (0, .ref (Γ.1 66)), (1, .int x1), (2, .int x2)]) X.x X.b dX7_change1_6 rfl hl (by decide) rfl (fun ls hl => ?_)
  refine lv_aload_n X.x X.b dX7_change1_7 rfl (lv_at hl 1 rfl) ?_
  refine r_get X M hq_66 (el_66 _ _) rfl inX7 0 (by decide) q728 rfl rfl dX7_change1_8 ?_
  refine lv_iload_n X.x X.b dX7_change1_11 rfl (lv_at hl 2 rfl) ?_
  refine lv_iload_n X.x X.b dX7_change1_12 rfl (lv_at hl 3 rfl) ?_
  obtain ⟨c2, h⟩ := it_n h
  obtain ⟨σ3, e3, h⟩ := ol_e h
  refine r_iast (q := 67) (n := 382) X M rfl c2 dX7_change1_13 (fun H locs M => ?_)
  rw [← e3] at M
  refine lv_iload_n X.x X.b dX7_change1_14 rfl (lv_at hl 0 rfl) ?_
  exact r_iret X M rfl h dX7_change1_15
/-- StreetNumbersModel.become(II)I -/
def f_X7_become (x1 : Int32) (x2 : Int32) (σ : St) : Rs :=
  ob (f_X7_isHouse x1 σ) fun r1 σ1 => (
  if r1 = 0 then (
    ob (f_X7_error 1 σ1) fun r2 σ2 => (
    some (r2, σ2))
  ) else (
    ob (f_X7_isKind x2 σ1) fun r3 σ3 => (
    if r3 = 0 then (
      ob (f_X7_error 1 σ3) fun r6 σ6 => (
      some (r6, σ6))
    ) else (
      ob (f_X7_lays1 x1 1 (irm x2 10) σ3) fun _ σ4 => (
      ob (f_X7_change1 ((8 + (4 * x1)) + 0) (x2 / 10) σ4) fun r5 σ5 => (
      some (r5, σ5)))
    ))
  ))
set_option maxRecDepth 100000 in
set_option maxHeartbeats 4000000 in
theorem T_X7_become {l : Launch} {Γ : Gm} {x1 : Int32} {x2 : Int32} {σ : St} {r : Int32} {σ' : St} (h : f_X7_become x1 x2 σ = some (r, σ')) : MetI l yX7_become cX7_become 3 .int 3 Γ σ [.ref (Γ.1 66), .int x1, .int x2] r σ' := by
  intro sz
  refine met_in (by decide) (Nat.le_of_ble_eq_true rfl) (fun p e s m args below meth c ls X hsz M hl => ?_)
  subst hsz
  have X : Cx p s m args meth c cX7_become RX7 3 (some .int) Γ := X
  have hl : lv_has ls 3 [(0, .ref (Γ.1 66)), (1, .int x1), (2, .int x2)] := hl
  unfold f_X7_become at h
  refine lv_aload_n X.x X.b dX7_become_0 rfl (lv_at hl 0 rfl) ?_
  refine lv_iload_n X.x X.b dX7_become_1 rfl (lv_at hl 1 rfl) ?_
  obtain ⟨r1, σ1, h1, h⟩ := ob_e h
  refine r_runI M (r_callV (As := [.int x1]) X M (lv_sub hl [] rfl) (T_X7_isHouse h1 _) cal_X7_isHouse q886 ⟨by decide, by decide⟩ hq_66 (el_66 _ _) rfl rfl rfl (Nat.le_of_ble_eq_true rfl) ⟨Nat.le_refl _, Nat.le_refl _⟩ dX7_become_2) (fun H locs M => ?_)
  clear h1
  refine lv_if_eq (tgt := 15) X.x X.b dX7_become_5 (by decide) (fun c8 => ?_) (fun c8 => ?_)
  · have h := it_t c8 h
    refine lv_aload_n X.x X.b dX7_become_15 rfl (lv_at hl 0 rfl) ?_
    refine lv_iconst (v := 1) X.x X.b dX7_become_16 (by decide) ?_
    obtain ⟨r2, σ2, h2, h⟩ := ob_e h
    refine r_runI M (r_callV (As := [.int 1]) X M (lv_sub hl [] rfl) (T_X7_error h2 _) cal_X7_error q802 ⟨by decide, by decide⟩ hq_66 (el_66 _ _) rfl rfl rfl (Nat.le_of_ble_eq_true rfl) ⟨Nat.le_refl _, Nat.le_refl _⟩ dX7_become_17) (fun H locs M => ?_)
    clear h2
    exact r_iret X M rfl h dX7_become_20
  · have h := it_f c8 h
    refine lv_iload_n X.x X.b dX7_become_8 rfl (lv_at hl 2 rfl) ?_
    obtain ⟨r3, σ3, h3, h⟩ := ob_e h
    refine r_runI M (r_callS (As := [.int x2]) X M (lv_sub hl [] rfl) (T_X7_isKind h3 _) cal_X7_isKind q864 ⟨by decide, by decide⟩ rfl rfl (Nat.le_of_ble_eq_true rfl) ⟨Nat.le_refl _, Nat.le_refl _⟩ dX7_become_9) (fun H locs M => ?_)
    clear h3
    refine lv_if_ne (tgt := 21) X.x X.b dX7_become_12 (by decide) (fun c7 => ?_) (fun c7 => ?_)
    · have h := it_f c7 h
      refine lv_aload_n X.x X.b dX7_become_21 rfl (lv_at hl 0 rfl) ?_
      refine lv_iload_n X.x X.b dX7_become_22 rfl (lv_at hl 1 rfl) ?_
      refine lv_iconst (v := 1) X.x X.b dX7_become_23 (by decide) ?_
      refine lv_iload_n X.x X.b dX7_become_24 rfl (lv_at hl 2 rfl) ?_
      refine lv_bipush (v := 10) X.x X.b dX7_become_25 (by decide) ?_
      refine r_irem X dX7_become_27 (by decide) ?_
      obtain ⟨r4, σ4, h4, h⟩ := ob_e h
      refine r_runV M (r_callV (As := [.int x1, .int 1, .int (irm x2 10)]) X M (lv_sub hl [] rfl) (T_X7_lays1 h4 _) cal_X7_lays1 q878 ⟨by decide, by decide⟩ hq_66 (el_66 _ _) rfl rfl rfl (Nat.le_of_ble_eq_true rfl) ⟨Nat.le_refl _, Nat.le_refl _⟩ dX7_become_28) (fun H locs M => ?_)
      clear h4
      refine lv_aload_n X.x X.b dX7_become_31 rfl (lv_at hl 0 rfl) ?_
      refine lv_bipush (v := 8) X.x X.b dX7_become_32 (by decide) ?_
      refine lv_iconst (v := 4) X.x X.b dX7_become_34 (by decide) ?_
      refine lv_iload_n X.x X.b dX7_become_35 rfl (lv_at hl 1 rfl) ?_
      refine lv_imul X.x X.b dX7_become_36 ?_
      refine lv_iadd X.x X.b dX7_become_37 ?_
      refine lv_iconst (v := 0) X.x X.b dX7_become_38 (by decide) ?_
      refine lv_iadd X.x X.b dX7_become_39 ?_
      refine lv_iload_n X.x X.b dX7_become_40 rfl (lv_at hl 2 rfl) ?_
      refine lv_bipush (v := 10) X.x X.b dX7_become_41 (by decide) ?_
      refine lv_idiv X.x X.b dX7_become_43 (by decide) ?_
      obtain ⟨r5, σ5, h5, h⟩ := ob_e h
      refine r_runI M (r_callV (As := [.int ((8 + (4 * x1)) + 0), .int (x2 / 10)]) X M (lv_sub hl [] rfl) (T_X7_change1 h5 _) cal_X7_change1 q928 ⟨by decide, by decide⟩ hq_66 (el_66 _ _) rfl rfl rfl (Nat.le_of_ble_eq_true rfl) ⟨Nat.le_refl _, Nat.le_refl _⟩ dX7_become_44) (fun H locs M => ?_)
      clear h5
      exact r_iret X M rfl h dX7_become_47
    · have h := it_t c7 h
      refine lv_aload_n X.x X.b dX7_become_15 rfl (lv_at hl 0 rfl) ?_
      refine lv_iconst (v := 1) X.x X.b dX7_become_16 (by decide) ?_
      obtain ⟨r6, σ6, h6, h⟩ := ob_e h
      refine r_runI M (r_callV (As := [.int 1]) X M (lv_sub hl [] rfl) (T_X7_error h6 _) cal_X7_error q802 ⟨by decide, by decide⟩ hq_66 (el_66 _ _) rfl rfl rfl (Nat.le_of_ble_eq_true rfl) ⟨Nat.le_refl _, Nat.le_refl _⟩ dX7_become_17) (fun H locs M => ?_)
      clear h6
      exact r_iret X M rfl h dX7_become_20
def f_X7_at1_b2 (k2 : (Int32 → Int32 → St → Rs)) (x1 : Int32) (x2 : Int32) (σ : St) : Rs :=
  ob (f_X7_its x2 3 σ) fun r1 σ1 => (
  if r1 = x1 then (
    some (x2, σ1)
  ) else (
    k2 x1 (x2 + 1) σ1
  ))
set_option maxRecDepth 100000 in
set_option maxHeartbeats 4000000 in
theorem u_X7_at1_b2 {l : Launch} {Γ : Gm} {p : Program} {e : Env} {s : State} {m : MethodId} {args : Array Value} {below : List Frame} {meth : Method} {c : Code} {r : Int32} {σ' : St} {k2 : Int32 → Int32 → St → Rs} (X : Cx p s m args meth c cX7_at1 RX7 3 (some .int) Γ) (H2 : ∀ (x1 : Int32) (x2 : Int32) (σ : St) (H : Heap) (locs : List Loc) (ls : Array Slot), k2 x1 x2 σ = some (r, σ') → Mv Γ σ s H locs → lv_has ls 3 [(0, .ref (Γ.1 66)), (1, .int x1), (2, .int x2)] → W p l e (rmd 2) s m args below meth c H locs 0 0 (MQ below (Qi Γ r σ' s.heap.size) args s 0 0 (Rg Γ s.heap.size)) (F0 m 2 ls [])) (x1 : Int32) (x2 : Int32) (σ : St) (H : Heap) (locs : List Loc) (ls : Array Slot) (h : f_X7_at1_b2 k2 x1 x2 σ = some (r, σ')) (M : Mv Γ σ s H locs) (hl : lv_has ls 3 [(0, .ref (Γ.1 66)), (1, .int x1), (2, .int x2)]) : W p l e (rmd 2) s m args below meth c H locs 0 0 (MQ below (Qi Γ r σ' s.heap.size) args s 0 0 (Rg Γ s.heap.size)) (F0 m 2 ls []) := by
  unfold f_X7_at1_b2 at h
  refine lv_aload_n X.x X.b dX7_at1_2 rfl (lv_at hl 0 rfl) ?_
  refine lv_iload_n X.x X.b dX7_at1_3 rfl (lv_at hl 2 rfl) ?_
  refine lv_iconst (v := 3) X.x X.b dX7_at1_4 (by decide) ?_
  obtain ⟨r1, σ1, h1, h⟩ := ob_e h
  refine r_runI M (r_callV (As := [.int x2, .int 3]) X M (lv_sub hl [] rfl) (T_X7_its h1 _) cal_X7_its q874 ⟨by decide, by decide⟩ hq_66 (el_66 _ _) rfl rfl rfl (Nat.le_of_ble_eq_true rfl) ⟨Nat.le_refl _, Nat.le_refl _⟩ dX7_at1_5) (fun H locs M => ?_)
  clear h1
  refine lv_iload_n X.x X.b dX7_at1_8 rfl (lv_at hl 1 rfl) ?_
  refine lv_icmp_eq (tgt := 18) X.x X.b dX7_at1_9 (by decide) (fun c2 => ?_) (fun c2 => ?_)
  · have h := it_t c2 h
    refine lv_iload_n X.x X.b dX7_at1_18 rfl (lv_at hl 2 rfl) ?_
    exact r_iret X M rfl h dX7_at1_19
  · have h := it_f c2 h
    refine lv_iinc (v := (x2 + 1)) (lv' := [(2, .int (x2 + 1)), (0, .ref (Γ.1 66)), (1, .int x1)]) X.x X.b dX7_at1_12 hl (k := 2) rfl rfl (by decide) rfl (fun ls hl => ?_)
    refine lv_goto (tgt := 2) X.x X.b dX7_at1_15 (by decide) ?_
    exact H2 x1 (x2 + 1) σ1 _ _ _ h M (lv_sub hl [1, 2, 0] rfl)
def f_X7_at1_L2 : Nat → Int32 → Int32 → St → Rs
  | 0 => fun _ _ _ => none
  | n + 1 => fun x1 x2 σ => f_X7_at1_b2 (f_X7_at1_L2 n) x1 x2 σ
theorem u_X7_at1_L2 {l : Launch} {Γ : Gm} {p : Program} {e : Env} {s : State} {m : MethodId} {args : Array Value} {below : List Frame} {meth : Method} {c : Code} {r : Int32} {σ' : St} (X : Cx p s m args meth c cX7_at1 RX7 3 (some .int) Γ) : ∀ (n : Nat) (x1 : Int32) (x2 : Int32) (σ : St) (H : Heap) (locs : List Loc) (ls : Array Slot), f_X7_at1_L2 n x1 x2 σ = some (r, σ') → Mv Γ σ s H locs → lv_has ls 3 [(0, .ref (Γ.1 66)), (1, .int x1), (2, .int x2)] → W p l e (rmd 2) s m args below meth c H locs 0 0 (MQ below (Qi Γ r σ' s.heap.size) args s 0 0 (Rg Γ s.heap.size)) (F0 m 2 ls []) := by
  intro n
  induction n with
  | zero => intro x1 x2 σ H locs ls h; cases h
  | succ n ih => intro x1 x2 σ H locs ls h; exact u_X7_at1_b2 X  ih x1 x2 σ H locs ls h
/-- StreetNumbersModel.at1(I)I -/
def f_X7_at1 (x1 : Int32) (σ : St) : Rs :=
  f_X7_at1_L2 LF x1 0 σ
set_option maxRecDepth 100000 in
set_option maxHeartbeats 4000000 in
theorem T_X7_at1 {l : Launch} {Γ : Gm} {x1 : Int32} {σ : St} {r : Int32} {σ' : St} (h : f_X7_at1 x1 σ = some (r, σ')) : MetI l yX7_at1 cX7_at1 3 .int 2 Γ σ [.ref (Γ.1 66), .int x1] r σ' := by
  intro sz
  refine met_in (by decide) (Nat.le_of_ble_eq_true rfl) (fun p e s m args below meth c ls X hsz M hl => ?_)
  subst hsz
  have X : Cx p s m args meth c cX7_at1 RX7 3 (some .int) Γ := X
  have hl : lv_has ls 3 [(0, .ref (Γ.1 66)), (1, .int x1)] := hl
  unfold f_X7_at1 at h
  refine lv_iconst (v := 0) X.x X.b dX7_at1_0 (by decide) ?_
  refine lv_istore_n (lv' := [(2, .int 0), (0, .ref (Γ.1 66)), (1, .int x1)]) X.x X.b dX7_at1_1 rfl hl (by decide) rfl (fun ls hl => ?_)
  exact u_X7_at1_L2 X LF x1 0 σ _ _ _ h M (lv_sub hl [1, 2, 0] rfl)
def f_X7_goesBetween_b47 (x1 : Int32) (x2 : Int32) (y0 : Int32) (σ : St) : Rs :=
  if 2 ≤ (y0 - x2) then (
    if inb 5 382 then (
    if x1 = (σ 67 (5 : Int32).toNatClampNeg) then (
      some ((x2 + 1), σ)
    ) else (
      some ((x2 + ((y0 - x2) / 2)), σ)
    )) else none
  ) else (
    some ((-1), σ)
  )
set_option maxRecDepth 100000 in
set_option maxHeartbeats 4000000 in
theorem u_X7_goesBetween_b47 {l : Launch} {Γ : Gm} {p : Program} {e : Env} {s : State} {m : MethodId} {args : Array Value} {below : List Frame} {meth : Method} {c : Code} {r : Int32} {σ' : St} (X : Cx p s m args meth c cX7_goesBetween RX7 4 (some .int) Γ) (x1 : Int32) (x2 : Int32) (y0 : Int32) (σ : St) (H : Heap) (locs : List Loc) (ls : Array Slot) (h : f_X7_goesBetween_b47 x1 x2 y0 σ = some (r, σ')) (M : Mv Γ σ s H locs) (hl : lv_has ls 4 [(0, .ref (Γ.1 66)), (1, .int x1), (2, .int x2)]) : W p l e (rmd 3) s m args below meth c H locs 0 0 (MQ below (Qi Γ r σ' s.heap.size) args s 0 0 (Rg Γ s.heap.size)) (F0 m 47 ls [.int y0]) := by
  unfold f_X7_goesBetween_b47 at h
  refine lv_istore_n (lv' := [(3, .int y0), (0, .ref (Γ.1 66)), (1, .int x1), (2, .int x2)]) X.x X.b dX7_goesBetween_47 rfl hl (by decide) rfl (fun ls hl => ?_)
  refine lv_iload_n X.x X.b dX7_goesBetween_48 rfl (lv_at hl 0 rfl) ?_
  refine lv_iload_n X.x X.b dX7_goesBetween_49 rfl (lv_at hl 3 rfl) ?_
  refine lv_isub X.x X.b dX7_goesBetween_50 ?_
  refine lv_iconst (v := 2) X.x X.b dX7_goesBetween_51 (by decide) ?_
  refine lv_icmp_ge (tgt := 57) X.x X.b dX7_goesBetween_52 (by decide) (fun c3 => ?_) (fun c3 => ?_)
  · have h := it_t c3 h
    refine lv_iload_n X.x X.b dX7_goesBetween_57 rfl (lv_at hl 2 rfl) ?_
    refine lv_aload_n X.x X.b dX7_goesBetween_58 rfl (lv_at hl 1 rfl) ?_
    refine r_get X M hq_66 (el_66 _ _) rfl inX7 0 (by decide) q728 rfl rfl dX7_goesBetween_59 ?_
    refine lv_iconst (v := 5) X.x X.b dX7_goesBetween_62 (by decide) ?_
    obtain ⟨c1, h⟩ := it_n h
    refine r_iald (q := 67) (n := 382) X M rfl c1 dX7_goesBetween_63 ?_
    refine lv_icmp_ne (tgt := 73) X.x X.b dX7_goesBetween_64 (by decide) (fun c2 => ?_) (fun c2 => ?_)
    · have h := it_f c2 h
      refine lv_iload_n X.x X.b dX7_goesBetween_73 rfl (lv_at hl 3 rfl) ?_
      refine lv_iload_n X.x X.b dX7_goesBetween_74 rfl (lv_at hl 0 rfl) ?_
      refine lv_iload_n X.x X.b dX7_goesBetween_75 rfl (lv_at hl 3 rfl) ?_
      refine lv_isub X.x X.b dX7_goesBetween_76 ?_
      refine lv_iconst (v := 2) X.x X.b dX7_goesBetween_77 (by decide) ?_
      refine lv_idiv X.x X.b dX7_goesBetween_78 (by decide) ?_
      refine lv_iadd X.x X.b dX7_goesBetween_79 ?_
      exact r_iret X M rfl h dX7_goesBetween_80
    · have h := it_t c2 h
      refine lv_iload_n X.x X.b dX7_goesBetween_67 rfl (lv_at hl 3 rfl) ?_
      refine lv_iconst (v := 1) X.x X.b dX7_goesBetween_68 (by decide) ?_
      refine lv_iadd X.x X.b dX7_goesBetween_69 ?_
      refine lv_goto (tgt := 80) X.x X.b dX7_goesBetween_70 (by decide) ?_
      exact r_iret X M rfl h dX7_goesBetween_80
  · have h := it_f c3 h
    refine lv_iconst (v := (-1)) X.x X.b dX7_goesBetween_55 (by decide) ?_
    exact r_iret X M rfl h dX7_goesBetween_56
def f_X7_goesBetween_b20 (x1 : Int32) (y0 : Int32) (σ : St) : Rs :=
  if inb 5 382 then (
  if x1 = (σ 67 (5 : Int32).toNatClampNeg) then (
    f_X7_goesBetween_b47 x1 y0 1000 σ
  ) else (
    ob (f_X7_at1 x1 σ) fun r2 σ2 => (
    ob (f_X7_its r2 2 σ2) fun r3 σ3 => (
    f_X7_goesBetween_b47 x1 y0 r3 σ3))
  )) else none
set_option maxRecDepth 100000 in
set_option maxHeartbeats 4000000 in
theorem u_X7_goesBetween_b20 {l : Launch} {Γ : Gm} {p : Program} {e : Env} {s : State} {m : MethodId} {args : Array Value} {below : List Frame} {meth : Method} {c : Code} {r : Int32} {σ' : St} (X : Cx p s m args meth c cX7_goesBetween RX7 4 (some .int) Γ) (x1 : Int32) (y0 : Int32) (σ : St) (H : Heap) (locs : List Loc) (ls : Array Slot) (h : f_X7_goesBetween_b20 x1 y0 σ = some (r, σ')) (M : Mv Γ σ s H locs) (hl : lv_has ls 4 [(0, .ref (Γ.1 66)), (1, .int x1)]) : W p l e (rmd 3) s m args below meth c H locs 0 0 (MQ below (Qi Γ r σ' s.heap.size) args s 0 0 (Rg Γ s.heap.size)) (F0 m 20 ls [.int y0]) := by
  unfold f_X7_goesBetween_b20 at h
  refine lv_istore_n (lv' := [(2, .int y0), (0, .ref (Γ.1 66)), (1, .int x1)]) X.x X.b dX7_goesBetween_20 rfl hl (by decide) rfl (fun ls hl => ?_)
  refine lv_iload_n X.x X.b dX7_goesBetween_21 rfl (lv_at hl 2 rfl) ?_
  refine lv_aload_n X.x X.b dX7_goesBetween_22 rfl (lv_at hl 1 rfl) ?_
  refine r_get X M hq_66 (el_66 _ _) rfl inX7 0 (by decide) q728 rfl rfl dX7_goesBetween_23 ?_
  refine lv_iconst (v := 5) X.x X.b dX7_goesBetween_26 (by decide) ?_
  obtain ⟨c1, h⟩ := it_n h
  refine r_iald (q := 67) (n := 382) X M rfl c1 dX7_goesBetween_27 ?_
  refine lv_icmp_ne (tgt := 37) X.x X.b dX7_goesBetween_28 (by decide) (fun c4 => ?_) (fun c4 => ?_)
  · have h := it_f c4 h
    refine lv_aload_n X.x X.b dX7_goesBetween_37 rfl (lv_at hl 1 rfl) ?_
    refine lv_aload_n X.x X.b dX7_goesBetween_38 rfl (lv_at hl 1 rfl) ?_
    refine lv_iload_n X.x X.b dX7_goesBetween_39 rfl (lv_at hl 2 rfl) ?_
    obtain ⟨r2, σ2, h2, h⟩ := ob_e h
    refine r_runI M (r_callV (As := [.int x1]) X M (lv_sub hl [] rfl) (T_X7_at1 h2 _) cal_X7_at1 q920 ⟨by decide, by decide⟩ hq_66 (el_66 _ _) rfl rfl rfl (Nat.le_of_ble_eq_true rfl) ⟨Nat.le_refl _, Nat.le_refl _⟩ dX7_goesBetween_40) (fun H locs M => ?_)
    clear h2
    refine lv_iconst (v := 2) X.x X.b dX7_goesBetween_43 (by decide) ?_
    obtain ⟨r3, σ3, h3, h⟩ := ob_e h
    refine r_runI M (r_callV (As := [.int r2, .int 2]) X M (lv_sub hl [] rfl) (T_X7_its h3 _) cal_X7_its q874 ⟨by decide, by decide⟩ hq_66 (el_66 _ _) rfl rfl rfl (Nat.le_of_ble_eq_true rfl) ⟨Nat.le_refl _, Nat.le_refl _⟩ dX7_goesBetween_44) (fun H locs M => ?_)
    clear h3
    exact u_X7_goesBetween_b47 X x1 y0 r3 σ3 _ _ _ h M (lv_sub hl [1, 2, 0] rfl)
  · have h := it_t c4 h
    refine lv_sipush (v := 1000) X.x X.b dX7_goesBetween_31 (by decide) ?_
    refine lv_goto (tgt := 47) X.x X.b dX7_goesBetween_34 (by decide) ?_
    exact u_X7_goesBetween_b47 X x1 y0 1000 σ _ _ _ h M (lv_sub hl [1, 2, 0] rfl)
/-- StreetNumbersModel.goesBetween(I)I -/
def f_X7_goesBetween (x1 : Int32) (σ : St) : Rs :=
  if x1 = 0 then (
    f_X7_goesBetween_b20 x1 0 σ
  ) else (
    ob (f_X7_at1 (x1 - 1) σ) fun r1 σ1 => (
    ob (f_X7_its r1 2 σ1) fun r2 σ2 => (
    f_X7_goesBetween_b20 x1 r2 σ2))
  )
set_option maxRecDepth 100000 in
set_option maxHeartbeats 4000000 in
theorem T_X7_goesBetween {l : Launch} {Γ : Gm} {x1 : Int32} {σ : St} {r : Int32} {σ' : St} (h : f_X7_goesBetween x1 σ = some (r, σ')) : MetI l yX7_goesBetween cX7_goesBetween 4 .int 3 Γ σ [.ref (Γ.1 66), .int x1] r σ' := by
  intro sz
  refine met_in (by decide) (Nat.le_of_ble_eq_true rfl) (fun p e s m args below meth c ls X hsz M hl => ?_)
  subst hsz
  have X : Cx p s m args meth c cX7_goesBetween RX7 4 (some .int) Γ := X
  have hl : lv_has ls 4 [(0, .ref (Γ.1 66)), (1, .int x1)] := hl
  unfold f_X7_goesBetween at h
  refine lv_iload_n X.x X.b dX7_goesBetween_0 rfl (lv_at hl 1 rfl) ?_
  refine lv_if_ne (tgt := 8) X.x X.b dX7_goesBetween_1 (by decide) (fun c3 => ?_) (fun c3 => ?_)
  · have h := it_f c3 h
    refine lv_aload_n X.x X.b dX7_goesBetween_8 rfl (lv_at hl 0 rfl) ?_
    refine lv_aload_n X.x X.b dX7_goesBetween_9 rfl (lv_at hl 0 rfl) ?_
    refine lv_iload_n X.x X.b dX7_goesBetween_10 rfl (lv_at hl 1 rfl) ?_
    refine lv_iconst (v := 1) X.x X.b dX7_goesBetween_11 (by decide) ?_
    refine lv_isub X.x X.b dX7_goesBetween_12 ?_
    obtain ⟨r1, σ1, h1, h⟩ := ob_e h
    refine r_runI M (r_callV (As := [.int (x1 - 1)]) X M (lv_sub hl [] rfl) (T_X7_at1 h1 _) cal_X7_at1 q920 ⟨by decide, by decide⟩ hq_66 (el_66 _ _) rfl rfl rfl (Nat.le_of_ble_eq_true rfl) ⟨Nat.le_refl _, Nat.le_refl _⟩ dX7_goesBetween_13) (fun H locs M => ?_)
    clear h1
    refine lv_iconst (v := 2) X.x X.b dX7_goesBetween_16 (by decide) ?_
    obtain ⟨r2, σ2, h2, h⟩ := ob_e h
    refine r_runI M (r_callV (As := [.int r1, .int 2]) X M (lv_sub hl [] rfl) (T_X7_its h2 _) cal_X7_its q874 ⟨by decide, by decide⟩ hq_66 (el_66 _ _) rfl rfl rfl (Nat.le_of_ble_eq_true rfl) ⟨Nat.le_refl _, Nat.le_refl _⟩ dX7_goesBetween_17) (fun H locs M => ?_)
    clear h2
    exact u_X7_goesBetween_b20 X x1 r2 σ2 _ _ _ h M (lv_sub hl [0, 1] rfl)
  · have h := it_t c3 h
    refine lv_iconst (v := 0) X.x X.b dX7_goesBetween_4 (by decide) ?_
    refine lv_goto (tgt := 20) X.x X.b dX7_goesBetween_5 (by decide) ?_
    exact u_X7_goesBetween_b20 X x1 0 σ _ _ _ h M (lv_sub hl [0, 1] rfl)
/-- StreetNumbersModel.between(I)I -/
def f_X7_between (x1 : Int32) (σ : St) : Rs :=
  if inb 5 382 then (
  ob (f_X7_in x1 0 (σ 67 (5 : Int32).toNatClampNeg) σ) fun r2 σ2 => (
  if r2 = 0 then (
    ob (f_X7_error 1 σ2) fun r6 σ6 => (
    some (r6, σ6))
  ) else (
    ob (f_X7_goesBetween x1 σ2) fun r3 σ3 => (
    if r3 = (-1) then (
      ob (f_X7_error 2 σ3) fun r4 σ4 => (
      some (r4, σ4))
    ) else (
      some (r3, σ3)
    ))
  ))) else none
set_option maxRecDepth 100000 in
set_option maxHeartbeats 4000000 in
theorem T_X7_between {l : Launch} {Γ : Gm} {x1 : Int32} {σ : St} {r : Int32} {σ' : St} (h : f_X7_between x1 σ = some (r, σ')) : MetI l yX7_between cX7_between 3 .int 4 Γ σ [.ref (Γ.1 66), .int x1] r σ' := by
  intro sz
  refine met_in (by decide) (Nat.le_of_ble_eq_true rfl) (fun p e s m args below meth c ls X hsz M hl => ?_)
  subst hsz
  have X : Cx p s m args meth c cX7_between RX7 3 (some .int) Γ := X
  have hl : lv_has ls 3 [(0, .ref (Γ.1 66)), (1, .int x1)] := hl
  unfold f_X7_between at h
  refine lv_iload_n X.x X.b dX7_between_0 rfl (lv_at hl 1 rfl) ?_
  refine lv_iconst (v := 0) X.x X.b dX7_between_1 (by decide) ?_
  refine lv_aload_n X.x X.b dX7_between_2 rfl (lv_at hl 0 rfl) ?_
  refine r_get X M hq_66 (el_66 _ _) rfl inX7 0 (by decide) q728 rfl rfl dX7_between_3 ?_
  refine lv_iconst (v := 5) X.x X.b dX7_between_6 (by decide) ?_
  obtain ⟨c1, h⟩ := it_n h
  refine r_iald (q := 67) (n := 382) X M rfl c1 dX7_between_7 ?_
  obtain ⟨r2, σ2, h2, h⟩ := ob_e h
  refine r_runI M (r_callS (As := [.int x1, .int 0, .int (σ 67 (5 : Int32).toNatClampNeg)]) X M (lv_sub hl [] rfl) (T_X7_in h2 _) cal_X7_in q799 ⟨by decide, by decide⟩ rfl rfl (Nat.le_of_ble_eq_true rfl) ⟨Nat.le_refl _, Nat.le_refl _⟩ dX7_between_8) (fun H locs M => ?_)
  clear h2
  refine lv_if_ne (tgt := 20) X.x X.b dX7_between_11 (by decide) (fun c7 => ?_) (fun c7 => ?_)
  · have h := it_f c7 h
    refine lv_aload_n X.x X.b dX7_between_20 rfl (lv_at hl 0 rfl) ?_
    refine lv_iload_n X.x X.b dX7_between_21 rfl (lv_at hl 1 rfl) ?_
    obtain ⟨r3, σ3, h3, h⟩ := ob_e h
    refine r_runI M (r_callV (As := [.int x1]) X M (lv_sub hl [] rfl) (T_X7_goesBetween h3 _) cal_X7_goesBetween q1012 ⟨by decide, by decide⟩ hq_66 (el_66 _ _) rfl rfl rfl (Nat.le_of_ble_eq_true rfl) ⟨Nat.le_refl _, Nat.le_refl _⟩ dX7_between_22) (fun H locs M => ?_)
    clear h3
    refine lv_istore_n (lv' := [(2, .int r3), (0, .ref (Γ.1 66)), (1, .int x1)]) X.x X.b dX7_between_25 rfl hl (by decide) rfl (fun ls hl => ?_)
    refine lv_iload_n X.x X.b dX7_between_26 rfl (lv_at hl 0 rfl) ?_
    refine lv_iconst (v := (-1)) X.x X.b dX7_between_27 (by decide) ?_
    refine lv_icmp_ne (tgt := 39) X.x X.b dX7_between_28 (by decide) (fun c5 => ?_) (fun c5 => ?_)
    · have h := it_f c5 h
      refine lv_iload_n X.x X.b dX7_between_39 rfl (lv_at hl 0 rfl) ?_
      exact r_iret X M rfl h dX7_between_40
    · have h := it_t c5 h
      refine lv_aload_n X.x X.b dX7_between_31 rfl (lv_at hl 1 rfl) ?_
      refine lv_iconst (v := 2) X.x X.b dX7_between_32 (by decide) ?_
      obtain ⟨r4, σ4, h4, h⟩ := ob_e h
      refine r_runI M (r_callV (As := [.int 2]) X M (lv_sub hl [] rfl) (T_X7_error h4 _) cal_X7_error q802 ⟨by decide, by decide⟩ hq_66 (el_66 _ _) rfl rfl rfl (Nat.le_of_ble_eq_true rfl) ⟨Nat.le_refl _, Nat.le_refl _⟩ dX7_between_33) (fun H locs M => ?_)
      clear h4
      refine lv_goto (tgt := 40) X.x X.b dX7_between_36 (by decide) ?_
      exact r_iret X M rfl h dX7_between_40
  · have h := it_t c7 h
    refine lv_aload_n X.x X.b dX7_between_14 rfl (lv_at hl 0 rfl) ?_
    refine lv_iconst (v := 1) X.x X.b dX7_between_15 (by decide) ?_
    obtain ⟨r6, σ6, h6, h⟩ := ob_e h
    refine r_runI M (r_callV (As := [.int 1]) X M (lv_sub hl [] rfl) (T_X7_error h6 _) cal_X7_error q802 ⟨by decide, by decide⟩ hq_66 (el_66 _ _) rfl rfl rfl (Nat.le_of_ble_eq_true rfl) ⟨Nat.le_refl _, Nat.le_refl _⟩ dX7_between_16) (fun H locs M => ?_)
    clear h6
    exact r_iret X M rfl h dX7_between_19
/-- StreetNumbersModel.body(I)I -/
def f_X7_body (x1 : Int32) (σ : St) : Rs :=
  ob (f_X7_in x1 0 ((σ 66 14) - 1) σ) fun r1 σ1 => (
  if r1 = 0 then (
    ob (f_X7_error 2 σ1) fun r2 σ2 => (
    some (r2, σ2))
  ) else (
    if inb x1 30 then (
    some ((σ1 75 x1.toNatClampNeg), σ1)) else none
  ))
set_option maxRecDepth 100000 in
set_option maxHeartbeats 4000000 in
theorem T_X7_body {l : Launch} {Γ : Gm} {x1 : Int32} {σ : St} {r : Int32} {σ' : St} (h : f_X7_body x1 σ = some (r, σ')) : MetI l yX7_body cX7_body 2 .int 2 Γ σ [.ref (Γ.1 66), .int x1] r σ' := by
  intro sz
  refine met_in (by decide) (Nat.le_of_ble_eq_true rfl) (fun p e s m args below meth c ls X hsz M hl => ?_)
  subst hsz
  have X : Cx p s m args meth c cX7_body RX7 2 (some .int) Γ := X
  have hl : lv_has ls 2 [(0, .ref (Γ.1 66)), (1, .int x1)] := hl
  unfold f_X7_body at h
  refine lv_iload_n X.x X.b dX7_body_0 rfl (lv_at hl 1 rfl) ?_
  refine lv_iconst (v := 0) X.x X.b dX7_body_1 (by decide) ?_
  refine lv_aload_n X.x X.b dX7_body_2 rfl (lv_at hl 0 rfl) ?_
  refine r_get X M hq_66 (el_66 _ _) rfl inX7 14 (by decide) q742 rfl rfl dX7_body_3 ?_
  refine lv_iconst (v := 1) X.x X.b dX7_body_6 (by decide) ?_
  refine lv_isub X.x X.b dX7_body_7 ?_
  obtain ⟨r1, σ1, h1, h⟩ := ob_e h
  refine r_runI M (r_callS (As := [.int x1, .int 0, .int ((σ 66 14) - 1)]) X M (lv_sub hl [] rfl) (T_X7_in h1 _) cal_X7_in q799 ⟨by decide, by decide⟩ rfl rfl (Nat.le_of_ble_eq_true rfl) ⟨Nat.le_refl _, Nat.le_refl _⟩ dX7_body_8) (fun H locs M => ?_)
  clear h1
  refine lv_if_eq (tgt := 23) X.x X.b dX7_body_11 (by decide) (fun c4 => ?_) (fun c4 => ?_)
  · have h := it_t c4 h
    refine lv_aload_n X.x X.b dX7_body_23 rfl (lv_at hl 0 rfl) ?_
    refine lv_iconst (v := 2) X.x X.b dX7_body_24 (by decide) ?_
    obtain ⟨r2, σ2, h2, h⟩ := ob_e h
    refine r_runI M (r_callV (As := [.int 2]) X M (lv_sub hl [] rfl) (T_X7_error h2 _) cal_X7_error q802 ⟨by decide, by decide⟩ hq_66 (el_66 _ _) rfl rfl rfl (Nat.le_of_ble_eq_true rfl) ⟨Nat.le_refl _, Nat.le_refl _⟩ dX7_body_25) (fun H locs M => ?_)
    clear h2
    exact r_iret X M rfl h dX7_body_28
  · have h := it_f c4 h
    refine lv_aload_n X.x X.b dX7_body_14 rfl (lv_at hl 0 rfl) ?_
    refine r_get X M hq_66 (el_66 _ _) rfl inX7 15 (by decide) q743 rfl rfl dX7_body_15 ?_
    refine lv_iload_n X.x X.b dX7_body_18 rfl (lv_at hl 1 rfl) ?_
    obtain ⟨c3, h⟩ := it_n h
    refine r_iald (q := 75) (n := 30) X M rfl c3 dX7_body_19 ?_
    refine lv_goto (tgt := 28) X.x X.b dX7_body_20 (by decide) ?_
    exact r_iret X M rfl h dX7_body_28
/-- StreetNumbersModel.isNumber(I)Z -/
def f_X7_isNumber (x0 : Int32) (σ : St) : Rs :=
  ob (f_X7_in x0 1 999 σ) fun r1 σ1 => (
  if r1 = 0 ∨ r1 = 1 then some (r1, σ1) else none)
set_option maxRecDepth 100000 in
set_option maxHeartbeats 4000000 in
theorem T_X7_isNumber {l : Launch} {Γ : Gm} {x0 : Int32} {σ : St} {r : Int32} {σ' : St} (h : f_X7_isNumber x0 σ = some (r, σ')) : MetI l yX7_isNumber cX7_isNumber 1 .boolean 2 Γ σ [.int x0] r σ' := by
  intro sz
  refine met_in (by decide) (Nat.le_of_ble_eq_true rfl) (fun p e s m args below meth c ls X hsz M hl => ?_)
  subst hsz
  have X : Cx p s m args meth c cX7_isNumber RX7 1 (some .boolean) Γ := X
  have hl : lv_has ls 1 [(0, .int x0)] := hl
  unfold f_X7_isNumber at h
  refine lv_iload_n X.x X.b dX7_isNumber_0 rfl (lv_at hl 0 rfl) ?_
  refine lv_iconst (v := 1) X.x X.b dX7_isNumber_1 (by decide) ?_
  refine lv_sipush (v := 999) X.x X.b dX7_isNumber_2 (by decide) ?_
  obtain ⟨r1, σ1, h1, h⟩ := ob_e h
  refine r_runI M (r_callS (As := [.int x0, .int 1, .int 999]) X M (lv_sub hl [] rfl) (T_X7_in h1 _) cal_X7_in q799 ⟨by decide, by decide⟩ rfl rfl (Nat.le_of_ble_eq_true rfl) ⟨Nat.le_refl _, Nat.le_refl _⟩ dX7_isNumber_5) (fun H locs M => ?_)
  clear h1
  obtain ⟨c2, h⟩ := it_n h
  exact r_iret X M (nar_b c2) h dX7_isNumber_8
def f_X7_comes_b3 (k3 : (Int32 → Int32 → Int32 → Int32 → St → Rs)) (x1 : Int32) (x2 : Int32) (x3 : Int32) (x4 : Int32) (σ : St) : Rs :=
  if inb 5 382 then (
  if (σ 67 (5 : Int32).toNatClampNeg) ≤ x4 then (
    if inb 5 382 then (
    ob (f_X7_lays1 (σ 67 (5 : Int32).toNatClampNeg) 0 (x1 / 10) σ) fun _ σ3 => (
    ob (f_X7_lays1 (σ 67 (5 : Int32).toNatClampNeg) 1 (irm x1 10) σ3) fun _ σ4 => (
    ob (f_X7_lays1 (σ 67 (5 : Int32).toNatClampNeg) 2 x3 σ4) fun _ σ5 => (
    ob (f_X7_lays1 (σ 67 (5 : Int32).toNatClampNeg) 3 x2 σ5) fun _ σ6 => (
    if inb 5 382 then (
    if inb 5 382 then (
    ol (st σ6 67 (5 : Int32).toNatClampNeg ((σ6 67 (5 : Int32).toNatClampNeg) + 1)) fun σ9 => (
    some (0, σ9))) else none) else none))))) else none
  ) else (
    ob (f_X7_its x4 3 σ) fun r10 σ10 => (
    ob (f_X7_its x4 3 σ10) fun r11 σ11 => (
    if x2 ≤ r11 then (
      ob (f_X7_lays1 x4 3 (r10 + 1) σ11) fun _ σ12 => (
      k3 x1 x2 x3 (x4 + 1) σ12)
    ) else (
      ob (f_X7_lays1 x4 3 (r10 + 0) σ11) fun _ σ13 => (
      k3 x1 x2 x3 (x4 + 1) σ13)
    )))
  )) else none
set_option maxRecDepth 100000 in
set_option maxHeartbeats 4000000 in
theorem u_X7_comes_b3 {l : Launch} {Γ : Gm} {p : Program} {e : Env} {s : State} {m : MethodId} {args : Array Value} {below : List Frame} {meth : Method} {c : Code} {r : Int32} {σ' : St} {k3 : Int32 → Int32 → Int32 → Int32 → St → Rs} (X : Cx p s m args meth c cX7_comes RX7 5 none Γ) (H3 : ∀ (x1 : Int32) (x2 : Int32) (x3 : Int32) (x4 : Int32) (σ : St) (H : Heap) (locs : List Loc) (ls : Array Slot), k3 x1 x2 x3 x4 σ = some (r, σ') → Mv Γ σ s H locs → lv_has ls 5 [(0, .ref (Γ.1 66)), (1, .int x1), (2, .int x2), (3, .int x3), (4, .int x4)] → W p l e (rmd 2) s m args below meth c H locs 0 0 (MQ below (Qv Γ σ' s.heap.size) args s 0 0 (Rg Γ s.heap.size)) (F0 m 3 ls [])) (x1 : Int32) (x2 : Int32) (x3 : Int32) (x4 : Int32) (σ : St) (H : Heap) (locs : List Loc) (ls : Array Slot) (h : f_X7_comes_b3 k3 x1 x2 x3 x4 σ = some (r, σ')) (M : Mv Γ σ s H locs) (hl : lv_has ls 5 [(0, .ref (Γ.1 66)), (1, .int x1), (2, .int x2), (3, .int x3), (4, .int x4)]) : W p l e (rmd 2) s m args below meth c H locs 0 0 (MQ below (Qv Γ σ' s.heap.size) args s 0 0 (Rg Γ s.heap.size)) (F0 m 3 ls []) := by
  unfold f_X7_comes_b3 at h
  refine lv_iload X.x X.b dX7_comes_3 (lv_at hl 4 rfl) ?_
  refine lv_aload_n X.x X.b dX7_comes_5 rfl (lv_at hl 0 rfl) ?_
  refine r_get X M hq_66 (el_66 _ _) rfl inX7 0 (by decide) q728 rfl rfl dX7_comes_6 ?_
  refine lv_iconst (v := 5) X.x X.b dX7_comes_9 (by decide) ?_
  obtain ⟨c1, h⟩ := it_n h
  refine r_iald (q := 67) (n := 382) X M rfl c1 dX7_comes_10 ?_
  refine lv_icmp_ge (tgt := 51) X.x X.b dX7_comes_11 (by decide) (fun c15 => ?_) (fun c15 => ?_)
  · have h := it_t c15 h
    refine lv_aload_n X.x X.b dX7_comes_51 rfl (lv_at hl 0 rfl) ?_
    refine r_get X M hq_66 (el_66 _ _) rfl inX7 0 (by decide) q728 rfl rfl dX7_comes_52 ?_
    refine lv_iconst (v := 5) X.x X.b dX7_comes_55 (by decide) ?_
    obtain ⟨c2, h⟩ := it_n h
    refine r_iald (q := 67) (n := 382) X M rfl c2 dX7_comes_56 ?_
    refine lv_istore (lv' := [(4, .int (σ 67 (5 : Int32).toNatClampNeg)), (0, .ref (Γ.1 66)), (1, .int x1), (2, .int x2), (3, .int x3)]) X.x X.b dX7_comes_57 hl (by decide) rfl (fun ls hl => ?_)
    refine lv_aload_n X.x X.b dX7_comes_59 rfl (lv_at hl 1 rfl) ?_
    refine lv_iload X.x X.b dX7_comes_60 (lv_at hl 0 rfl) ?_
    refine lv_iconst (v := 0) X.x X.b dX7_comes_62 (by decide) ?_
    refine lv_iload_n X.x X.b dX7_comes_63 rfl (lv_at hl 2 rfl) ?_
    refine lv_bipush (v := 10) X.x X.b dX7_comes_64 (by decide) ?_
    refine lv_idiv X.x X.b dX7_comes_66 (by decide) ?_
    obtain ⟨r3, σ3, h3, h⟩ := ob_e h
    refine r_runV M (r_callV (As := [.int (σ 67 (5 : Int32).toNatClampNeg), .int 0, .int (x1 / 10)]) X M (lv_sub hl [] rfl) (T_X7_lays1 h3 _) cal_X7_lays1 q878 ⟨by decide, by decide⟩ hq_66 (el_66 _ _) rfl rfl rfl (Nat.le_of_ble_eq_true rfl) ⟨Nat.le_refl _, Nat.le_refl _⟩ dX7_comes_67) (fun H locs M => ?_)
    clear h3
    refine lv_aload_n X.x X.b dX7_comes_70 rfl (lv_at hl 1 rfl) ?_
    refine lv_iload X.x X.b dX7_comes_71 (lv_at hl 0 rfl) ?_
    refine lv_iconst (v := 1) X.x X.b dX7_comes_73 (by decide) ?_
    refine lv_iload_n X.x X.b dX7_comes_74 rfl (lv_at hl 2 rfl) ?_
    refine lv_bipush (v := 10) X.x X.b dX7_comes_75 (by decide) ?_
    refine r_irem X dX7_comes_77 (by decide) ?_
    obtain ⟨r4, σ4, h4, h⟩ := ob_e h
    refine r_runV M (r_callV (As := [.int (σ 67 (5 : Int32).toNatClampNeg), .int 1, .int (irm x1 10)]) X M (lv_sub hl [] rfl) (T_X7_lays1 h4 _) cal_X7_lays1 q878 ⟨by decide, by decide⟩ hq_66 (el_66 _ _) rfl rfl rfl (Nat.le_of_ble_eq_true rfl) ⟨Nat.le_refl _, Nat.le_refl _⟩ dX7_comes_78) (fun H locs M => ?_)
    clear h4
    refine lv_aload_n X.x X.b dX7_comes_81 rfl (lv_at hl 1 rfl) ?_
    refine lv_iload X.x X.b dX7_comes_82 (lv_at hl 0 rfl) ?_
    refine lv_iconst (v := 2) X.x X.b dX7_comes_84 (by decide) ?_
    refine lv_iload_n X.x X.b dX7_comes_85 rfl (lv_at hl 4 rfl) ?_
    obtain ⟨r5, σ5, h5, h⟩ := ob_e h
    refine r_runV M (r_callV (As := [.int (σ 67 (5 : Int32).toNatClampNeg), .int 2, .int x3]) X M (lv_sub hl [] rfl) (T_X7_lays1 h5 _) cal_X7_lays1 q878 ⟨by decide, by decide⟩ hq_66 (el_66 _ _) rfl rfl rfl (Nat.le_of_ble_eq_true rfl) ⟨Nat.le_refl _, Nat.le_refl _⟩ dX7_comes_86) (fun H locs M => ?_)
    clear h5
    refine lv_aload_n X.x X.b dX7_comes_89 rfl (lv_at hl 1 rfl) ?_
    refine lv_iload X.x X.b dX7_comes_90 (lv_at hl 0 rfl) ?_
    refine lv_iconst (v := 3) X.x X.b dX7_comes_92 (by decide) ?_
    refine lv_iload_n X.x X.b dX7_comes_93 rfl (lv_at hl 3 rfl) ?_
    obtain ⟨r6, σ6, h6, h⟩ := ob_e h
    refine r_runV M (r_callV (As := [.int (σ 67 (5 : Int32).toNatClampNeg), .int 3, .int x2]) X M (lv_sub hl [] rfl) (T_X7_lays1 h6 _) cal_X7_lays1 q878 ⟨by decide, by decide⟩ hq_66 (el_66 _ _) rfl rfl rfl (Nat.le_of_ble_eq_true rfl) ⟨Nat.le_refl _, Nat.le_refl _⟩ dX7_comes_94) (fun H locs M => ?_)
    clear h6
    refine lv_aload_n X.x X.b dX7_comes_97 rfl (lv_at hl 1 rfl) ?_
    refine r_get X M hq_66 (el_66 _ _) rfl inX7 0 (by decide) q728 rfl rfl dX7_comes_98 ?_
    refine lv_iconst (v := 5) X.x X.b dX7_comes_101 (by decide) ?_
    refine lv_dup2_11 X.x X.b dX7_comes_102 rfl rfl ?_
    obtain ⟨c7, h⟩ := it_n h
    refine r_iald (q := 67) (n := 382) X M rfl c7 dX7_comes_103 ?_
    refine lv_iconst (v := 1) X.x X.b dX7_comes_104 (by decide) ?_
    refine lv_iadd X.x X.b dX7_comes_105 ?_
    obtain ⟨c8, h⟩ := it_n h
    obtain ⟨σ9, e9, h⟩ := ol_e h
    refine r_iast (q := 67) (n := 382) X M rfl c8 dX7_comes_106 (fun H locs M => ?_)
    rw [← e9] at M
    exact r_vret X M h dX7_comes_107
  · have h := it_f c15 h
    refine lv_aload_n X.x X.b dX7_comes_14 rfl (lv_at hl 0 rfl) ?_
    refine lv_iload X.x X.b dX7_comes_15 (lv_at hl 4 rfl) ?_
    refine lv_iconst (v := 3) X.x X.b dX7_comes_17 (by decide) ?_
    refine lv_aload_n X.x X.b dX7_comes_18 rfl (lv_at hl 0 rfl) ?_
    refine lv_iload X.x X.b dX7_comes_19 (lv_at hl 4 rfl) ?_
    refine lv_iconst (v := 3) X.x X.b dX7_comes_21 (by decide) ?_
    obtain ⟨r10, σ10, h10, h⟩ := ob_e h
    refine r_runI M (r_callV (As := [.int x4, .int 3]) X M (lv_sub hl [] rfl) (T_X7_its h10 _) cal_X7_its q874 ⟨by decide, by decide⟩ hq_66 (el_66 _ _) rfl rfl rfl (Nat.le_of_ble_eq_true rfl) ⟨Nat.le_refl _, Nat.le_refl _⟩ dX7_comes_22) (fun H locs M => ?_)
    clear h10
    refine lv_aload_n X.x X.b dX7_comes_25 rfl (lv_at hl 0 rfl) ?_
    refine lv_iload X.x X.b dX7_comes_26 (lv_at hl 4 rfl) ?_
    refine lv_iconst (v := 3) X.x X.b dX7_comes_28 (by decide) ?_
    obtain ⟨r11, σ11, h11, h⟩ := ob_e h
    refine r_runI M (r_callV (As := [.int x4, .int 3]) X M (lv_sub hl [] rfl) (T_X7_its h11 _) cal_X7_its q874 ⟨by decide, by decide⟩ hq_66 (el_66 _ _) rfl rfl rfl (Nat.le_of_ble_eq_true rfl) ⟨Nat.le_refl _, Nat.le_refl _⟩ dX7_comes_29) (fun H locs M => ?_)
    clear h11
    refine lv_iload_n X.x X.b dX7_comes_32 rfl (lv_at hl 2 rfl) ?_
    refine lv_icmp_ge (tgt := 40) X.x X.b dX7_comes_33 (by decide) (fun c14 => ?_) (fun c14 => ?_)
    · have h := it_t c14 h
      refine lv_iconst (v := 1) X.x X.b dX7_comes_40 (by decide) ?_
      refine lv_iadd X.x X.b dX7_comes_41 ?_
      obtain ⟨r12, σ12, h12, h⟩ := ob_e h
      refine r_runV M (r_callV (As := [.int x4, .int 3, .int (r10 + 1)]) X M (lv_sub hl [] rfl) (T_X7_lays1 h12 _) cal_X7_lays1 q878 ⟨by decide, by decide⟩ hq_66 (el_66 _ _) rfl rfl rfl (Nat.le_of_ble_eq_true rfl) ⟨Nat.le_refl _, Nat.le_refl _⟩ dX7_comes_42) (fun H locs M => ?_)
      clear h12
      refine lv_iinc (v := (x4 + 1)) (lv' := [(4, .int (x4 + 1)), (0, .ref (Γ.1 66)), (1, .int x1), (2, .int x2), (3, .int x3)]) X.x X.b dX7_comes_45 hl (k := 4) rfl rfl (by decide) rfl (fun ls hl => ?_)
      refine lv_goto (tgt := 3) X.x X.b dX7_comes_48 (by decide) ?_
      exact H3 x1 x2 x3 (x4 + 1) σ12 _ _ _ h M (lv_sub hl [1, 2, 3, 4, 0] rfl)
    · have h := it_f c14 h
      refine lv_iconst (v := 0) X.x X.b dX7_comes_36 (by decide) ?_
      refine lv_goto (tgt := 41) X.x X.b dX7_comes_37 (by decide) ?_
      refine lv_iadd X.x X.b dX7_comes_41 ?_
      obtain ⟨r13, σ13, h13, h⟩ := ob_e h
      refine r_runV M (r_callV (As := [.int x4, .int 3, .int (r10 + 0)]) X M (lv_sub hl [] rfl) (T_X7_lays1 h13 _) cal_X7_lays1 q878 ⟨by decide, by decide⟩ hq_66 (el_66 _ _) rfl rfl rfl (Nat.le_of_ble_eq_true rfl) ⟨Nat.le_refl _, Nat.le_refl _⟩ dX7_comes_42) (fun H locs M => ?_)
      clear h13
      refine lv_iinc (v := (x4 + 1)) (lv' := [(4, .int (x4 + 1)), (0, .ref (Γ.1 66)), (1, .int x1), (2, .int x2), (3, .int x3)]) X.x X.b dX7_comes_45 hl (k := 4) rfl rfl (by decide) rfl (fun ls hl => ?_)
      refine lv_goto (tgt := 3) X.x X.b dX7_comes_48 (by decide) ?_
      exact H3 x1 x2 x3 (x4 + 1) σ13 _ _ _ h M (lv_sub hl [1, 2, 3, 4, 0] rfl)
def f_X7_comes_L3 : Nat → Int32 → Int32 → Int32 → Int32 → St → Rs
  | 0 => fun _ _ _ _ _ => none
  | n + 1 => fun x1 x2 x3 x4 σ => f_X7_comes_b3 (f_X7_comes_L3 n) x1 x2 x3 x4 σ
theorem u_X7_comes_L3 {l : Launch} {Γ : Gm} {p : Program} {e : Env} {s : State} {m : MethodId} {args : Array Value} {below : List Frame} {meth : Method} {c : Code} {r : Int32} {σ' : St} (X : Cx p s m args meth c cX7_comes RX7 5 none Γ) : ∀ (n : Nat) (x1 : Int32) (x2 : Int32) (x3 : Int32) (x4 : Int32) (σ : St) (H : Heap) (locs : List Loc) (ls : Array Slot), f_X7_comes_L3 n x1 x2 x3 x4 σ = some (r, σ') → Mv Γ σ s H locs → lv_has ls 5 [(0, .ref (Γ.1 66)), (1, .int x1), (2, .int x2), (3, .int x3), (4, .int x4)] → W p l e (rmd 2) s m args below meth c H locs 0 0 (MQ below (Qv Γ σ' s.heap.size) args s 0 0 (Rg Γ s.heap.size)) (F0 m 3 ls []) := by
  intro n
  induction n with
  | zero => intro x1 x2 x3 x4 σ H locs ls h; cases h
  | succ n ih => intro x1 x2 x3 x4 σ H locs ls h; exact u_X7_comes_b3 X  ih x1 x2 x3 x4 σ H locs ls h
/-- StreetNumbersModel.comes(III)V -/
def f_X7_comes (x1 : Int32) (x2 : Int32) (x3 : Int32) (σ : St) : Rs :=
  f_X7_comes_L3 LF x1 x2 x3 0 σ
set_option maxRecDepth 100000 in
set_option maxHeartbeats 4000000 in
theorem T_X7_comes {l : Launch} {Γ : Gm} {x1 : Int32} {x2 : Int32} {x3 : Int32} {σ : St} {r : Int32} {σ' : St} (h : f_X7_comes x1 x2 x3 σ = some (r, σ')) : MetV l yX7_comes cX7_comes 5 2 Γ σ [.ref (Γ.1 66), .int x1, .int x2, .int x3] σ' := by
  intro sz
  refine met_in (by decide) (Nat.le_of_ble_eq_true rfl) (fun p e s m args below meth c ls X hsz M hl => ?_)
  subst hsz
  have X : Cx p s m args meth c cX7_comes RX7 5 none Γ := X
  have hl : lv_has ls 5 [(0, .ref (Γ.1 66)), (1, .int x1), (2, .int x2), (3, .int x3)] := hl
  unfold f_X7_comes at h
  refine lv_iconst (v := 0) X.x X.b dX7_comes_0 (by decide) ?_
  refine lv_istore (lv' := [(4, .int 0), (0, .ref (Γ.1 66)), (1, .int x1), (2, .int x2), (3, .int x3)]) X.x X.b dX7_comes_1 hl (by decide) rfl (fun ls hl => ?_)
  exact u_X7_comes_L3 X LF x1 x2 x3 0 σ _ _ _ h M (lv_sub hl [1, 2, 3, 4, 0] rfl)
def f_X7_build_b28 (σ : St) : Rs :=
  ob (f_X7_error 1 σ) fun r1 σ1 => (
  some (r1, σ1))
set_option maxRecDepth 100000 in
set_option maxHeartbeats 4000000 in
theorem u_X7_build_b28 {l : Launch} {Γ : Gm} {p : Program} {e : Env} {s : State} {m : MethodId} {args : Array Value} {below : List Frame} {meth : Method} {c : Code} {r : Int32} {σ' : St} (X : Cx p s m args meth c cX7_build RX7 4 (some .int) Γ) (σ : St) (H : Heap) (locs : List Loc) (ls : Array Slot) (h : f_X7_build_b28 σ = some (r, σ')) (M : Mv Γ σ s H locs) (hl : lv_has ls 4 [(0, .ref (Γ.1 66))]) : W p l e (rmd 3) s m args below meth c H locs 0 0 (MQ below (Qi Γ r σ' s.heap.size) args s 0 0 (Rg Γ s.heap.size)) (F0 m 28 ls []) := by
  unfold f_X7_build_b28 at h
  refine lv_aload_n X.x X.b dX7_build_28 rfl (lv_at hl 0 rfl) ?_
  refine lv_iconst (v := 1) X.x X.b dX7_build_29 (by decide) ?_
  obtain ⟨r1, σ1, h1, h⟩ := ob_e h
  refine r_runI M (r_callV (As := [.int 1]) X M (lv_sub hl [] rfl) (T_X7_error h1 _) cal_X7_error q802 ⟨by decide, by decide⟩ hq_66 (el_66 _ _) rfl rfl rfl (Nat.le_of_ble_eq_true rfl) ⟨Nat.le_refl _, Nat.le_refl _⟩ dX7_build_30) (fun H locs M => ?_)
  clear h1
  exact r_iret X M rfl h dX7_build_33
/-- StreetNumbersModel.build(III)I -/
def f_X7_build (x1 : Int32) (x2 : Int32) (x3 : Int32) (σ : St) : Rs :=
  ob (f_X7_isKind x1 σ) fun r1 σ1 => (
  if r1 = 0 then (
    f_X7_build_b28 σ1
  ) else (
    if inb 5 382 then (
    ob (f_X7_in x2 0 (σ1 67 (5 : Int32).toNatClampNeg) σ1) fun r3 σ3 => (
    if r3 = 0 then (
      f_X7_build_b28 σ3
    ) else (
      ob (f_X7_isNumber x3 σ3) fun r4 σ4 => (
      if r4 = 0 then (
        f_X7_build_b28 σ4
      ) else (
        if inb 5 382 then (
        if (σ4 67 (5 : Int32).toNatClampNeg) = 10 then (
          ob (f_X7_error 4 σ4) fun r8 σ8 => (
          some (r8, σ8))
        ) else (
          ob (f_X7_comes x1 x2 x3 σ4) fun _ σ6 => (
          if inb 5 382 then (
          some (((σ6 67 (5 : Int32).toNatClampNeg) - 1), σ6)) else none)
        )) else none
      ))
    ))) else none
  ))
set_option maxRecDepth 100000 in
set_option maxHeartbeats 4000000 in
theorem T_X7_build {l : Launch} {Γ : Gm} {x1 : Int32} {x2 : Int32} {x3 : Int32} {σ : St} {r : Int32} {σ' : St} (h : f_X7_build x1 x2 x3 σ = some (r, σ')) : MetI l yX7_build cX7_build 4 .int 3 Γ σ [.ref (Γ.1 66), .int x1, .int x2, .int x3] r σ' := by
  intro sz
  refine met_in (by decide) (Nat.le_of_ble_eq_true rfl) (fun p e s m args below meth c ls X hsz M hl => ?_)
  subst hsz
  have X : Cx p s m args meth c cX7_build RX7 4 (some .int) Γ := X
  have hl : lv_has ls 4 [(0, .ref (Γ.1 66)), (1, .int x1), (2, .int x2), (3, .int x3)] := hl
  unfold f_X7_build at h
  refine lv_iload_n X.x X.b dX7_build_0 rfl (lv_at hl 1 rfl) ?_
  obtain ⟨r1, σ1, h1, h⟩ := ob_e h
  refine r_runI M (r_callS (As := [.int x1]) X M (lv_sub hl [] rfl) (T_X7_isKind h1 _) cal_X7_isKind q864 ⟨by decide, by decide⟩ rfl rfl (Nat.le_of_ble_eq_true rfl) ⟨Nat.le_refl _, Nat.le_refl _⟩ dX7_build_1) (fun H locs M => ?_)
  clear h1
  refine lv_if_eq (tgt := 28) X.x X.b dX7_build_4 (by decide) (fun c12 => ?_) (fun c12 => ?_)
  · have h := it_t c12 h
    exact u_X7_build_b28 X σ1 _ _ _ h M (lv_sub hl [0] rfl)
  · have h := it_f c12 h
    refine lv_iload_n X.x X.b dX7_build_7 rfl (lv_at hl 2 rfl) ?_
    refine lv_iconst (v := 0) X.x X.b dX7_build_8 (by decide) ?_
    refine lv_aload_n X.x X.b dX7_build_9 rfl (lv_at hl 0 rfl) ?_
    refine r_get X M hq_66 (el_66 _ _) rfl inX7 0 (by decide) q728 rfl rfl dX7_build_10 ?_
    refine lv_iconst (v := 5) X.x X.b dX7_build_13 (by decide) ?_
    obtain ⟨c2, h⟩ := it_n h
    refine r_iald (q := 67) (n := 382) X M rfl c2 dX7_build_14 ?_
    obtain ⟨r3, σ3, h3, h⟩ := ob_e h
    refine r_runI M (r_callS (As := [.int x2, .int 0, .int (σ1 67 (5 : Int32).toNatClampNeg)]) X M (lv_sub hl [] rfl) (T_X7_in h3 _) cal_X7_in q799 ⟨by decide, by decide⟩ rfl rfl (Nat.le_of_ble_eq_true rfl) ⟨Nat.le_refl _, Nat.le_refl _⟩ dX7_build_15) (fun H locs M => ?_)
    clear h3
    refine lv_if_eq (tgt := 28) X.x X.b dX7_build_18 (by decide) (fun c11 => ?_) (fun c11 => ?_)
    · have h := it_t c11 h
      exact u_X7_build_b28 X σ3 _ _ _ h M (lv_sub hl [0] rfl)
    · have h := it_f c11 h
      refine lv_iload_n X.x X.b dX7_build_21 rfl (lv_at hl 3 rfl) ?_
      obtain ⟨r4, σ4, h4, h⟩ := ob_e h
      refine r_runI M (r_callS (As := [.int x3]) X M (lv_sub hl [] rfl) (T_X7_isNumber h4 _) cal_X7_isNumber q867 ⟨by decide, by decide⟩ rfl rfl (Nat.le_of_ble_eq_true rfl) ⟨Nat.le_refl _, Nat.le_refl _⟩ dX7_build_22) (fun H locs M => ?_)
      clear h4
      refine lv_if_ne (tgt := 34) X.x X.b dX7_build_25 (by decide) (fun c10 => ?_) (fun c10 => ?_)
      · have h := it_f c10 h
        refine lv_aload_n X.x X.b dX7_build_34 rfl (lv_at hl 0 rfl) ?_
        refine r_get X M hq_66 (el_66 _ _) rfl inX7 0 (by decide) q728 rfl rfl dX7_build_35 ?_
        refine lv_iconst (v := 5) X.x X.b dX7_build_38 (by decide) ?_
        obtain ⟨c5, h⟩ := it_n h
        refine r_iald (q := 67) (n := 382) X M rfl c5 dX7_build_39 ?_
        refine lv_bipush (v := 10) X.x X.b dX7_build_40 (by decide) ?_
        refine lv_icmp_ne (tgt := 51) X.x X.b dX7_build_42 (by decide) (fun c9 => ?_) (fun c9 => ?_)
        · have h := it_f c9 h
          refine lv_aload_n X.x X.b dX7_build_51 rfl (lv_at hl 0 rfl) ?_
          refine lv_iload_n X.x X.b dX7_build_52 rfl (lv_at hl 1 rfl) ?_
          refine lv_iload_n X.x X.b dX7_build_53 rfl (lv_at hl 2 rfl) ?_
          refine lv_iload_n X.x X.b dX7_build_54 rfl (lv_at hl 3 rfl) ?_
          obtain ⟨r6, σ6, h6, h⟩ := ob_e h
          refine r_runV M (r_callV (As := [.int x1, .int x2, .int x3]) X M (lv_sub hl [] rfl) (T_X7_comes h6 _) cal_X7_comes q870 ⟨by decide, by decide⟩ hq_66 (el_66 _ _) rfl rfl rfl (Nat.le_of_ble_eq_true rfl) ⟨Nat.le_refl _, Nat.le_refl _⟩ dX7_build_55) (fun H locs M => ?_)
          clear h6
          refine lv_aload_n X.x X.b dX7_build_58 rfl (lv_at hl 0 rfl) ?_
          refine r_get X M hq_66 (el_66 _ _) rfl inX7 0 (by decide) q728 rfl rfl dX7_build_59 ?_
          refine lv_iconst (v := 5) X.x X.b dX7_build_62 (by decide) ?_
          obtain ⟨c7, h⟩ := it_n h
          refine r_iald (q := 67) (n := 382) X M rfl c7 dX7_build_63 ?_
          refine lv_iconst (v := 1) X.x X.b dX7_build_64 (by decide) ?_
          refine lv_isub X.x X.b dX7_build_65 ?_
          exact r_iret X M rfl h dX7_build_66
        · have h := it_t c9 h
          refine lv_aload_n X.x X.b dX7_build_45 rfl (lv_at hl 0 rfl) ?_
          refine lv_iconst (v := 4) X.x X.b dX7_build_46 (by decide) ?_
          obtain ⟨r8, σ8, h8, h⟩ := ob_e h
          refine r_runI M (r_callV (As := [.int 4]) X M (lv_sub hl [] rfl) (T_X7_error h8 _) cal_X7_error q802 ⟨by decide, by decide⟩ hq_66 (el_66 _ _) rfl rfl rfl (Nat.le_of_ble_eq_true rfl) ⟨Nat.le_refl _, Nat.le_refl _⟩ dX7_build_47) (fun H locs M => ?_)
          clear h8
          exact r_iret X M rfl h dX7_build_50
      · have h := it_t c10 h
        exact u_X7_build_b28 X σ4 _ _ _ h M (lv_sub hl [0] rfl)
def f_X7_check_b16 (k16 : (Int32 → Int32 → St → Rs)) (x1 : Int32) (x2 : Int32) (σ : St) : Rs :=
  if x1 ≤ x2 then (
    some (0, σ)
  ) else (
    ob (f_X7_isHouse x2 σ) fun r1 σ1 => (
    if r1 = 0 then (
      some ((1 + x2), σ1)
    ) else (
      if inb (358 + x2) 382 then (
      ob (f_X7_its x2 2 σ1) fun r3 σ3 => (
      if (σ1 67 (358 + x2).toNatClampNeg) = r3 then (
        k16 x1 (x2 + 1) σ3
      ) else (
        some ((1 + x2), σ3)
      ))) else none
    ))
  )
set_option maxRecDepth 100000 in
set_option maxHeartbeats 4000000 in
theorem u_X7_check_b16 {l : Launch} {Γ : Gm} {p : Program} {e : Env} {s : State} {m : MethodId} {args : Array Value} {below : List Frame} {meth : Method} {c : Code} {r : Int32} {σ' : St} {k16 : Int32 → Int32 → St → Rs} (X : Cx p s m args meth c cX7_check RX7 3 (some .int) Γ) (H16 : ∀ (x1 : Int32) (x2 : Int32) (σ : St) (H : Heap) (locs : List Loc) (ls : Array Slot), k16 x1 x2 σ = some (r, σ') → Mv Γ σ s H locs → lv_has ls 3 [(0, .ref (Γ.1 66)), (1, .int x1), (2, .int x2)] → W p l e (rmd 3) s m args below meth c H locs 0 0 (MQ below (Qi Γ r σ' s.heap.size) args s 0 0 (Rg Γ s.heap.size)) (F0 m 16 ls [])) (x1 : Int32) (x2 : Int32) (σ : St) (H : Heap) (locs : List Loc) (ls : Array Slot) (h : f_X7_check_b16 k16 x1 x2 σ = some (r, σ')) (M : Mv Γ σ s H locs) (hl : lv_has ls 3 [(0, .ref (Γ.1 66)), (1, .int x1), (2, .int x2)]) : W p l e (rmd 3) s m args below meth c H locs 0 0 (MQ below (Qi Γ r σ' s.heap.size) args s 0 0 (Rg Γ s.heap.size)) (F0 m 16 ls []) := by
  unfold f_X7_check_b16 at h
  refine lv_iload_n X.x X.b dX7_check_16 rfl (lv_at hl 2 rfl) ?_
  refine lv_iload_n X.x X.b dX7_check_17 rfl (lv_at hl 1 rfl) ?_
  refine lv_icmp_ge (tgt := 58) X.x X.b dX7_check_18 (by decide) (fun c6 => ?_) (fun c6 => ?_)
  · have h := it_t c6 h
    refine lv_iconst (v := 0) X.x X.b dX7_check_58 (by decide) ?_
    exact r_iret X M rfl h dX7_check_59
  · have h := it_f c6 h
    refine lv_aload_n X.x X.b dX7_check_21 rfl (lv_at hl 0 rfl) ?_
    refine lv_iload_n X.x X.b dX7_check_22 rfl (lv_at hl 2 rfl) ?_
    obtain ⟨r1, σ1, h1, h⟩ := ob_e h
    refine r_runI M (r_callV (As := [.int x2]) X M (lv_sub hl [] rfl) (T_X7_isHouse h1 _) cal_X7_isHouse q886 ⟨by decide, by decide⟩ hq_66 (el_66 _ _) rfl rfl rfl (Nat.le_of_ble_eq_true rfl) ⟨Nat.le_refl _, Nat.le_refl _⟩ dX7_check_23) (fun H locs M => ?_)
    clear h1
    refine lv_if_eq (tgt := 48) X.x X.b dX7_check_26 (by decide) (fun c5 => ?_) (fun c5 => ?_)
    · have h := it_t c5 h
      refine lv_iconst (v := 1) X.x X.b dX7_check_48 (by decide) ?_
      refine lv_iload_n X.x X.b dX7_check_49 rfl (lv_at hl 2 rfl) ?_
      refine lv_iadd X.x X.b dX7_check_50 ?_
      exact r_iret X M rfl h dX7_check_51
    · have h := it_f c5 h
      refine lv_aload_n X.x X.b dX7_check_29 rfl (lv_at hl 0 rfl) ?_
      refine r_get X M hq_66 (el_66 _ _) rfl inX7 0 (by decide) q728 rfl rfl dX7_check_30 ?_
      refine lv_sipush (v := 358) X.x X.b dX7_check_33 (by decide) ?_
      refine lv_iload_n X.x X.b dX7_check_36 rfl (lv_at hl 2 rfl) ?_
      refine lv_iadd X.x X.b dX7_check_37 ?_
      obtain ⟨c2, h⟩ := it_n h
      refine r_iald (q := 67) (n := 382) X M rfl c2 dX7_check_38 ?_
      refine lv_aload_n X.x X.b dX7_check_39 rfl (lv_at hl 0 rfl) ?_
      refine lv_iload_n X.x X.b dX7_check_40 rfl (lv_at hl 2 rfl) ?_
      refine lv_iconst (v := 2) X.x X.b dX7_check_41 (by decide) ?_
      obtain ⟨r3, σ3, h3, h⟩ := ob_e h
      refine r_runI M (r_callV (As := [.int x2, .int 2]) X M (lv_sub hl [] rfl) (T_X7_its h3 _) cal_X7_its q874 ⟨by decide, by decide⟩ hq_66 (el_66 _ _) rfl rfl rfl (Nat.le_of_ble_eq_true rfl) ⟨Nat.le_refl _, Nat.le_refl _⟩ dX7_check_42) (fun H locs M => ?_)
      clear h3
      refine lv_icmp_eq (tgt := 52) X.x X.b dX7_check_45 (by decide) (fun c4 => ?_) (fun c4 => ?_)
      · have h := it_t c4 h
        refine lv_iinc (v := (x2 + 1)) (lv' := [(2, .int (x2 + 1)), (0, .ref (Γ.1 66)), (1, .int x1)]) X.x X.b dX7_check_52 hl (k := 2) rfl rfl (by decide) rfl (fun ls hl => ?_)
        refine lv_goto (tgt := 16) X.x X.b dX7_check_55 (by decide) ?_
        exact H16 x1 (x2 + 1) σ3 _ _ _ h M (lv_sub hl [1, 2, 0] rfl)
      · have h := it_f c4 h
        refine lv_iconst (v := 1) X.x X.b dX7_check_48 (by decide) ?_
        refine lv_iload_n X.x X.b dX7_check_49 rfl (lv_at hl 2 rfl) ?_
        refine lv_iadd X.x X.b dX7_check_50 ?_
        exact r_iret X M rfl h dX7_check_51
def f_X7_check_L16 : Nat → Int32 → Int32 → St → Rs
  | 0 => fun _ _ _ => none
  | n + 1 => fun x1 x2 σ => f_X7_check_b16 (f_X7_check_L16 n) x1 x2 σ
theorem u_X7_check_L16 {l : Launch} {Γ : Gm} {p : Program} {e : Env} {s : State} {m : MethodId} {args : Array Value} {below : List Frame} {meth : Method} {c : Code} {r : Int32} {σ' : St} (X : Cx p s m args meth c cX7_check RX7 3 (some .int) Γ) : ∀ (n : Nat) (x1 : Int32) (x2 : Int32) (σ : St) (H : Heap) (locs : List Loc) (ls : Array Slot), f_X7_check_L16 n x1 x2 σ = some (r, σ') → Mv Γ σ s H locs → lv_has ls 3 [(0, .ref (Γ.1 66)), (1, .int x1), (2, .int x2)] → W p l e (rmd 3) s m args below meth c H locs 0 0 (MQ below (Qi Γ r σ' s.heap.size) args s 0 0 (Rg Γ s.heap.size)) (F0 m 16 ls []) := by
  intro n
  induction n with
  | zero => intro x1 x2 σ H locs ls h; cases h
  | succ n ih => intro x1 x2 σ H locs ls h; exact u_X7_check_b16 X  ih x1 x2 σ H locs ls h
/-- StreetNumbersModel.check()I -/
def f_X7_check (σ : St) : Rs :=
  if inb 4 382 then (
  if inb 4 382 then (
  ol (st σ 67 (4 : Int32).toNatClampNeg 0) fun σ3 => (
  f_X7_check_L16 LF (σ 67 (4 : Int32).toNatClampNeg) 0 σ3)) else none) else none
set_option maxRecDepth 100000 in
set_option maxHeartbeats 4000000 in
theorem T_X7_check {l : Launch} {Γ : Gm} {σ : St} {r : Int32} {σ' : St} (h : f_X7_check σ = some (r, σ')) : MetI l yX7_check cX7_check 3 .int 3 Γ σ [.ref (Γ.1 66)] r σ' := by
  intro sz
  refine met_in (by decide) (Nat.le_of_ble_eq_true rfl) (fun p e s m args below meth c ls X hsz M hl => ?_)
  subst hsz
  have X : Cx p s m args meth c cX7_check RX7 3 (some .int) Γ := X
  have hl : lv_has ls 3 [(0, .ref (Γ.1 66))] := hl
  unfold f_X7_check at h
  refine lv_aload_n X.x X.b dX7_check_0 rfl (lv_at hl 0 rfl) ?_
  refine r_get X M hq_66 (el_66 _ _) rfl inX7 0 (by decide) q728 rfl rfl dX7_check_1 ?_
  refine lv_iconst (v := 4) X.x X.b dX7_check_4 (by decide) ?_
  obtain ⟨c1, h⟩ := it_n h
  refine r_iald (q := 67) (n := 382) X M rfl c1 dX7_check_5 ?_
  refine lv_istore_n (lv' := [(1, .int (σ 67 (4 : Int32).toNatClampNeg)), (0, .ref (Γ.1 66))]) X.x X.b dX7_check_6 rfl hl (by decide) rfl (fun ls hl => ?_)
  refine lv_aload_n X.x X.b dX7_check_7 rfl (lv_at hl 1 rfl) ?_
  refine r_get X M hq_66 (el_66 _ _) rfl inX7 0 (by decide) q728 rfl rfl dX7_check_8 ?_
  refine lv_iconst (v := 4) X.x X.b dX7_check_11 (by decide) ?_
  refine lv_iconst (v := 0) X.x X.b dX7_check_12 (by decide) ?_
  obtain ⟨c2, h⟩ := it_n h
  obtain ⟨σ3, e3, h⟩ := ol_e h
  refine r_iast (q := 67) (n := 382) X M rfl c2 dX7_check_13 (fun H locs M => ?_)
  rw [← e3] at M
  refine lv_iconst (v := 0) X.x X.b dX7_check_14 (by decide) ?_
  refine lv_istore_n (lv' := [(2, .int 0), (1, .int (σ 67 (4 : Int32).toNatClampNeg)), (0, .ref (Γ.1 66))]) X.x X.b dX7_check_15 rfl hl (by decide) rfl (fun ls hl => ?_)
  exact u_X7_check_L16 X LF (σ 67 (4 : Int32).toNatClampNeg) 0 σ3 _ _ _ h M (lv_sub hl [2, 1, 0] rfl)
/-- StreetNumbersModel.count(I)I -/
def f_X7_count (x1 : Int32) (σ : St) : Rs :=
  if x1 = 0 then (
    if inb 5 382 then (
    some ((σ 67 (5 : Int32).toNatClampNeg), σ)) else none
  ) else (
  if x1 = 1 then (
    if inb 0 382 then (
    some ((σ 67 (0 : Int32).toNatClampNeg), σ)) else none
  ) else (
  if x1 = 2 then (
    if inb 1 382 then (
    some ((σ 67 (1 : Int32).toNatClampNeg), σ)) else none
  ) else (
  if x1 = 3 then (
    if inb 3 382 then (
    some ((σ 67 (3 : Int32).toNatClampNeg), σ)) else none
  ) else (
  if x1 = 4 then (
    if inb 4 382 then (
    some ((σ 67 (4 : Int32).toNatClampNeg), σ)) else none
  ) else (
  if x1 = 5 then (
    some ((σ 66 14), σ)
  ) else (
  if x1 = 6 then (
    if inb 2 382 then (
    some ((σ 67 (2 : Int32).toNatClampNeg), σ)) else none
  ) else (
    ob (f_X7_error 1 σ) fun r14 σ14 => (
    some (r14, σ14))
  )))))))
set_option maxRecDepth 100000 in
set_option maxHeartbeats 4000000 in
theorem T_X7_count {l : Launch} {Γ : Gm} {x1 : Int32} {σ : St} {r : Int32} {σ' : St} (h : f_X7_count x1 σ = some (r, σ')) : MetI l yX7_count cX7_count 2 .int 2 Γ σ [.ref (Γ.1 66), .int x1] r σ' := by
  intro sz
  refine met_in (by decide) (Nat.le_of_ble_eq_true rfl) (fun p e s m args below meth c ls X hsz M hl => ?_)
  subst hsz
  have X : Cx p s m args meth c cX7_count RX7 2 (some .int) Γ := X
  have hl : lv_has ls 2 [(0, .ref (Γ.1 66)), (1, .int x1)] := hl
  unfold f_X7_count at h
  refine lv_iload_n X.x X.b dX7_count_0 rfl (lv_at hl 1 rfl) ?_
  by_cases c1 : x1 = 0
  · have h := it_t c1 h
    refine lv_tableIn (tgt := 44) X.x X.b dX7_count_1 (by rw [c1]; decide) (by rw [c1]; decide) (by first | (rw [c1]; done) | (rw [c1]; rfl)) (by decide) ?_
    refine lv_aload_n X.x X.b dX7_count_44 rfl (lv_at hl 0 rfl) ?_
    refine r_get X M hq_66 (el_66 _ _) rfl inX7 0 (by decide) q728 rfl rfl dX7_count_45 ?_
    refine lv_iconst (v := 5) X.x X.b dX7_count_48 (by decide) ?_
    obtain ⟨c2, h⟩ := it_n h
    refine r_iald (q := 67) (n := 382) X M rfl c2 dX7_count_49 ?_
    exact r_iret X M rfl h dX7_count_50
  have h := it_f c1 h
  by_cases c3 : x1 = 1
  · have h := it_t c3 h
    refine lv_tableIn (tgt := 51) X.x X.b dX7_count_1 (by rw [c3]; decide) (by rw [c3]; decide) (by first | (rw [c3]; done) | (rw [c3]; rfl)) (by decide) ?_
    refine lv_aload_n X.x X.b dX7_count_51 rfl (lv_at hl 0 rfl) ?_
    refine r_get X M hq_66 (el_66 _ _) rfl inX7 0 (by decide) q728 rfl rfl dX7_count_52 ?_
    refine lv_iconst (v := 0) X.x X.b dX7_count_55 (by decide) ?_
    obtain ⟨c4, h⟩ := it_n h
    refine r_iald (q := 67) (n := 382) X M rfl c4 dX7_count_56 ?_
    exact r_iret X M rfl h dX7_count_57
  have h := it_f c3 h
  by_cases c5 : x1 = 2
  · have h := it_t c5 h
    refine lv_tableIn (tgt := 58) X.x X.b dX7_count_1 (by rw [c5]; decide) (by rw [c5]; decide) (by first | (rw [c5]; done) | (rw [c5]; rfl)) (by decide) ?_
    refine lv_aload_n X.x X.b dX7_count_58 rfl (lv_at hl 0 rfl) ?_
    refine r_get X M hq_66 (el_66 _ _) rfl inX7 0 (by decide) q728 rfl rfl dX7_count_59 ?_
    refine lv_iconst (v := 1) X.x X.b dX7_count_62 (by decide) ?_
    obtain ⟨c6, h⟩ := it_n h
    refine r_iald (q := 67) (n := 382) X M rfl c6 dX7_count_63 ?_
    exact r_iret X M rfl h dX7_count_64
  have h := it_f c5 h
  by_cases c7 : x1 = 3
  · have h := it_t c7 h
    refine lv_tableIn (tgt := 65) X.x X.b dX7_count_1 (by rw [c7]; decide) (by rw [c7]; decide) (by first | (rw [c7]; done) | (rw [c7]; rfl)) (by decide) ?_
    refine lv_aload_n X.x X.b dX7_count_65 rfl (lv_at hl 0 rfl) ?_
    refine r_get X M hq_66 (el_66 _ _) rfl inX7 0 (by decide) q728 rfl rfl dX7_count_66 ?_
    refine lv_iconst (v := 3) X.x X.b dX7_count_69 (by decide) ?_
    obtain ⟨c8, h⟩ := it_n h
    refine r_iald (q := 67) (n := 382) X M rfl c8 dX7_count_70 ?_
    exact r_iret X M rfl h dX7_count_71
  have h := it_f c7 h
  by_cases c9 : x1 = 4
  · have h := it_t c9 h
    refine lv_tableIn (tgt := 72) X.x X.b dX7_count_1 (by rw [c9]; decide) (by rw [c9]; decide) (by first | (rw [c9]; done) | (rw [c9]; rfl)) (by decide) ?_
    refine lv_aload_n X.x X.b dX7_count_72 rfl (lv_at hl 0 rfl) ?_
    refine r_get X M hq_66 (el_66 _ _) rfl inX7 0 (by decide) q728 rfl rfl dX7_count_73 ?_
    refine lv_iconst (v := 4) X.x X.b dX7_count_76 (by decide) ?_
    obtain ⟨c10, h⟩ := it_n h
    refine r_iald (q := 67) (n := 382) X M rfl c10 dX7_count_77 ?_
    exact r_iret X M rfl h dX7_count_78
  have h := it_f c9 h
  by_cases c11 : x1 = 5
  · have h := it_t c11 h
    refine lv_tableIn (tgt := 79) X.x X.b dX7_count_1 (by rw [c11]; decide) (by rw [c11]; decide) (by first | (rw [c11]; done) | (rw [c11]; rfl)) (by decide) ?_
    refine lv_aload_n X.x X.b dX7_count_79 rfl (lv_at hl 0 rfl) ?_
    refine r_get X M hq_66 (el_66 _ _) rfl inX7 14 (by decide) q742 rfl rfl dX7_count_80 ?_
    exact r_iret X M rfl h dX7_count_83
  have h := it_f c11 h
  by_cases c12 : x1 = 6
  · have h := it_t c12 h
    refine lv_tableIn (tgt := 84) X.x X.b dX7_count_1 (by rw [c12]; decide) (by rw [c12]; decide) (by first | (rw [c12]; done) | (rw [c12]; rfl)) (by decide) ?_
    refine lv_aload_n X.x X.b dX7_count_84 rfl (lv_at hl 0 rfl) ?_
    refine r_get X M hq_66 (el_66 _ _) rfl inX7 0 (by decide) q728 rfl rfl dX7_count_85 ?_
    refine lv_iconst (v := 2) X.x X.b dX7_count_88 (by decide) ?_
    obtain ⟨c13, h⟩ := it_n h
    refine r_iald (q := 67) (n := 382) X M rfl c13 dX7_count_89 ?_
    exact r_iret X M rfl h dX7_count_90
  have h := it_f c12 h
  have c1z := lv_neT c1 (show (0 : Int32).toInt = 0 by decide)
  have c3z := lv_neT c3 (show (1 : Int32).toInt = 1 by decide)
  have c5z := lv_neT c5 (show (2 : Int32).toInt = 2 by decide)
  have c7z := lv_neT c7 (show (3 : Int32).toInt = 3 by decide)
  have c9z := lv_neT c9 (show (4 : Int32).toInt = 4 by decide)
  have c11z := lv_neT c11 (show (5 : Int32).toInt = 5 by decide)
  have c12z := lv_neT c12 (show (6 : Int32).toInt = 6 by decide)
  refine lv_tableOut (tgt := 91) X.x X.b dX7_count_1 (by omega) (by decide) ?_
  refine lv_aload_n X.x X.b dX7_count_91 rfl (lv_at hl 0 rfl) ?_
  refine lv_iconst (v := 1) X.x X.b dX7_count_92 (by decide) ?_
  obtain ⟨r14, σ14, h14, h⟩ := ob_e h
  refine r_runI M (r_callV (As := [.int 1]) X M (lv_sub hl [] rfl) (T_X7_error h14 _) cal_X7_error q802 ⟨by decide, by decide⟩ hq_66 (el_66 _ _) rfl rfl rfl (Nat.le_of_ble_eq_true rfl) ⟨Nat.le_refl _, Nat.le_refl _⟩ dX7_count_93) (fun H locs M => ?_)
  clear h14
  exact r_iret X M rfl h dX7_count_96
def f_X7_feed_b38 (k38 : (Int64 → Int32 → Int32 → St → Rs)) (x1 : Int64) (x3 : Int32) (x4 : Int32) (σ : St) : Rs :=
  if x3 ≤ x4 then (
    if inb 3 382 then (
    some ((σ 67 (3 : Int32).toNatClampNeg), σ)) else none
  ) else (
    if inb 3 382 then (
    if inb (298 + (σ 67 (3 : Int32).toNatClampNeg)) 382 then (
    ol (st σ 67 (298 + (σ 67 (3 : Int32).toNatClampNeg)).toNatClampNeg (((lshr x1 (8 * x4)) &&& 255).toInt32)) fun σ4 => (
    if inb 3 382 then (
    if inb 3 382 then (
    ol (st σ4 67 (3 : Int32).toNatClampNeg ((σ4 67 (3 : Int32).toNatClampNeg) + 1)) fun σ7 => (
    k38 x1 x3 (x4 + 1) σ7)) else none) else none)) else none) else none
  )
set_option maxRecDepth 100000 in
set_option maxHeartbeats 4000000 in
theorem u_X7_feed_b38 {l : Launch} {Γ : Gm} {p : Program} {e : Env} {s : State} {m : MethodId} {args : Array Value} {below : List Frame} {meth : Method} {c : Code} {r : Int32} {σ' : St} {k38 : Int64 → Int32 → Int32 → St → Rs} (X : Cx p s m args meth c cX7_feed RX7 5 (some .int) Γ) (H38 : ∀ (x1 : Int64) (x3 : Int32) (x4 : Int32) (σ : St) (H : Heap) (locs : List Loc) (ls : Array Slot), k38 x1 x3 x4 σ = some (r, σ') → Mv Γ σ s H locs → lv_has ls 5 [(0, .ref (Γ.1 66)), (1, .long x1), (3, .int x3), (4, .int x4)] → W p l e (rmd 2) s m args below meth c H locs 0 0 (MQ below (Qi Γ r σ' s.heap.size) args s 0 0 (Rg Γ s.heap.size)) (F0 m 38 ls [])) (x1 : Int64) (x3 : Int32) (x4 : Int32) (σ : St) (H : Heap) (locs : List Loc) (ls : Array Slot) (h : f_X7_feed_b38 k38 x1 x3 x4 σ = some (r, σ')) (M : Mv Γ σ s H locs) (hl : lv_has ls 5 [(0, .ref (Γ.1 66)), (1, .long x1), (3, .int x3), (4, .int x4)]) : W p l e (rmd 2) s m args below meth c H locs 0 0 (MQ below (Qi Γ r σ' s.heap.size) args s 0 0 (Rg Γ s.heap.size)) (F0 m 38 ls []) := by
  unfold f_X7_feed_b38 at h
  refine lv_iload X.x X.b dX7_feed_38 (lv_at hl 3 rfl) ?_
  refine lv_iload_n X.x X.b dX7_feed_40 rfl (lv_at hl 2 rfl) ?_
  refine lv_icmp_ge (tgt := 87) X.x X.b dX7_feed_41 (by decide) (fun c8 => ?_) (fun c8 => ?_)
  · have h := it_t c8 h
    refine lv_aload_n X.x X.b dX7_feed_87 rfl (lv_at hl 0 rfl) ?_
    refine r_get X M hq_66 (el_66 _ _) rfl inX7 0 (by decide) q728 rfl rfl dX7_feed_88 ?_
    refine lv_iconst (v := 3) X.x X.b dX7_feed_91 (by decide) ?_
    obtain ⟨c1, h⟩ := it_n h
    refine r_iald (q := 67) (n := 382) X M rfl c1 dX7_feed_92 ?_
    exact r_iret X M rfl h dX7_feed_93
  · have h := it_f c8 h
    refine lv_aload_n X.x X.b dX7_feed_44 rfl (lv_at hl 0 rfl) ?_
    refine r_get X M hq_66 (el_66 _ _) rfl inX7 0 (by decide) q728 rfl rfl dX7_feed_45 ?_
    refine lv_sipush (v := 298) X.x X.b dX7_feed_48 (by decide) ?_
    refine lv_aload_n X.x X.b dX7_feed_51 rfl (lv_at hl 0 rfl) ?_
    refine r_get X M hq_66 (el_66 _ _) rfl inX7 0 (by decide) q728 rfl rfl dX7_feed_52 ?_
    refine lv_iconst (v := 3) X.x X.b dX7_feed_55 (by decide) ?_
    obtain ⟨c2, h⟩ := it_n h
    refine r_iald (q := 67) (n := 382) X M rfl c2 dX7_feed_56 ?_
    refine lv_iadd X.x X.b dX7_feed_57 ?_
    refine lv_lload_n X.x X.b dX7_feed_58 rfl (lv_at hl 1 rfl) ?_
    refine lv_bipush (v := 8) X.x X.b dX7_feed_59 (by decide) ?_
    refine lv_iload X.x X.b dX7_feed_61 (lv_at hl 3 rfl) ?_
    refine lv_imul X.x X.b dX7_feed_63 ?_
    refine lv_lshr (v := (lshr x1 (8 * x4))) X.x X.b dX7_feed_64 rfl ?_
    refine lv_ldc2 (v := 255) X.x X.b X.ow (X.ts _ q807) dX7_feed_65 ?_
    refine lv_land X.x X.b dX7_feed_68 ?_
    refine lv_l2i (v := (((lshr x1 (8 * x4)) &&& 255).toInt32)) X.x X.b dX7_feed_69 rfl ?_
    obtain ⟨c3, h⟩ := it_n h
    obtain ⟨σ4, e4, h⟩ := ol_e h
    refine r_iast (q := 67) (n := 382) X M rfl c3 dX7_feed_70 (fun H locs M => ?_)
    rw [← e4] at M
    refine lv_aload_n X.x X.b dX7_feed_71 rfl (lv_at hl 0 rfl) ?_
    refine r_get X M hq_66 (el_66 _ _) rfl inX7 0 (by decide) q728 rfl rfl dX7_feed_72 ?_
    refine lv_iconst (v := 3) X.x X.b dX7_feed_75 (by decide) ?_
    refine lv_dup2_11 X.x X.b dX7_feed_76 rfl rfl ?_
    obtain ⟨c5, h⟩ := it_n h
    refine r_iald (q := 67) (n := 382) X M rfl c5 dX7_feed_77 ?_
    refine lv_iconst (v := 1) X.x X.b dX7_feed_78 (by decide) ?_
    refine lv_iadd X.x X.b dX7_feed_79 ?_
    obtain ⟨c6, h⟩ := it_n h
    obtain ⟨σ7, e7, h⟩ := ol_e h
    refine r_iast (q := 67) (n := 382) X M rfl c6 dX7_feed_80 (fun H locs M => ?_)
    rw [← e7] at M
    refine lv_iinc (v := (x4 + 1)) (lv' := [(4, .int (x4 + 1)), (0, .ref (Γ.1 66)), (1, .long x1), (3, .int x3)]) X.x X.b dX7_feed_81 hl (k := 3) rfl rfl (by decide) rfl (fun ls hl => ?_)
    refine lv_goto (tgt := 38) X.x X.b dX7_feed_84 (by decide) ?_
    exact H38 x1 x3 (x4 + 1) σ7 _ _ _ h M (lv_sub hl [1, 2, 3, 0] rfl)
def f_X7_feed_L38 : Nat → Int64 → Int32 → Int32 → St → Rs
  | 0 => fun _ _ _ _ => none
  | n + 1 => fun x1 x3 x4 σ => f_X7_feed_b38 (f_X7_feed_L38 n) x1 x3 x4 σ
theorem u_X7_feed_L38 {l : Launch} {Γ : Gm} {p : Program} {e : Env} {s : State} {m : MethodId} {args : Array Value} {below : List Frame} {meth : Method} {c : Code} {r : Int32} {σ' : St} (X : Cx p s m args meth c cX7_feed RX7 5 (some .int) Γ) : ∀ (n : Nat) (x1 : Int64) (x3 : Int32) (x4 : Int32) (σ : St) (H : Heap) (locs : List Loc) (ls : Array Slot), f_X7_feed_L38 n x1 x3 x4 σ = some (r, σ') → Mv Γ σ s H locs → lv_has ls 5 [(0, .ref (Γ.1 66)), (1, .long x1), (3, .int x3), (4, .int x4)] → W p l e (rmd 2) s m args below meth c H locs 0 0 (MQ below (Qi Γ r σ' s.heap.size) args s 0 0 (Rg Γ s.heap.size)) (F0 m 38 ls []) := by
  intro n
  induction n with
  | zero => intro x1 x3 x4 σ H locs ls h; cases h
  | succ n ih => intro x1 x3 x4 σ H locs ls h; exact u_X7_feed_b38 X  ih x1 x3 x4 σ H locs ls h
/-- StreetNumbersModel.feed(JI)I -/
def f_X7_feed (x1 : Int64) (x3 : Int32) (σ : St) : Rs :=
  ob (f_X7_in x3 1 8 σ) fun r1 σ1 => (
  if r1 = 0 then (
    ob (f_X7_error 1 σ1) fun r5 σ5 => (
    some (r5, σ5))
  ) else (
    if inb 3 382 then (
    if ((σ1 67 (3 : Int32).toNatClampNeg) + x3) ≤ 60 then (
      f_X7_feed_L38 LF x1 x3 0 σ1
    ) else (
      ob (f_X7_error 4 σ1) fun r3 σ3 => (
      some (r3, σ3))
    )) else none
  ))
set_option maxRecDepth 100000 in
set_option maxHeartbeats 4000000 in
theorem T_X7_feed {l : Launch} {Γ : Gm} {x1 : Int64} {x3 : Int32} {σ : St} {r : Int32} {σ' : St} (h : f_X7_feed x1 x3 σ = some (r, σ')) : MetI l yX7_feed cX7_feed 5 .int 2 Γ σ [.ref (Γ.1 66), .long x1, .int x3] r σ' := by
  intro sz
  refine met_in (by decide) (Nat.le_of_ble_eq_true rfl) (fun p e s m args below meth c ls X hsz M hl => ?_)
  subst hsz
  have X : Cx p s m args meth c cX7_feed RX7 5 (some .int) Γ := X
  have hl : lv_has ls 5 [(0, .ref (Γ.1 66)), (1, .long x1), (3, .int x3)] := hl
  unfold f_X7_feed at h
  refine lv_iload_n X.x X.b dX7_feed_0 rfl (lv_at hl 2 rfl) ?_
  refine lv_iconst (v := 1) X.x X.b dX7_feed_1 (by decide) ?_
  refine lv_bipush (v := 8) X.x X.b dX7_feed_2 (by decide) ?_
  obtain ⟨r1, σ1, h1, h⟩ := ob_e h
  refine r_runI M (r_callS (As := [.int x3, .int 1, .int 8]) X M (lv_sub hl [] rfl) (T_X7_in h1 _) cal_X7_in q799 ⟨by decide, by decide⟩ rfl rfl (Nat.le_of_ble_eq_true rfl) ⟨Nat.le_refl _, Nat.le_refl _⟩ dX7_feed_4) (fun H locs M => ?_)
  clear h1
  refine lv_if_ne (tgt := 16) X.x X.b dX7_feed_7 (by decide) (fun c6 => ?_) (fun c6 => ?_)
  · have h := it_f c6 h
    refine lv_aload_n X.x X.b dX7_feed_16 rfl (lv_at hl 0 rfl) ?_
    refine r_get X M hq_66 (el_66 _ _) rfl inX7 0 (by decide) q728 rfl rfl dX7_feed_17 ?_
    refine lv_iconst (v := 3) X.x X.b dX7_feed_20 (by decide) ?_
    obtain ⟨c2, h⟩ := it_n h
    refine r_iald (q := 67) (n := 382) X M rfl c2 dX7_feed_21 ?_
    refine lv_iload_n X.x X.b dX7_feed_22 rfl (lv_at hl 2 rfl) ?_
    refine lv_iadd X.x X.b dX7_feed_23 ?_
    refine lv_bipush (v := 60) X.x X.b dX7_feed_24 (by decide) ?_
    refine lv_icmp_le (tgt := 35) X.x X.b dX7_feed_26 (by decide) (fun c4 => ?_) (fun c4 => ?_)
    · have h := it_t c4 h
      refine lv_iconst (v := 0) X.x X.b dX7_feed_35 (by decide) ?_
      refine lv_istore (lv' := [(4, .int 0), (0, .ref (Γ.1 66)), (1, .long x1), (3, .int x3)]) X.x X.b dX7_feed_36 hl (by decide) rfl (fun ls hl => ?_)
      exact u_X7_feed_L38 X LF x1 x3 0 σ1 _ _ _ h M (lv_sub hl [1, 2, 3, 0] rfl)
    · have h := it_f c4 h
      refine lv_aload_n X.x X.b dX7_feed_29 rfl (lv_at hl 0 rfl) ?_
      refine lv_iconst (v := 4) X.x X.b dX7_feed_30 (by decide) ?_
      obtain ⟨r3, σ3, h3, h⟩ := ob_e h
      refine r_runI M (r_callV (As := [.int 4]) X M (lv_sub hl [] rfl) (T_X7_error h3 _) cal_X7_error q802 ⟨by decide, by decide⟩ hq_66 (el_66 _ _) rfl rfl rfl (Nat.le_of_ble_eq_true rfl) ⟨Nat.le_refl _, Nat.le_refl _⟩ dX7_feed_31) (fun H locs M => ?_)
      clear h3
      exact r_iret X M rfl h dX7_feed_34
  · have h := it_t c6 h
    refine lv_aload_n X.x X.b dX7_feed_10 rfl (lv_at hl 0 rfl) ?_
    refine lv_iconst (v := 1) X.x X.b dX7_feed_11 (by decide) ?_
    obtain ⟨r5, σ5, h5, h⟩ := ob_e h
    refine r_runI M (r_callV (As := [.int 1]) X M (lv_sub hl [] rfl) (T_X7_error h5 _) cal_X7_error q802 ⟨by decide, by decide⟩ hq_66 (el_66 _ _) rfl rfl rfl (Nat.le_of_ble_eq_true rfl) ⟨Nat.le_refl _, Nat.le_refl _⟩ dX7_feed_12) (fun H locs M => ?_)
    clear h5
    exact r_iret X M rfl h dX7_feed_15
