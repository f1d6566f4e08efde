def f_X7_finds1_b79 (k16 : (Int32 → Int32 → Int32 → St → Rs)) (x1 : Int32) (x3 : Int32) (x4 : Int32) (x5 : Int32) (y0 : Int32) (σ : St) : Rs :=
  ob (f_X7_its x5 2 σ) fun r1 σ1 => (
  if x1 ≤ r1 then (
    k16 x1 y0 (x4 - 1) σ1
  ) else (
    k16 x1 y0 x3 σ1
  ))
set_option maxRecDepth 100000 in
set_option maxHeartbeats 4000000 in
theorem u_X7_finds1_b79 {l : Launch} {Γ : Gm} {p : Program} {e : Env} {s : State} {m : MethodId} {args : Array Value} {below : List Frame} {meth : Method} {c : Code} {r : Int32} {σ' : St} {k16 : Int32 → Int32 → Int32 → St → Rs} (X : Cx p s m args meth c cX7_finds1 RX7 6 (some .int) Γ) (H16 : ∀ (x1 : Int32) (x2 : Int32) (x3 : Int32) (σ : St) (H : Heap) (locs : List Loc) (ls : Array Slot), k16 x1 x2 x3 σ = some (r, σ') → Mv Γ σ s H locs → lv_has ls 6 [(0, .ref (Γ.1 66)), (1, .int x1), (2, .int x2), (3, .int x3)] → W p l e (rmd 3) s m args below meth c H locs 0 0 (MQ below (Qi Γ r σ' s.heap.size) args s 0 0 (Rg Γ s.heap.size)) (F0 m 16 ls [])) (x1 : Int32) (x3 : Int32) (x4 : Int32) (x5 : Int32) (y0 : Int32) (σ : St) (H : Heap) (locs : List Loc) (ls : Array Slot) (h : f_X7_finds1_b79 k16 x1 x3 x4 x5 y0 σ = some (r, σ')) (M : Mv Γ σ s H locs) (hl : lv_has ls 6 [(0, .ref (Γ.1 66)), (1, .int x1), (3, .int x3), (4, .int x4), (5, .int x5)]) : W p l e (rmd 3) s m args below meth c H locs 0 0 (MQ below (Qi Γ r σ' s.heap.size) args s 0 0 (Rg Γ s.heap.size)) (F0 m 79 ls [.int y0]) := by
  unfold f_X7_finds1_b79 at h
  refine lv_istore_n (lv' := [(2, .int y0), (0, .ref (Γ.1 66)), (1, .int x1), (3, .int x3), (4, .int x4), (5, .int x5)]) X.x X.b dX7_finds1_79 rfl hl (by decide) rfl (fun ls hl => ?_)
  refine lv_aload_n X.x X.b dX7_finds1_80 rfl (lv_at hl 1 rfl) ?_
  refine lv_iload X.x X.b dX7_finds1_81 (lv_at hl 5 rfl) ?_
  refine lv_iconst (v := 2) X.x X.b dX7_finds1_83 (by decide) ?_
  obtain ⟨r1, σ1, h1, h⟩ := ob_e h
  refine r_runI M (r_callV (As := [.int x5, .int 2]) X M (lv_sub hl [] rfl) (T_X7_its h1 _) cal_X7_its q874 ⟨by decide, by decide⟩ hq_66 (el_66 _ _) rfl rfl rfl (Nat.le_of_ble_eq_true rfl) ⟨Nat.le_refl _, Nat.le_refl _⟩ dX7_finds1_84) (fun H locs M => ?_)
  clear h1
  refine lv_iload_n X.x X.b dX7_finds1_87 rfl (lv_at hl 2 rfl) ?_
  refine lv_icmp_ge (tgt := 95) X.x X.b dX7_finds1_88 (by decide) (fun c2 => ?_) (fun c2 => ?_)
  · have h := it_t c2 h
    refine lv_iload X.x X.b dX7_finds1_95 (lv_at hl 4 rfl) ?_
    refine lv_iconst (v := 1) X.x X.b dX7_finds1_97 (by decide) ?_
    refine lv_isub X.x X.b dX7_finds1_98 ?_
    refine lv_istore_n (lv' := [(3, .int (x4 - 1)), (2, .int y0), (0, .ref (Γ.1 66)), (1, .int x1), (4, .int x4), (5, .int x5)]) X.x X.b dX7_finds1_99 rfl hl (by decide) rfl (fun ls hl => ?_)
    refine lv_goto (tgt := 16) X.x X.b dX7_finds1_100 (by decide) ?_
    exact H16 x1 y0 (x4 - 1) σ1 _ _ _ h M (lv_sub hl [2, 3, 1, 0] rfl)
  · have h := it_f c2 h
    refine lv_iload_n X.x X.b dX7_finds1_91 rfl (lv_at hl 3 rfl) ?_
    refine lv_goto (tgt := 99) X.x X.b dX7_finds1_92 (by decide) ?_
    refine lv_istore_n (lv' := [(3, .int x3), (2, .int y0), (0, .ref (Γ.1 66)), (1, .int x1), (4, .int x4), (5, .int x5)]) X.x X.b dX7_finds1_99 rfl hl (by decide) rfl (fun ls hl => ?_)
    refine lv_goto (tgt := 16) X.x X.b dX7_finds1_100 (by decide) ?_
    exact H16 x1 y0 x3 σ1 _ _ _ h M (lv_sub hl [2, 3, 1, 0] rfl)
def f_X7_finds1_b16 (k16 : (Int32 → Int32 → Int32 → St → Rs)) (x1 : Int32) (x2 : Int32) (x3 : Int32) (σ : St) : Rs :=
  if x3 < x2 then (
    some ((-1), σ)
  ) else (
    ob (f_X7_at1 ((x2 + x3) / 2) σ) fun r1 σ1 => (
    ol (st σ1 66 13 ((σ1 66 13) + 1)) fun σ2 => (
    ob (f_X7_its r1 2 σ2) fun r3 σ3 => (
    if r3 = x1 then (
      some (r1, σ3)
    ) else (
      ob (f_X7_its r1 2 σ3) fun r4 σ4 => (
      if x1 ≤ r4 then (
        f_X7_finds1_b79 k16 x1 x3 ((x2 + x3) / 2) r1 x2 σ4
      ) else (
        f_X7_finds1_b79 k16 x1 x3 ((x2 + x3) / 2) r1 (((x2 + x3) / 2) + 1) σ4
      ))
    ))))
  )
set_option maxRecDepth 100000 in
set_option maxHeartbeats 4000000 in
theorem u_X7_finds1_b16 {l : Launch} {Γ : Gm} {p : Program} {e : Env} {s : State} {m : MethodId} {args : Array Value} {below : List Frame} {meth : Method} {c : Code} {r : Int32} {σ' : St} {k16 : Int32 → Int32 → Int32 → St → Rs} (X : Cx p s m args meth c cX7_finds1 RX7 6 (some .int) Γ) (H16 : ∀ (x1 : Int32) (x2 : Int32) (x3 : Int32) (σ : St) (H : Heap) (locs : List Loc) (ls : Array Slot), k16 x1 x2 x3 σ = some (r, σ') → Mv Γ σ s H locs → lv_has ls 6 [(0, .ref (Γ.1 66)), (1, .int x1), (2, .int x2), (3, .int x3)] → W p l e (rmd 3) s m args below meth c H locs 0 0 (MQ below (Qi Γ r σ' s.heap.size) args s 0 0 (Rg Γ s.heap.size)) (F0 m 16 ls [])) (x1 : Int32) (x2 : Int32) (x3 : Int32) (σ : St) (H : Heap) (locs : List Loc) (ls : Array Slot) (h : f_X7_finds1_b16 k16 x1 x2 x3 σ = some (r, σ')) (M : Mv Γ σ s H locs) (hl : lv_has ls 6 [(0, .ref (Γ.1 66)), (1, .int x1), (2, .int x2), (3, .int x3)]) : W p l e (rmd 3) s m args below meth c H locs 0 0 (MQ below (Qi Γ r σ' s.heap.size) args s 0 0 (Rg Γ s.heap.size)) (F0 m 16 ls []) := by
  unfold f_X7_finds1_b16 at h
  refine lv_iload_n X.x X.b dX7_finds1_16 rfl (lv_at hl 2 rfl) ?_
  refine lv_iload_n X.x X.b dX7_finds1_17 rfl (lv_at hl 3 rfl) ?_
  refine lv_icmp_gt (tgt := 103) X.x X.b dX7_finds1_18 (by decide) (fun c7 => ?_) (fun c7 => ?_)
  · have h := it_t c7 h
    refine lv_iconst (v := (-1)) X.x X.b dX7_finds1_103 (by decide) ?_
    exact r_iret X M rfl h dX7_finds1_104
  · have h := it_f c7 h
    refine lv_iload_n X.x X.b dX7_finds1_21 rfl (lv_at hl 2 rfl) ?_
    refine lv_iload_n X.x X.b dX7_finds1_22 rfl (lv_at hl 3 rfl) ?_
    refine lv_iadd X.x X.b dX7_finds1_23 ?_
    refine lv_iconst (v := 2) X.x X.b dX7_finds1_24 (by decide) ?_
    refine lv_idiv X.x X.b dX7_finds1_25 (by decide) ?_
    refine lv_istore (lv' := [(4, .int ((x2 + x3) / 2)), (0, .ref (Γ.1 66)), (1, .int x1), (2, .int x2), (3, .int x3)]) X.x X.b dX7_finds1_26 hl (by decide) rfl (fun ls hl => ?_)
    refine lv_aload_n X.x X.b dX7_finds1_28 rfl (lv_at hl 1 rfl) ?_
    refine lv_iload X.x X.b dX7_finds1_29 (lv_at hl 0 rfl) ?_
    obtain ⟨r1, σ1, h1, h⟩ := ob_e h
    refine r_runI M (r_callV (As := [.int ((x2 + x3) / 2)]) X M (lv_sub hl [] rfl) (T_X7_at1 h1 _) cal_X7_at1 q920 ⟨by decide, by decide⟩ hq_66 (el_66 _ _) rfl rfl rfl (Nat.le_of_ble_eq_true rfl) ⟨Nat.le_refl _, Nat.le_refl _⟩ dX7_finds1_31) (fun H locs M => ?_)
    clear h1
    refine lv_istore (lv' := [(5, .int r1), (4, .int ((x2 + x3) / 2)), (0, .ref (Γ.1 66)), (1, .int x1), (2, .int x2), (3, .int x3)]) X.x X.b dX7_finds1_34 hl (by decide) rfl (fun ls hl => ?_)
    refine lv_aload_n X.x X.b dX7_finds1_36 rfl (lv_at hl 2 rfl) ?_
    refine lv_dup X.x X.b dX7_finds1_37 rfl ?_
    refine r_get X M hq_66 (el_66 _ _) rfl inX7 13 (by decide) q741 rfl rfl dX7_finds1_38 ?_
    refine lv_iconst (v := 1) X.x X.b dX7_finds1_41 (by decide) ?_
    refine lv_iadd X.x X.b dX7_finds1_42 ?_
    obtain ⟨σ2, e2, h⟩ := ol_e h
    refine r_put (x := ((σ1 66 13) + 1)) (ty := .int) X M hq_66 (el_66 _ _) rfl inX7 tyX7_ok nmX7 13 (by decide) q741 rfl rfl rfl rfl rfl (Nat.le_of_ble_eq_true rfl) (pf_66_13 _ _ _) dX7_finds1_43 (fun H locs M => ?_)
    rw [← e2] at M
    refine lv_aload_n X.x X.b dX7_finds1_46 rfl (lv_at hl 2 rfl) ?_
    refine lv_iload X.x X.b dX7_finds1_47 (lv_at hl 0 rfl) ?_
    refine lv_iconst (v := 2) X.x X.b dX7_finds1_49 (by decide) ?_
    obtain ⟨r3, σ3, h3, h⟩ := ob_e h
    refine r_runI M (r_callV (As := [.int r1, .int 2]) X M (lv_sub hl [] rfl) (T_X7_its h3 _) cal_X7_its q874 ⟨by decide, by decide⟩ hq_66 (el_66 _ _) rfl rfl rfl (Nat.le_of_ble_eq_true rfl) ⟨Nat.le_refl _, Nat.le_refl _⟩ dX7_finds1_50) (fun H locs M => ?_)
    clear h3
    refine lv_iload_n X.x X.b dX7_finds1_53 rfl (lv_at hl 3 rfl) ?_
    refine lv_icmp_ne (tgt := 60) X.x X.b dX7_finds1_54 (by decide) (fun c6 => ?_) (fun c6 => ?_)
    · have h := it_f c6 h
      refine lv_aload_n X.x X.b dX7_finds1_60 rfl (lv_at hl 2 rfl) ?_
      refine lv_iload X.x X.b dX7_finds1_61 (lv_at hl 0 rfl) ?_
      refine lv_iconst (v := 2) X.x X.b dX7_finds1_63 (by decide) ?_
      obtain ⟨r4, σ4, h4, h⟩ := ob_e h
      refine r_runI M (r_callV (As := [.int r1, .int 2]) X M (lv_sub hl [] rfl) (T_X7_its h4 _) cal_X7_its q874 ⟨by decide, by decide⟩ hq_66 (el_66 _ _) rfl rfl rfl (Nat.le_of_ble_eq_true rfl) ⟨Nat.le_refl _, Nat.le_refl _⟩ dX7_finds1_64) (fun H locs M => ?_)
      clear h4
      refine lv_iload_n X.x X.b dX7_finds1_67 rfl (lv_at hl 3 rfl) ?_
      refine lv_icmp_ge (tgt := 78) X.x X.b dX7_finds1_68 (by decide) (fun c5 => ?_) (fun c5 => ?_)
      · have h := it_t c5 h
        refine lv_iload_n X.x X.b dX7_finds1_78 rfl (lv_at hl 4 rfl) ?_
        exact u_X7_finds1_b79 X H16 x1 x3 ((x2 + x3) / 2) r1 x2 σ4 _ _ _ h M (lv_sub hl [2, 3, 5, 1, 0] rfl)
      · have h := it_f c5 h
        refine lv_iload X.x X.b dX7_finds1_71 (lv_at hl 1 rfl) ?_
        refine lv_iconst (v := 1) X.x X.b dX7_finds1_73 (by decide) ?_
        refine lv_iadd X.x X.b dX7_finds1_74 ?_
        refine lv_goto (tgt := 79) X.x X.b dX7_finds1_75 (by decide) ?_
        exact u_X7_finds1_b79 X H16 x1 x3 ((x2 + x3) / 2) r1 (((x2 + x3) / 2) + 1) σ4 _ _ _ h M (lv_sub hl [2, 3, 5, 1, 0] rfl)
    · have h := it_t c6 h
      refine lv_iload X.x X.b dX7_finds1_57 (lv_at hl 0 rfl) ?_
      exact r_iret X M rfl h dX7_finds1_59
def f_X7_finds1_L16 : Nat → Int32 → Int32 → Int32 → St → Rs
  | 0 => fun _ _ _ _ => none
  | n + 1 => fun x1 x2 x3 σ => f_X7_finds1_b16 (f_X7_finds1_L16 n) x1 x2 x3 σ
theorem u_X7_finds1_L16 {l : Launch} {Γ : Gm} {p : Program} {e : Env} {s : State} {m : MethodId} {args : Array Value} {below : List Frame} {meth : Method} {c : Code} {r : Int32} {σ' : St} (X : Cx p s m args meth c cX7_finds1 RX7 6 (some .int) Γ) : ∀ (n : Nat) (x1 : Int32) (x2 : Int32) (x3 : Int32) (σ : St) (H : Heap) (locs : List Loc) (ls : Array Slot), f_X7_finds1_L16 n x1 x2 x3 σ = some (r, σ') → Mv Γ σ s H locs → lv_has ls 6 [(0, .ref (Γ.1 66)), (1, .int x1), (2, .int x2), (3, .int x3)] → W p l e (rmd 3) s m args below meth c H locs 0 0 (MQ below (Qi Γ r σ' s.heap.size) args s 0 0 (Rg Γ s.heap.size)) (F0 m 16 ls []) := by
  intro n
  induction n with
  | zero => intro x1 x2 x3 σ H locs ls h; cases h
  | succ n ih => intro x1 x2 x3 σ H locs ls h; exact u_X7_finds1_b16 X  ih x1 x2 x3 σ H locs ls h
/-- StreetNumbersModel.finds1(I)I -/
def f_X7_finds1 (x1 : Int32) (σ : St) : Rs :=
  if inb 5 382 then (
  ol (st σ 66 13 0) fun σ2 => (
  f_X7_finds1_L16 LF x1 0 ((σ 67 (5 : Int32).toNatClampNeg) - 1) σ2)) else none
set_option maxRecDepth 100000 in
set_option maxHeartbeats 4000000 in
theorem T_X7_finds1 {l : Launch} {Γ : Gm} {x1 : Int32} {σ : St} {r : Int32} {σ' : St} (h : f_X7_finds1 x1 σ = some (r, σ')) : MetI l yX7_finds1 cX7_finds1 6 .int 3 Γ σ [.ref (Γ.1 66), .int x1] r σ' := by
  intro sz
  refine met_in (by decide) (Nat.le_of_ble_eq_true rfl) (fun p e s m args below meth c ls X hsz M hl => ?_)
  subst hsz
  have X : Cx p s m args meth c cX7_finds1 RX7 6 (some .int) Γ := X
  have hl : lv_has ls 6 [(0, .ref (Γ.1 66)), (1, .int x1)] := hl
  unfold f_X7_finds1 at h
  refine lv_iconst (v := 0) X.x X.b dX7_finds1_0 (by decide) ?_
  refine lv_istore_n (lv' := [(2, .int 0), (0, .ref (Γ.1 66)), (1, .int x1)]) X.x X.b dX7_finds1_1 rfl hl (by decide) rfl (fun ls hl => ?_)
  refine lv_aload_n X.x X.b dX7_finds1_2 rfl (lv_at hl 1 rfl) ?_
  refine r_get X M hq_66 (el_66 _ _) rfl inX7 0 (by decide) q728 rfl rfl dX7_finds1_3 ?_
  refine lv_iconst (v := 5) X.x X.b dX7_finds1_6 (by decide) ?_
  obtain ⟨c1, h⟩ := it_n h
  refine r_iald (q := 67) (n := 382) X M rfl c1 dX7_finds1_7 ?_
  refine lv_iconst (v := 1) X.x X.b dX7_finds1_8 (by decide) ?_
  refine lv_isub X.x X.b dX7_finds1_9 ?_
  refine lv_istore_n (lv' := [(3, .int ((σ 67 (5 : Int32).toNatClampNeg) - 1)), (2, .int 0), (0, .ref (Γ.1 66)), (1, .int x1)]) X.x X.b dX7_finds1_10 rfl hl (by decide) rfl (fun ls hl => ?_)
  refine lv_aload_n X.x X.b dX7_finds1_11 rfl (lv_at hl 2 rfl) ?_
  refine lv_iconst (v := 0) X.x X.b dX7_finds1_12 (by decide) ?_
  obtain ⟨σ2, e2, h⟩ := ol_e h
  refine r_put (x := 0) (ty := .int) X M hq_66 (el_66 _ _) rfl inX7 tyX7_ok nmX7 13 (by decide) q741 rfl rfl rfl rfl rfl (Nat.le_of_ble_eq_true rfl) (pf_66_13 _ _ _) dX7_finds1_13 (fun H locs M => ?_)
  rw [← e2] at M
  exact u_X7_finds1_L16 X LF x1 0 ((σ 67 (5 : Int32).toNatClampNeg) - 1) σ2 _ _ _ h M (lv_sub hl [2, 3, 1, 0] rfl)
def f_X7_odds_b34 (k34 : (Int32 → Int32 → Int32 → St → Rs)) (x1 : Int32) (x2 : Int32) (x3 : Int32) (σ : St) : Rs :=
  if inb 5 382 then (
  if (σ 67 (5 : Int32).toNatClampNeg) ≤ x3 then (
    if inb 5 382 then (
    ob (f_X7_divisor x2 (σ 67 (5 : Int32).toNatClampNeg) σ) fun r3 σ3 => (
    if x1 = 0 then (
      if ¬ r3 = 0 then (
      some ((x2 / r3), σ3)) else none
    ) else (
      if inb 5 382 then (
      if ¬ r3 = 0 then (
      some (((σ3 67 (5 : Int32).toNatClampNeg) / r3), σ3)) else none) else none
    ))) else none
  ) else (
    ob (f_X7_its x3 2 σ) fun r8 σ8 => (
    ob (f_X7_finds1 r8 σ8) fun r9 σ9 => (
    if r9 = x3 then (
      k34 x1 (x2 + 1) (x3 + 1) σ9
    ) else (
      k34 x1 (x2 + 0) (x3 + 1) σ9
    )))
  )) else none
set_option maxRecDepth 100000 in
set_option maxHeartbeats 4000000 in
theorem u_X7_odds_b34 {l : Launch} {Γ : Gm} {p : Program} {e : Env} {s : State} {m : MethodId} {args : Array Value} {below : List Frame} {meth : Method} {c : Code} {r : Int32} {σ' : St} {k34 : Int32 → Int32 → Int32 → St → Rs} (X : Cx p s m args meth c cX7_odds RX7 4 (some .int) Γ) (H34 : ∀ (x1 : Int32) (x2 : Int32) (x3 : Int32) (σ : St) (H : Heap) (locs : List Loc) (ls : Array Slot), k34 x1 x2 x3 σ = some (r, σ') → Mv Γ σ s H locs → lv_has ls 4 [(0, .ref (Γ.1 66)), (1, .int x1), (2, .int x2), (3, .int x3)] → W p l e (rmd 4) s m args below meth c H locs 0 0 (MQ below (Qi Γ r σ' s.heap.size) args s 0 0 (Rg Γ s.heap.size)) (F0 m 34 ls [])) (x1 : Int32) (x2 : Int32) (x3 : Int32) (σ : St) (H : Heap) (locs : List Loc) (ls : Array Slot) (h : f_X7_odds_b34 k34 x1 x2 x3 σ = some (r, σ')) (M : Mv Γ σ s H locs) (hl : lv_has ls 4 [(0, .ref (Γ.1 66)), (1, .int x1), (2, .int x2), (3, .int x3)]) : W p l e (rmd 4) s m args below meth c H locs 0 0 (MQ below (Qi Γ r σ' s.heap.size) args s 0 0 (Rg Γ s.heap.size)) (F0 m 34 ls []) := by
  unfold f_X7_odds_b34 at h
  refine lv_iload_n X.x X.b dX7_odds_34 rfl (lv_at hl 3 rfl) ?_
  refine lv_aload_n X.x X.b dX7_odds_35 rfl (lv_at hl 0 rfl) ?_
  refine r_get X M hq_66 (el_66 _ _) rfl inX7 0 (by decide) q728 rfl rfl dX7_odds_36 ?_
  refine lv_iconst (v := 5) X.x X.b dX7_odds_39 (by decide) ?_
  obtain ⟨c1, h⟩ := it_n h
  refine r_iald (q := 67) (n := 382) X M rfl c1 dX7_odds_40 ?_
  refine lv_icmp_ge (tgt := 72) X.x X.b dX7_odds_41 (by decide) (fun c11 => ?_) (fun c11 => ?_)
  · have h := it_t c11 h
    refine lv_iload_n X.x X.b dX7_odds_72 rfl (lv_at hl 2 rfl) ?_
    refine lv_aload_n X.x X.b dX7_odds_73 rfl (lv_at hl 0 rfl) ?_
    refine r_get X M hq_66 (el_66 _ _) rfl inX7 0 (by decide) q728 rfl rfl dX7_odds_74 ?_
    refine lv_iconst (v := 5) X.x X.b dX7_odds_77 (by decide) ?_
    obtain ⟨c2, h⟩ := it_n h
    refine r_iald (q := 67) (n := 382) X M rfl c2 dX7_odds_78 ?_
    obtain ⟨r3, σ3, h3, h⟩ := ob_e h
    refine r_runI M (r_callS (As := [.int x2, .int (σ 67 (5 : Int32).toNatClampNeg)]) X M (lv_sub hl [] rfl) (T_X7_divisor h3 _) cal_X7_divisor q1040 ⟨by decide, by decide⟩ rfl rfl (Nat.le_of_ble_eq_true rfl) ⟨Nat.le_refl _, Nat.le_refl _⟩ dX7_odds_79) (fun H locs M => ?_)
    clear h3
    refine lv_istore_n (lv' := [(3, .int r3), (0, .ref (Γ.1 66)), (1, .int x1), (2, .int x2)]) X.x X.b dX7_odds_82 rfl hl (by decide) rfl (fun ls hl => ?_)
    refine lv_iload_n X.x X.b dX7_odds_83 rfl (lv_at hl 2 rfl) ?_
    refine lv_if_ne (tgt := 93) X.x X.b dX7_odds_84 (by decide) (fun c7 => ?_) (fun c7 => ?_)
    · have h := it_f c7 h
      refine lv_aload_n X.x X.b dX7_odds_93 rfl (lv_at hl 1 rfl) ?_
      refine r_get X M hq_66 (el_66 _ _) rfl inX7 0 (by decide) q728 rfl rfl dX7_odds_94 ?_
      refine lv_iconst (v := 5) X.x X.b dX7_odds_97 (by decide) ?_
      obtain ⟨c4, h⟩ := it_n h
      refine r_iald (q := 67) (n := 382) X M rfl c4 dX7_odds_98 ?_
      refine lv_iload_n X.x X.b dX7_odds_99 rfl (lv_at hl 0 rfl) ?_
      obtain ⟨c5, h⟩ := it_n h
      refine lv_idiv X.x X.b dX7_odds_100 c5 ?_
      exact r_iret X M rfl h dX7_odds_101
    · have h := it_t c7 h
      refine lv_iload_n X.x X.b dX7_odds_87 rfl (lv_at hl 3 rfl) ?_
      refine lv_iload_n X.x X.b dX7_odds_88 rfl (lv_at hl 0 rfl) ?_
      obtain ⟨c6, h⟩ := it_n h
      refine lv_idiv X.x X.b dX7_odds_89 c6 ?_
      refine lv_goto (tgt := 101) X.x X.b dX7_odds_90 (by decide) ?_
      exact r_iret X M rfl h dX7_odds_101
  · have h := it_f c11 h
    refine lv_iload_n X.x X.b dX7_odds_44 rfl (lv_at hl 2 rfl) ?_
    refine lv_aload_n X.x X.b dX7_odds_45 rfl (lv_at hl 0 rfl) ?_
    refine lv_aload_n X.x X.b dX7_odds_46 rfl (lv_at hl 0 rfl) ?_
    refine lv_iload_n X.x X.b dX7_odds_47 rfl (lv_at hl 3 rfl) ?_
    refine lv_iconst (v := 2) X.x X.b dX7_odds_48 (by decide) ?_
    obtain ⟨r8, σ8, h8, h⟩ := ob_e h
    refine r_runI M (r_callV (As := [.int x3, .int 2]) X M (lv_sub hl [] rfl) (T_X7_its h8 _) cal_X7_its q874 ⟨by decide, by decide⟩ hq_66 (el_66 _ _) rfl rfl rfl (Nat.le_of_ble_eq_true rfl) ⟨Nat.le_refl _, Nat.le_refl _⟩ dX7_odds_49) (fun H locs M => ?_)
    clear h8
    obtain ⟨r9, σ9, h9, h⟩ := ob_e h
    refine r_runI M (r_callV (As := [.int r8]) X M (lv_sub hl [] rfl) (T_X7_finds1 h9 _) cal_X7_finds1 q1032 ⟨by decide, by decide⟩ hq_66 (el_66 _ _) rfl rfl rfl (Nat.le_of_ble_eq_true rfl) ⟨Nat.le_refl _, Nat.le_refl _⟩ dX7_odds_52) (fun H locs M => ?_)
    clear h9
    refine lv_iload_n X.x X.b dX7_odds_55 rfl (lv_at hl 3 rfl) ?_
    refine lv_icmp_ne (tgt := 63) X.x X.b dX7_odds_56 (by decide) (fun c10 => ?_) (fun c10 => ?_)
    · have h := it_f c10 h
      refine lv_iconst (v := 0) X.x X.b dX7_odds_63 (by decide) ?_
      refine lv_iadd X.x X.b dX7_odds_64 ?_
      refine lv_istore_n (lv' := [(2, .int (x2 + 0)), (0, .ref (Γ.1 66)), (1, .int x1), (3, .int x3)]) X.x X.b dX7_odds_65 rfl hl (by decide) rfl (fun ls hl => ?_)
      refine lv_iinc (v := (x3 + 1)) (lv' := [(3, .int (x3 + 1)), (2, .int (x2 + 0)), (0, .ref (Γ.1 66)), (1, .int x1)]) X.x X.b dX7_odds_66 hl (k := 3) rfl rfl (by decide) rfl (fun ls hl => ?_)
      refine lv_goto (tgt := 34) X.x X.b dX7_odds_69 (by decide) ?_
      exact H34 x1 (x2 + 0) (x3 + 1) σ9 _ _ _ h M (lv_sub hl [2, 3, 1, 0] rfl)
    · have h := it_t c10 h
      refine lv_iconst (v := 1) X.x X.b dX7_odds_59 (by decide) ?_
      refine lv_goto (tgt := 64) X.x X.b dX7_odds_60 (by decide) ?_
      refine lv_iadd X.x X.b dX7_odds_64 ?_
      refine lv_istore_n (lv' := [(2, .int (x2 + 1)), (0, .ref (Γ.1 66)), (1, .int x1), (3, .int x3)]) X.x X.b dX7_odds_65 rfl hl (by decide) rfl (fun ls hl => ?_)
      refine lv_iinc (v := (x3 + 1)) (lv' := [(3, .int (x3 + 1)), (2, .int (x2 + 1)), (0, .ref (Γ.1 66)), (1, .int x1)]) X.x X.b dX7_odds_66 hl (k := 3) rfl rfl (by decide) rfl (fun ls hl => ?_)
      refine lv_goto (tgt := 34) X.x X.b dX7_odds_69 (by decide) ?_
      exact H34 x1 (x2 + 1) (x3 + 1) σ9 _ _ _ h M (lv_sub hl [2, 3, 1, 0] rfl)
def f_X7_odds_L34 : Nat → Int32 → Int32 → Int32 → St → Rs
  | 0 => fun _ _ _ _ => none
  | n + 1 => fun x1 x2 x3 σ => f_X7_odds_b34 (f_X7_odds_L34 n) x1 x2 x3 σ
theorem u_X7_odds_L34 {l : Launch} {Γ : Gm} {p : Program} {e : Env} {s : State} {m : MethodId} {args : Array Value} {below : List Frame} {meth : Method} {c : Code} {r : Int32} {σ' : St} (X : Cx p s m args meth c cX7_odds RX7 4 (some .int) Γ) : ∀ (n : Nat) (x1 : Int32) (x2 : Int32) (x3 : Int32) (σ : St) (H : Heap) (locs : List Loc) (ls : Array Slot), f_X7_odds_L34 n x1 x2 x3 σ = some (r, σ') → Mv Γ σ s H locs → lv_has ls 4 [(0, .ref (Γ.1 66)), (1, .int x1), (2, .int x2), (3, .int x3)] → W p l e (rmd 4) s m args below meth c H locs 0 0 (MQ below (Qi Γ r σ' s.heap.size) args s 0 0 (Rg Γ s.heap.size)) (F0 m 34 ls []) := by
  intro n
  induction n with
  | zero => intro x1 x2 x3 σ H locs ls h; cases h
  | succ n ih => intro x1 x2 x3 σ H locs ls h; exact u_X7_odds_b34 X  ih x1 x2 x3 σ H locs ls h
/-- StreetNumbersModel.odds(I)I -/
def f_X7_odds (x1 : Int32) (σ : St) : Rs :=
  ob (f_X7_in x1 0 1 σ) fun r1 σ1 => (
  if r1 = 0 then (
    ob (f_X7_error 1 σ1) fun r5 σ5 => (
    some (r5, σ5))
  ) else (
    if inb 5 382 then (
    if (σ1 67 (5 : Int32).toNatClampNeg) = 0 then (
      ob (f_X7_error 3 σ1) fun r3 σ3 => (
      some (r3, σ3))
    ) else (
      f_X7_odds_L34 LF x1 0 0 σ1
    )) else none
  ))
set_option maxRecDepth 100000 in
set_option maxHeartbeats 4000000 in
theorem T_X7_odds {l : Launch} {Γ : Gm} {x1 : Int32} {σ : St} {r : Int32} {σ' : St} (h : f_X7_odds x1 σ = some (r, σ')) : MetI l yX7_odds cX7_odds 4 .int 4 Γ σ [.ref (Γ.1 66), .int x1] r σ' := by
  intro sz
  refine met_in (by decide) (Nat.le_of_ble_eq_true rfl) (fun p e s m args below meth c ls X hsz M hl => ?_)
  subst hsz
  have X : Cx p s m args meth c cX7_odds RX7 4 (some .int) Γ := X
  have hl : lv_has ls 4 [(0, .ref (Γ.1 66)), (1, .int x1)] := hl
  unfold f_X7_odds at h
  refine lv_iload_n X.x X.b dX7_odds_0 rfl (lv_at hl 1 rfl) ?_
  refine lv_iconst (v := 0) X.x X.b dX7_odds_1 (by decide) ?_
  refine lv_iconst (v := 1) X.x X.b dX7_odds_2 (by decide) ?_
  obtain ⟨r1, σ1, h1, h⟩ := ob_e h
  refine r_runI M (r_callS (As := [.int x1, .int 0, .int 1]) X M (lv_sub hl [] rfl) (T_X7_in h1 _) cal_X7_in q799 ⟨by decide, by decide⟩ rfl rfl (Nat.le_of_ble_eq_true rfl) ⟨Nat.le_refl _, Nat.le_refl _⟩ dX7_odds_3) (fun H locs M => ?_)
  clear h1
  refine lv_if_ne (tgt := 15) X.x X.b dX7_odds_6 (by decide) (fun c6 => ?_) (fun c6 => ?_)
  · have h := it_f c6 h
    refine lv_aload_n X.x X.b dX7_odds_15 rfl (lv_at hl 0 rfl) ?_
    refine r_get X M hq_66 (el_66 _ _) rfl inX7 0 (by decide) q728 rfl rfl dX7_odds_16 ?_
    refine lv_iconst (v := 5) X.x X.b dX7_odds_19 (by decide) ?_
    obtain ⟨c2, h⟩ := it_n h
    refine r_iald (q := 67) (n := 382) X M rfl c2 dX7_odds_20 ?_
    refine lv_if_ne (tgt := 30) X.x X.b dX7_odds_21 (by decide) (fun c4 => ?_) (fun c4 => ?_)
    · have h := it_f c4 h
      refine lv_iconst (v := 0) X.x X.b dX7_odds_30 (by decide) ?_
      refine lv_istore_n (lv' := [(2, .int 0), (0, .ref (Γ.1 66)), (1, .int x1)]) X.x X.b dX7_odds_31 rfl hl (by decide) rfl (fun ls hl => ?_)
      refine lv_iconst (v := 0) X.x X.b dX7_odds_32 (by decide) ?_
      refine lv_istore_n (lv' := [(3, .int 0), (2, .int 0), (0, .ref (Γ.1 66)), (1, .int x1)]) X.x X.b dX7_odds_33 rfl hl (by decide) rfl (fun ls hl => ?_)
      exact u_X7_odds_L34 X LF x1 0 0 σ1 _ _ _ h M (lv_sub hl [2, 3, 1, 0] rfl)
    · have h := it_t c4 h
      refine lv_aload_n X.x X.b dX7_odds_24 rfl (lv_at hl 0 rfl) ?_
      refine lv_iconst (v := 3) X.x X.b dX7_odds_25 (by decide) ?_
      obtain ⟨r3, σ3, h3, h⟩ := ob_e h
      refine r_runI M (r_callV (As := [.int 3]) X M (lv_sub hl [] rfl) (T_X7_error h3 _) cal_X7_error q802 ⟨by decide, by decide⟩ hq_66 (el_66 _ _) rfl rfl rfl (Nat.le_of_ble_eq_true rfl) ⟨Nat.le_refl _, Nat.le_refl _⟩ dX7_odds_26) (fun H locs M => ?_)
      clear h3
      exact r_iret X M rfl h dX7_odds_29
  · have h := it_t c6 h
    refine lv_aload_n X.x X.b dX7_odds_9 rfl (lv_at hl 0 rfl) ?_
    refine lv_iconst (v := 1) X.x X.b dX7_odds_10 (by decide) ?_
    obtain ⟨r5, σ5, h5, h⟩ := ob_e h
    refine r_runI M (r_callV (As := [.int 1]) X M (lv_sub hl [] rfl) (T_X7_error h5 _) cal_X7_error q802 ⟨by decide, by decide⟩ hq_66 (el_66 _ _) rfl rfl rfl (Nat.le_of_ble_eq_true rfl) ⟨Nat.le_refl _, Nat.le_refl _⟩ dX7_odds_11) (fun H locs M => ?_)
    clear h5
    exact r_iret X M rfl h dX7_odds_14
/-- StreetNumbersModel.order()I -/
def f_X7_order (σ : St) : Rs :=
  ob (f_X7_longest σ) fun r1 σ1 => (
  if inb 5 382 then (
  if r1 = (σ1 67 (5 : Int32).toNatClampNeg) then (
    some (1, σ1)
  ) else (
    some (0, σ1)
  )) else none)
set_option maxRecDepth 100000 in
set_option maxHeartbeats 4000000 in
theorem T_X7_order {l : Launch} {Γ : Gm} {σ : St} {r : Int32} {σ' : St} (h : f_X7_order σ = some (r, σ')) : MetI l yX7_order cX7_order 1 .int 4 Γ σ [.ref (Γ.1 66)] r σ' := by
  intro sz
  refine met_in (by decide) (Nat.le_of_ble_eq_true rfl) (fun p e s m args below meth c ls X hsz M hl => ?_)
  subst hsz
  have X : Cx p s m args meth c cX7_order RX7 1 (some .int) Γ := X
  have hl : lv_has ls 1 [(0, .ref (Γ.1 66))] := hl
  unfold f_X7_order at h
  refine lv_aload_n X.x X.b dX7_order_0 rfl (lv_at hl 0 rfl) ?_
  obtain ⟨r1, σ1, h1, h⟩ := ob_e h
  refine r_runI M (r_callV (As := []) X M (lv_sub hl [] rfl) (T_X7_longest h1 _) cal_X7_longest q1020 ⟨by decide, by decide⟩ hq_66 (el_66 _ _) rfl rfl rfl (Nat.le_of_ble_eq_true rfl) ⟨Nat.le_refl _, Nat.le_refl _⟩ dX7_order_1) (fun H locs M => ?_)
  clear h1
  refine lv_aload_n X.x X.b dX7_order_4 rfl (lv_at hl 0 rfl) ?_
  refine r_get X M hq_66 (el_66 _ _) rfl inX7 0 (by decide) q728 rfl rfl dX7_order_5 ?_
  refine lv_iconst (v := 5) X.x X.b dX7_order_8 (by decide) ?_
  obtain ⟨c2, h⟩ := it_n h
  refine r_iald (q := 67) (n := 382) X M rfl c2 dX7_order_9 ?_
  refine lv_icmp_ne (tgt := 17) X.x X.b dX7_order_10 (by decide) (fun c3 => ?_) (fun c3 => ?_)
  · have h := it_f c3 h
    refine lv_iconst (v := 0) X.x X.b dX7_order_17 (by decide) ?_
    exact r_iret X M rfl h dX7_order_18
  · have h := it_t c3 h
    refine lv_iconst (v := 1) X.x X.b dX7_order_13 (by decide) ?_
    refine lv_goto (tgt := 18) X.x X.b dX7_order_14 (by decide) ?_
    exact r_iret X M rfl h dX7_order_18
def f_X7_plates_b18 (k18 : (Int32 → Int32 → St → Rs)) (x1 : Int32) (x3 : Int32) (σ : St) : Rs :=
  if inb x1 4 then (
  if (σ 77 x1.toNatClampNeg) ≤ x3 then (
    some (x3, σ)
  ) else (
    ob (f_X7_isHouse x3 σ) fun r2 σ2 => (
    if r2 = 0 then (
      some (x3, σ2)
    ) else (
      if inb ((24 * x1) + x3) 96 then (
      ob (f_X7_isNumber (σ2 78 ((24 * x1) + x3).toNatClampNeg) σ2) fun r4 σ4 => (
      if r4 = 0 then (
        some (x3, σ4)
      ) else (
        if inb ((24 * x1) + x3) 96 then (
        ob (f_X7_lays1 x3 2 (σ4 78 ((24 * x1) + x3).toNatClampNeg) σ4) fun _ σ6 => (
        k18 x1 (x3 + 1) σ6)) else none
      ))) else none
    ))
  )) else none
set_option maxRecDepth 100000 in
set_option maxHeartbeats 4000000 in
theorem u_X7_plates_b18 {l : Launch} {Γ : Gm} {p : Program} {e : Env} {s : State} {m : MethodId} {args : Array Value} {below : List Frame} {meth : Method} {c : Code} {r : Int32} {σ' : St} {k18 : Int32 → Int32 → St → Rs} (X : Cx p s m args meth c cX7_plates RX7 4 (some .int) Γ) (H18 : ∀ (x1 : Int32) (x3 : Int32) (σ : St) (H : Heap) (locs : List Loc) (ls : Array Slot), k18 x1 x3 σ = some (r, σ') → Mv Γ σ s H locs → lv_has ls 4 [(0, .ref (Γ.1 66)), (1, .int x1), (3, .int x3)] → W p l e (rmd 4) s m args below meth c H locs 0 0 (MQ below (Qi Γ r σ' s.heap.size) args s 0 0 (Rg Γ s.heap.size)) (F0 m 18 ls [])) (x1 : Int32) (x3 : Int32) (σ : St) (H : Heap) (locs : List Loc) (ls : Array Slot) (h : f_X7_plates_b18 k18 x1 x3 σ = some (r, σ')) (M : Mv Γ σ s H locs) (hl : lv_has ls 4 [(0, .ref (Γ.1 66)), (1, .int x1), (3, .int x3)]) : W p l e (rmd 4) s m args below meth c H locs 0 0 (MQ below (Qi Γ r σ' s.heap.size) args s 0 0 (Rg Γ s.heap.size)) (F0 m 18 ls []) := by
  unfold f_X7_plates_b18 at h
  refine lv_iload_n X.x X.b dX7_plates_18 rfl (lv_at hl 2 rfl) ?_
  refine lv_aload_n X.x X.b dX7_plates_19 rfl (lv_at hl 0 rfl) ?_
  refine r_get X M hq_66 (el_66 _ _) rfl inX7 19 (by decide) q747 rfl rfl dX7_plates_20 ?_
  refine lv_iload_n X.x X.b dX7_plates_23 rfl (lv_at hl 1 rfl) ?_
  obtain ⟨c1, h⟩ := it_n h
  refine r_iald (q := 77) (n := 4) X M rfl c1 dX7_plates_24 ?_
  refine lv_icmp_ge (tgt := 76) X.x X.b dX7_plates_25 (by decide) (fun c9 => ?_) (fun c9 => ?_)
  · have h := it_t c9 h
    refine lv_iload_n X.x X.b dX7_plates_76 rfl (lv_at hl 2 rfl) ?_
    exact r_iret X M rfl h dX7_plates_77
  · have h := it_f c9 h
    refine lv_aload_n X.x X.b dX7_plates_28 rfl (lv_at hl 0 rfl) ?_
    refine lv_iload_n X.x X.b dX7_plates_29 rfl (lv_at hl 2 rfl) ?_
    obtain ⟨r2, σ2, h2, h⟩ := ob_e h
    refine r_runI M (r_callV (As := [.int x3]) X M (lv_sub hl [] rfl) (T_X7_isHouse h2 _) cal_X7_isHouse q886 ⟨by decide, by decide⟩ hq_66 (el_66 _ _) rfl rfl rfl (Nat.le_of_ble_eq_true rfl) ⟨Nat.le_refl _, Nat.le_refl _⟩ dX7_plates_30) (fun H locs M => ?_)
    clear h2
    refine lv_if_eq (tgt := 76) X.x X.b dX7_plates_33 (by decide) (fun c8 => ?_) (fun c8 => ?_)
    · have h := it_t c8 h
      refine lv_iload_n X.x X.b dX7_plates_76 rfl (lv_at hl 2 rfl) ?_
      exact r_iret X M rfl h dX7_plates_77
    · have h := it_f c8 h
      refine lv_aload_n X.x X.b dX7_plates_36 rfl (lv_at hl 0 rfl) ?_
      refine r_get X M hq_66 (el_66 _ _) rfl inX7 20 (by decide) q748 rfl rfl dX7_plates_37 ?_
      refine lv_bipush (v := 24) X.x X.b dX7_plates_40 (by decide) ?_
      refine lv_iload_n X.x X.b dX7_plates_42 rfl (lv_at hl 1 rfl) ?_
      refine lv_imul X.x X.b dX7_plates_43 ?_
      refine lv_iload_n X.x X.b dX7_plates_44 rfl (lv_at hl 2 rfl) ?_
      refine lv_iadd X.x X.b dX7_plates_45 ?_
      obtain ⟨c3, h⟩ := it_n h
      refine r_iald (q := 78) (n := 96) X M rfl c3 dX7_plates_46 ?_
      obtain ⟨r4, σ4, h4, h⟩ := ob_e h
      refine r_runI M (r_callS (As := [.int (σ2 78 ((24 * x1) + x3).toNatClampNeg)]) X M (lv_sub hl [] rfl) (T_X7_isNumber h4 _) cal_X7_isNumber q867 ⟨by decide, by decide⟩ rfl rfl (Nat.le_of_ble_eq_true rfl) ⟨Nat.le_refl _, Nat.le_refl _⟩ dX7_plates_47) (fun H locs M => ?_)
      clear h4
      refine lv_if_eq (tgt := 76) X.x X.b dX7_plates_50 (by decide) (fun c7 => ?_) (fun c7 => ?_)
      · have h := it_t c7 h
        refine lv_iload_n X.x X.b dX7_plates_76 rfl (lv_at hl 2 rfl) ?_
        exact r_iret X M rfl h dX7_plates_77
      · have h := it_f c7 h
        refine lv_aload_n X.x X.b dX7_plates_53 rfl (lv_at hl 0 rfl) ?_
        refine lv_iload_n X.x X.b dX7_plates_54 rfl (lv_at hl 2 rfl) ?_
        refine lv_iconst (v := 2) X.x X.b dX7_plates_55 (by decide) ?_
        refine lv_aload_n X.x X.b dX7_plates_56 rfl (lv_at hl 0 rfl) ?_
        refine r_get X M hq_66 (el_66 _ _) rfl inX7 20 (by decide) q748 rfl rfl dX7_plates_57 ?_
        refine lv_bipush (v := 24) X.x X.b dX7_plates_60 (by decide) ?_
        refine lv_iload_n X.x X.b dX7_plates_62 rfl (lv_at hl 1 rfl) ?_
        refine lv_imul X.x X.b dX7_plates_63 ?_
        refine lv_iload_n X.x X.b dX7_plates_64 rfl (lv_at hl 2 rfl) ?_
        refine lv_iadd X.x X.b dX7_plates_65 ?_
        obtain ⟨c5, h⟩ := it_n h
        refine r_iald (q := 78) (n := 96) X M rfl c5 dX7_plates_66 ?_
        obtain ⟨r6, σ6, h6, h⟩ := ob_e h
        refine r_runV M (r_callV (As := [.int x3, .int 2, .int (σ4 78 ((24 * x1) + x3).toNatClampNeg)]) X M (lv_sub hl [] rfl) (T_X7_lays1 h6 _) cal_X7_lays1 q878 ⟨by decide, by decide⟩ hq_66 (el_66 _ _) rfl rfl rfl (Nat.le_of_ble_eq_true rfl) ⟨Nat.le_refl _, Nat.le_refl _⟩ dX7_plates_67) (fun H locs M => ?_)
        clear h6
        refine lv_iinc (v := (x3 + 1)) (lv' := [(3, .int (x3 + 1)), (0, .ref (Γ.1 66)), (1, .int x1)]) X.x X.b dX7_plates_70 hl (k := 2) rfl rfl (by decide) rfl (fun ls hl => ?_)
        refine lv_goto (tgt := 18) X.x X.b dX7_plates_73 (by decide) ?_
        exact H18 x1 (x3 + 1) σ6 _ _ _ h M (lv_sub hl [1, 2, 0] rfl)
def f_X7_plates_L18 : Nat → Int32 → Int32 → St → Rs
  | 0 => fun _ _ _ => none
  | n + 1 => fun x1 x3 σ => f_X7_plates_b18 (f_X7_plates_L18 n) x1 x3 σ
theorem u_X7_plates_L18 {l : Launch} {Γ : Gm} {p : Program} {e : Env} {s : State} {m : MethodId} {args : Array Value} {below : List Frame} {meth : Method} {c : Code} {r : Int32} {σ' : St} (X : Cx p s m args meth c cX7_plates RX7 4 (some .int) Γ) : ∀ (n : Nat) (x1 : Int32) (x3 : Int32) (σ : St) (H : Heap) (locs : List Loc) (ls : Array Slot), f_X7_plates_L18 n x1 x3 σ = some (r, σ') → Mv Γ σ s H locs → lv_has ls 4 [(0, .ref (Γ.1 66)), (1, .int x1), (3, .int x3)] → W p l e (rmd 4) s m args below meth c H locs 0 0 (MQ below (Qi Γ r σ' s.heap.size) args s 0 0 (Rg Γ s.heap.size)) (F0 m 18 ls []) := by
  intro n
  induction n with
  | zero => intro x1 x3 σ H locs ls h; cases h
  | succ n ih => intro x1 x3 σ H locs ls h; exact u_X7_plates_b18 X  ih x1 x3 σ H locs ls h
/-- StreetNumbersModel.plates(I)I -/
def f_X7_plates (x1 : Int32) (σ : St) : Rs :=
  ob (f_X7_lacks x1 σ) fun r1 σ1 => (
  if r1 = 0 then (
    f_X7_plates_L18 LF x1 0 σ1
  ) else (
    ob (f_X7_error r1 σ1) fun r2 σ2 => (
    some (r2, σ2))
  ))
set_option maxRecDepth 100000 in
set_option maxHeartbeats 4000000 in
theorem T_X7_plates {l : Launch} {Γ : Gm} {x1 : Int32} {σ : St} {r : Int32} {σ' : St} (h : f_X7_plates x1 σ = some (r, σ')) : MetI l yX7_plates cX7_plates 4 .int 4 Γ σ [.ref (Γ.1 66), .int x1] r σ' := by
  intro sz
  refine met_in (by decide) (Nat.le_of_ble_eq_true rfl) (fun p e s m args below meth c ls X hsz M hl => ?_)
  subst hsz
  have X : Cx p s m args meth c cX7_plates RX7 4 (some .int) Γ := X
  have hl : lv_has ls 4 [(0, .ref (Γ.1 66)), (1, .int x1)] := hl
  unfold f_X7_plates at h
  refine lv_aload_n X.x X.b dX7_plates_0 rfl (lv_at hl 0 rfl) ?_
  refine lv_iload_n X.x X.b dX7_plates_1 rfl (lv_at hl 1 rfl) ?_
  obtain ⟨r1, σ1, h1, h⟩ := ob_e h
  refine r_runI M (r_callV (As := [.int x1]) X M (lv_sub hl [] rfl) (T_X7_lacks h1 _) cal_X7_lacks q1047 ⟨by decide, by decide⟩ hq_66 (el_66 _ _) rfl rfl rfl (Nat.le_of_ble_eq_true rfl) ⟨Nat.le_refl _, Nat.le_refl _⟩ dX7_plates_2) (fun H locs M => ?_)
  clear h1
  refine lv_istore_n (lv' := [(2, .int r1), (0, .ref (Γ.1 66)), (1, .int x1)]) X.x X.b dX7_plates_5 rfl hl (by decide) rfl (fun ls hl => ?_)
  refine lv_iload_n X.x X.b dX7_plates_6 rfl (lv_at hl 0 rfl) ?_
  refine lv_if_eq (tgt := 16) X.x X.b dX7_plates_7 (by decide) (fun c3 => ?_) (fun c3 => ?_)
  · have h := it_t c3 h
    refine lv_iconst (v := 0) X.x X.b dX7_plates_16 (by decide) ?_
    refine lv_istore_n (lv' := [(3, .int 0), (2, .int r1), (0, .ref (Γ.1 66)), (1, .int x1)]) X.x X.b dX7_plates_17 rfl hl (by decide) rfl (fun ls hl => ?_)
    exact u_X7_plates_L18 X LF x1 0 σ1 _ _ _ h M (lv_sub hl [2, 3, 0] rfl)
  · have h := it_f c3 h
    refine lv_aload_n X.x X.b dX7_plates_10 rfl (lv_at hl 1 rfl) ?_
    refine lv_iload_n X.x X.b dX7_plates_11 rfl (lv_at hl 0 rfl) ?_
    obtain ⟨r2, σ2, h2, h⟩ := ob_e h
    refine r_runI M (r_callV (As := [.int r1]) X M (lv_sub hl [] rfl) (T_X7_error h2 _) cal_X7_error q802 ⟨by decide, by decide⟩ hq_66 (el_66 _ _) rfl rfl rfl (Nat.le_of_ble_eq_true rfl) ⟨Nat.le_refl _, Nat.le_refl _⟩ dX7_plates_12) (fun H locs M => ?_)
    clear h2
    exact r_iret X M rfl h dX7_plates_15
/-- StreetNumbersModel.put(III)I -/
def f_X7_put (x1 : Int32) (x2 : Int32) (x3 : Int32) (σ : St) : Rs :=
  ob (f_X7_isSheet x1 σ) fun r1 σ1 => (
  if r1 = 0 then (
    ob (f_X7_error 1 σ1) fun r12 σ12 => (
    some (r12, σ12))
  ) else (
    if inb x1 4 then (
    if (σ1 76 x1.toNatClampNeg) = 0 then (
      ob (f_X7_error 2 σ1) fun r10 σ10 => (
      some (r10, σ10))
    ) else (
      if inb x1 4 then (
      ob (f_X7_in x2 0 ((σ1 77 x1.toNatClampNeg) - 1) σ1) fun r4 σ4 => (
      if r4 = 0 then (
        ob (f_X7_error 1 σ4) fun r8 σ8 => (
        some (r8, σ8))
      ) else (
        if inb x1 4 then (
        if inb ((24 * x1) + x2) 96 then (
        ol (st σ4 78 ((24 * x1) + x2).toNatClampNeg ((x3 <<< ((32 - (σ4 76 x1.toNatClampNeg)) &&& 31)) >>> ((32 - (σ4 76 x1.toNatClampNeg)) &&& 31))) fun σ7 => (
        some (1, σ7))) else none) else none
      ))) else none
    )) else none
  ))
set_option maxRecDepth 100000 in
set_option maxHeartbeats 4000000 in
theorem T_X7_put {l : Launch} {Γ : Gm} {x1 : Int32} {x2 : Int32} {x3 : Int32} {σ : St} {r : Int32} {σ' : St} (h : f_X7_put x1 x2 x3 σ = some (r, σ')) : MetI l yX7_put cX7_put 5 .int 3 Γ σ [.ref (Γ.1 66), .int x1, .int x2, .int x3] r σ' := by
  intro sz
  refine met_in (by decide) (Nat.le_of_ble_eq_true rfl) (fun p e s m args below meth c ls X hsz M hl => ?_)
  subst hsz
  have X : Cx p s m args meth c cX7_put RX7 5 (some .int) Γ := X
  have hl : lv_has ls 5 [(0, .ref (Γ.1 66)), (1, .int x1), (2, .int x2), (3, .int x3)] := hl
  unfold f_X7_put at h
  refine lv_iload_n X.x X.b dX7_put_0 rfl (lv_at hl 1 rfl) ?_
  obtain ⟨r1, σ1, h1, h⟩ := ob_e h
  refine r_runI M (r_callS (As := [.int x1]) X M (lv_sub hl [] rfl) (T_X7_isSheet h1 _) cal_X7_isSheet q1051 ⟨by decide, by decide⟩ rfl rfl (Nat.le_of_ble_eq_true rfl) ⟨Nat.le_refl _, Nat.le_refl _⟩ dX7_put_1) (fun H locs M => ?_)
  clear h1
  refine lv_if_ne (tgt := 13) X.x X.b dX7_put_4 (by decide) (fun c13 => ?_) (fun c13 => ?_)
  · have h := it_f c13 h
    refine lv_aload_n X.x X.b dX7_put_13 rfl (lv_at hl 0 rfl) ?_
    refine r_get X M hq_66 (el_66 _ _) rfl inX7 18 (by decide) q746 rfl rfl dX7_put_14 ?_
    refine lv_iload_n X.x X.b dX7_put_17 rfl (lv_at hl 1 rfl) ?_
    obtain ⟨c2, h⟩ := it_n h
    refine r_iald (q := 76) (n := 4) X M rfl c2 dX7_put_18 ?_
    refine lv_if_ne (tgt := 28) X.x X.b dX7_put_19 (by decide) (fun c11 => ?_) (fun c11 => ?_)
    · have h := it_f c11 h
      refine lv_iload_n X.x X.b dX7_put_28 rfl (lv_at hl 2 rfl) ?_
      refine lv_iconst (v := 0) X.x X.b dX7_put_29 (by decide) ?_
      refine lv_aload_n X.x X.b dX7_put_30 rfl (lv_at hl 0 rfl) ?_
      refine r_get X M hq_66 (el_66 _ _) rfl inX7 19 (by decide) q747 rfl rfl dX7_put_31 ?_
      refine lv_iload_n X.x X.b dX7_put_34 rfl (lv_at hl 1 rfl) ?_
      obtain ⟨c3, h⟩ := it_n h
      refine r_iald (q := 77) (n := 4) X M rfl c3 dX7_put_35 ?_
      refine lv_iconst (v := 1) X.x X.b dX7_put_36 (by decide) ?_
      refine lv_isub X.x X.b dX7_put_37 ?_
      obtain ⟨r4, σ4, h4, h⟩ := ob_e h
      refine r_runI M (r_callS (As := [.int x2, .int 0, .int ((σ1 77 x1.toNatClampNeg) - 1)]) X M (lv_sub hl [] rfl) (T_X7_in h4 _) cal_X7_in q799 ⟨by decide, by decide⟩ rfl rfl (Nat.le_of_ble_eq_true rfl) ⟨Nat.le_refl _, Nat.le_refl _⟩ dX7_put_38) (fun H locs M => ?_)
      clear h4
      refine lv_if_ne (tgt := 50) X.x X.b dX7_put_41 (by decide) (fun c9 => ?_) (fun c9 => ?_)
      · have h := it_f c9 h
        refine lv_bipush (v := 32) X.x X.b dX7_put_50 (by decide) ?_
        refine lv_aload_n X.x X.b dX7_put_52 rfl (lv_at hl 0 rfl) ?_
        refine r_get X M hq_66 (el_66 _ _) rfl inX7 18 (by decide) q746 rfl rfl dX7_put_53 ?_
        refine lv_iload_n X.x X.b dX7_put_56 rfl (lv_at hl 1 rfl) ?_
        obtain ⟨c5, h⟩ := it_n h
        refine r_iald (q := 76) (n := 4) X M rfl c5 dX7_put_57 ?_
        refine lv_isub X.x X.b dX7_put_58 ?_
        refine lv_istore (lv' := [(4, .int (32 - (σ4 76 x1.toNatClampNeg))), (0, .ref (Γ.1 66)), (1, .int x1), (2, .int x2), (3, .int x3)]) X.x X.b dX7_put_59 hl (by decide) rfl (fun ls hl => ?_)
        refine lv_aload_n X.x X.b dX7_put_61 rfl (lv_at hl 1 rfl) ?_
        refine r_get X M hq_66 (el_66 _ _) rfl inX7 20 (by decide) q748 rfl rfl dX7_put_62 ?_
        refine lv_bipush (v := 24) X.x X.b dX7_put_65 (by decide) ?_
        refine lv_iload_n X.x X.b dX7_put_67 rfl (lv_at hl 2 rfl) ?_
        refine lv_imul X.x X.b dX7_put_68 ?_
        refine lv_iload_n X.x X.b dX7_put_69 rfl (lv_at hl 3 rfl) ?_
        refine lv_iadd X.x X.b dX7_put_70 ?_
        refine lv_iload_n X.x X.b dX7_put_71 rfl (lv_at hl 4 rfl) ?_
        refine lv_iload X.x X.b dX7_put_72 (lv_at hl 0 rfl) ?_
        refine lv_ishl X.x X.b dX7_put_74 ?_
        refine lv_iload X.x X.b dX7_put_75 (lv_at hl 0 rfl) ?_
        refine lv_ishr X.x X.b dX7_put_77 ?_
        obtain ⟨c6, h⟩ := it_n h
        obtain ⟨σ7, e7, h⟩ := ol_e h
        refine r_iast (q := 78) (n := 96) X M rfl c6 dX7_put_78 (fun H locs M => ?_)
        rw [← e7] at M
        refine lv_iconst (v := 1) X.x X.b dX7_put_79 (by decide) ?_
        exact r_iret X M rfl h dX7_put_80
      · have h := it_t c9 h
        refine lv_aload_n X.x X.b dX7_put_44 rfl (lv_at hl 0 rfl) ?_
        refine lv_iconst (v := 1) X.x X.b dX7_put_45 (by decide) ?_
        obtain ⟨r8, σ8, h8, h⟩ := ob_e h
        refine r_runI M (r_callV (As := [.int 1]) X M (lv_sub hl [] rfl) (T_X7_error h8 _) cal_X7_error q802 ⟨by decide, by decide⟩ hq_66 (el_66 _ _) rfl rfl rfl (Nat.le_of_ble_eq_true rfl) ⟨Nat.le_refl _, Nat.le_refl _⟩ dX7_put_46) (fun H locs M => ?_)
        clear h8
        exact r_iret X M rfl h dX7_put_49
    · have h := it_t c11 h
      refine lv_aload_n X.x X.b dX7_put_22 rfl (lv_at hl 0 rfl) ?_
      refine lv_iconst (v := 2) X.x X.b dX7_put_23 (by decide) ?_
      obtain ⟨r10, σ10, h10, h⟩ := ob_e h
      refine r_runI M (r_callV (As := [.int 2]) X M (lv_sub hl [] rfl) (T_X7_error h10 _) cal_X7_error q802 ⟨by decide, by decide⟩ hq_66 (el_66 _ _) rfl rfl rfl (Nat.le_of_ble_eq_true rfl) ⟨Nat.le_refl _, Nat.le_refl _⟩ dX7_put_24) (fun H locs M => ?_)
      clear h10
      exact r_iret X M rfl h dX7_put_27
  · have h := it_t c13 h
    refine lv_aload_n X.x X.b dX7_put_7 rfl (lv_at hl 0 rfl) ?_
    refine lv_iconst (v := 1) X.x X.b dX7_put_8 (by decide) ?_
    obtain ⟨r12, σ12, h12, h⟩ := ob_e h
    refine r_runI M (r_callV (As := [.int 1]) X M (lv_sub hl [] rfl) (T_X7_error h12 _) cal_X7_error q802 ⟨by decide, by decide⟩ hq_66 (el_66 _ _) rfl rfl rfl (Nat.le_of_ble_eq_true rfl) ⟨Nat.le_refl _, Nat.le_refl _⟩ dX7_put_9) (fun H locs M => ?_)
    clear h12
    exact r_iret X M rfl h dX7_put_12
/-- StreetNumbersModel.renames(II)I -/
def f_X7_renames (x1 : Int32) (x2 : Int32) (σ : St) : Rs :=
  ob (f_X7_isHouse x1 σ) fun r1 σ1 => (
  if r1 = 0 then (
    ob (f_X7_error 1 σ1) fun r2 σ2 => (
    some (r2, σ2))
  ) else (
    ob (f_X7_isNumber x2 σ1) fun r3 σ3 => (
    if r3 = 0 then (
      ob (f_X7_error 1 σ3) fun r4 σ4 => (
      some (r4, σ4))
    ) else (
      ob (f_X7_gets x1 x2 σ3) fun r5 σ5 => (
      some (r5, σ5))
    ))
  ))
set_option maxRecDepth 100000 in
set_option maxHeartbeats 4000000 in
theorem T_X7_renames {l : Launch} {Γ : Gm} {x1 : Int32} {x2 : Int32} {σ : St} {r : Int32} {σ' : St} (h : f_X7_renames x1 x2 σ = some (r, σ')) : MetI l yX7_renames cX7_renames 3 .int 6 Γ σ [.ref (Γ.1 66), .int x1, .int x2] r σ' := by
  intro sz
  refine met_in (by decide) (Nat.le_of_ble_eq_true rfl) (fun p e s m args below meth c ls X hsz M hl => ?_)
  subst hsz
  have X : Cx p s m args meth c cX7_renames RX7 3 (some .int) Γ := X
  have hl : lv_has ls 3 [(0, .ref (Γ.1 66)), (1, .int x1), (2, .int x2)] := hl
  unfold f_X7_renames at h
  refine lv_aload_n X.x X.b dX7_renames_0 rfl (lv_at hl 0 rfl) ?_
  refine lv_iload_n X.x X.b dX7_renames_1 rfl (lv_at hl 1 rfl) ?_
  obtain ⟨r1, σ1, h1, h⟩ := ob_e h
  refine r_runI M (r_callV (As := [.int x1]) X M (lv_sub hl [] rfl) (T_X7_isHouse h1 _) cal_X7_isHouse q886 ⟨by decide, by decide⟩ hq_66 (el_66 _ _) rfl rfl rfl (Nat.le_of_ble_eq_true rfl) ⟨Nat.le_refl _, Nat.le_refl _⟩ dX7_renames_2) (fun H locs M => ?_)
  clear h1
  refine lv_if_eq (tgt := 24) X.x X.b dX7_renames_5 (by decide) (fun c7 => ?_) (fun c7 => ?_)
  · have h := it_t c7 h
    refine lv_aload_n X.x X.b dX7_renames_24 rfl (lv_at hl 0 rfl) ?_
    refine lv_iconst (v := 1) X.x X.b dX7_renames_25 (by decide) ?_
    obtain ⟨r2, σ2, h2, h⟩ := ob_e h
    refine r_runI M (r_callV (As := [.int 1]) X M (lv_sub hl [] rfl) (T_X7_error h2 _) cal_X7_error q802 ⟨by decide, by decide⟩ hq_66 (el_66 _ _) rfl rfl rfl (Nat.le_of_ble_eq_true rfl) ⟨Nat.le_refl _, Nat.le_refl _⟩ dX7_renames_26) (fun H locs M => ?_)
    clear h2
    exact r_iret X M rfl h dX7_renames_29
  · have h := it_f c7 h
    refine lv_iload_n X.x X.b dX7_renames_8 rfl (lv_at hl 2 rfl) ?_
    obtain ⟨r3, σ3, h3, h⟩ := ob_e h
    refine r_runI M (r_callS (As := [.int x2]) X M (lv_sub hl [] rfl) (T_X7_isNumber h3 _) cal_X7_isNumber q867 ⟨by decide, by decide⟩ rfl rfl (Nat.le_of_ble_eq_true rfl) ⟨Nat.le_refl _, Nat.le_refl _⟩ dX7_renames_9) (fun H locs M => ?_)
    clear h3
    refine lv_if_eq (tgt := 24) X.x X.b dX7_renames_12 (by decide) (fun c6 => ?_) (fun c6 => ?_)
    · have h := it_t c6 h
      refine lv_aload_n X.x X.b dX7_renames_24 rfl (lv_at hl 0 rfl) ?_
      refine lv_iconst (v := 1) X.x X.b dX7_renames_25 (by decide) ?_
      obtain ⟨r4, σ4, h4, h⟩ := ob_e h
      refine r_runI M (r_callV (As := [.int 1]) X M (lv_sub hl [] rfl) (T_X7_error h4 _) cal_X7_error q802 ⟨by decide, by decide⟩ hq_66 (el_66 _ _) rfl rfl rfl (Nat.le_of_ble_eq_true rfl) ⟨Nat.le_refl _, Nat.le_refl _⟩ dX7_renames_26) (fun H locs M => ?_)
      clear h4
      exact r_iret X M rfl h dX7_renames_29
    · have h := it_f c6 h
      refine lv_aload_n X.x X.b dX7_renames_15 rfl (lv_at hl 0 rfl) ?_
      refine lv_iload_n X.x X.b dX7_renames_16 rfl (lv_at hl 1 rfl) ?_
      refine lv_iload_n X.x X.b dX7_renames_17 rfl (lv_at hl 2 rfl) ?_
      obtain ⟨r5, σ5, h5, h⟩ := ob_e h
      refine r_runI M (r_callV (As := [.int x1, .int x2]) X M (lv_sub hl [] rfl) (T_X7_gets h5 _) cal_X7_gets q959 ⟨by decide, by decide⟩ hq_66 (el_66 _ _) rfl rfl rfl (Nat.le_of_ble_eq_true rfl) ⟨Nat.le_refl _, Nat.le_refl _⟩ dX7_renames_18) (fun H locs M => ?_)
      clear h5
      refine lv_goto (tgt := 29) X.x X.b dX7_renames_21 (by decide) ?_
      exact r_iret X M rfl h dX7_renames_29
/-- StreetNumbersModel.isGap(I)Z -/
def f_X7_isGap (x0 : Int32) (σ : St) : Rs :=
  ob (f_X7_in x0 1 50 σ) fun r1 σ1 => (
  if r1 = 0 ∨ r1 = 1 then some (r1, σ1) else none)
set_option maxRecDepth 100000 in
set_option maxHeartbeats 4000000 in
theorem T_X7_isGap {l : Launch} {Γ : Gm} {x0 : Int32} {σ : St} {r : Int32} {σ' : St} (h : f_X7_isGap x0 σ = some (r, σ')) : MetI l yX7_isGap cX7_isGap 1 .boolean 2 Γ σ [.int x0] r σ' := by
  intro sz
  refine met_in (by decide) (Nat.le_of_ble_eq_true rfl) (fun p e s m args below meth c ls X hsz M hl => ?_)
  subst hsz
  have X : Cx p s m args meth c cX7_isGap RX7 1 (some .boolean) Γ := X
  have hl : lv_has ls 1 [(0, .int x0)] := hl
  unfold f_X7_isGap at h
  refine lv_iload_n X.x X.b dX7_isGap_0 rfl (lv_at hl 0 rfl) ?_
  refine lv_iconst (v := 1) X.x X.b dX7_isGap_1 (by decide) ?_
  refine lv_bipush (v := 50) X.x X.b dX7_isGap_2 (by decide) ?_
  obtain ⟨r1, σ1, h1, h⟩ := ob_e h
  refine r_runI M (r_callS (As := [.int x0, .int 1, .int 50]) X M (lv_sub hl [] rfl) (T_X7_in h1 _) cal_X7_in q799 ⟨by decide, by decide⟩ rfl rfl (Nat.le_of_ble_eq_true rfl) ⟨Nat.le_refl _, Nat.le_refl _⟩ dX7_isGap_4) (fun H locs M => ?_)
  clear h1
  obtain ⟨c2, h⟩ := it_n h
  exact r_iret X M (nar_b c2) h dX7_isGap_7
/-- StreetNumbersModel.renumber(I)I -/
def f_X7_renumber (x1 : Int32) (σ : St) : Rs :=
  ob (f_X7_isGap x1 σ) fun r1 σ1 => (
  if r1 = 0 then (
    ob (f_X7_error 1 σ1) fun r2 σ2 => (
    some (r2, σ2))
  ) else (
    ob (f_X7_renumbers x1 σ1) fun r3 σ3 => (
    some (r3, σ3))
  ))
set_option maxRecDepth 100000 in
set_option maxHeartbeats 4000000 in
theorem T_X7_renumber {l : Launch} {Γ : Gm} {x1 : Int32} {σ : St} {r : Int32} {σ' : St} (h : f_X7_renumber x1 σ = some (r, σ')) : MetI l yX7_renumber cX7_renumber 2 .int 7 Γ σ [.ref (Γ.1 66), .int x1] r σ' := by
  intro sz
  refine met_in (by decide) (Nat.le_of_ble_eq_true rfl) (fun p e s m args below meth c ls X hsz M hl => ?_)
  subst hsz
  have X : Cx p s m args meth c cX7_renumber RX7 2 (some .int) Γ := X
  have hl : lv_has ls 2 [(0, .ref (Γ.1 66)), (1, .int x1)] := hl
  unfold f_X7_renumber at h
  refine lv_iload_n X.x X.b dX7_renumber_0 rfl (lv_at hl 1 rfl) ?_
  obtain ⟨r1, σ1, h1, h⟩ := ob_e h
  refine r_runI M (r_callS (As := [.int x1]) X M (lv_sub hl [] rfl) (T_X7_isGap h1 _) cal_X7_isGap q976 ⟨by decide, by decide⟩ rfl rfl (Nat.le_of_ble_eq_true rfl) ⟨Nat.le_refl _, Nat.le_refl _⟩ dX7_renumber_1) (fun H locs M => ?_)
  clear h1
  refine lv_if_eq (tgt := 15) X.x X.b dX7_renumber_4 (by decide) (fun c4 => ?_) (fun c4 => ?_)
  · have h := it_t c4 h
    refine lv_aload_n X.x X.b dX7_renumber_15 rfl (lv_at hl 0 rfl) ?_
    refine lv_iconst (v := 1) X.x X.b dX7_renumber_16 (by decide) ?_
    obtain ⟨r2, σ2, h2, h⟩ := ob_e h
    refine r_runI M (r_callV (As := [.int 1]) X M (lv_sub hl [] rfl) (T_X7_error h2 _) cal_X7_error q802 ⟨by decide, by decide⟩ hq_66 (el_66 _ _) rfl rfl rfl (Nat.le_of_ble_eq_true rfl) ⟨Nat.le_refl _, Nat.le_refl _⟩ dX7_renumber_17) (fun H locs M => ?_)
    clear h2
    exact r_iret X M rfl h dX7_renumber_20
  · have h := it_f c4 h
    refine lv_aload_n X.x X.b dX7_renumber_7 rfl (lv_at hl 0 rfl) ?_
    refine lv_iload_n X.x X.b dX7_renumber_8 rfl (lv_at hl 1 rfl) ?_
    obtain ⟨r3, σ3, h3, h⟩ := ob_e h
    refine r_runI M (r_callV (As := [.int x1]) X M (lv_sub hl [] rfl) (T_X7_renumbers h3 _) cal_X7_renumbers q979 ⟨by decide, by decide⟩ hq_66 (el_66 _ _) rfl rfl rfl (Nat.le_of_ble_eq_true rfl) ⟨Nat.le_refl _, Nat.le_refl _⟩ dX7_renumber_9) (fun H locs M => ?_)
    clear h3
    refine lv_goto (tgt := 20) X.x X.b dX7_renumber_12 (by decide) ?_
    exact r_iret X M rfl h dX7_renumber_20
/-- StreetNumbersModel.restore()I -/
def f_X7_restore (σ : St) : Rs :=
  if (σ 66 2) = 0 then (
    ob (f_X7_error 2 σ) fun r3 σ3 => (
    some (r3, σ3))
  ) else (
    ob (f_X7_copyAll 68 67 σ) fun _ σ1 => (
    if inb 0 382 then (
    some ((σ1 67 (0 : Int32).toNatClampNeg), σ1)) else none)
  )
set_option maxRecDepth 100000 in
set_option maxHeartbeats 4000000 in
theorem T_X7_restore {l : Launch} {Γ : Gm} {σ : St} {r : Int32} {σ' : St} (h : f_X7_restore σ = some (r, σ')) : MetI l yX7_restore cX7_restore 1 .int 2 Γ σ [.ref (Γ.1 66)] r σ' := by
  intro sz
  refine met_in (by decide) (Nat.le_of_ble_eq_true rfl) (fun p e s m args below meth c ls X hsz M hl => ?_)
  subst hsz
  have X : Cx p s m args meth c cX7_restore RX7 1 (some .int) Γ := X
  have hl : lv_has ls 1 [(0, .ref (Γ.1 66))] := hl
  unfold f_X7_restore at h
  refine lv_aload_n X.x X.b dX7_restore_0 rfl (lv_at hl 0 rfl) ?_
  refine r_get X M hq_66 (el_66 _ _) rfl inX7 2 (by decide) q730 rfl rfl dX7_restore_1 ?_
  refine lv_if_ne (tgt := 13) X.x X.b dX7_restore_4 (by decide) (fun c4 => ?_) (fun c4 => ?_)
  · have h := it_f c4 h
    refine lv_aload_n X.x X.b dX7_restore_13 rfl (lv_at hl 0 rfl) ?_
    refine r_get X M hq_66 (el_66 _ _) rfl inX7 1 (by decide) q729 rfl rfl dX7_restore_14 ?_
    refine lv_aload_n X.x X.b dX7_restore_17 rfl (lv_at hl 0 rfl) ?_
    refine r_get X M hq_66 (el_66 _ _) rfl inX7 0 (by decide) q728 rfl rfl dX7_restore_18 ?_
    obtain ⟨r1, σ1, h1, h⟩ := ob_e h
    refine r_runV M (r_callS (As := [.ref (Γ.1 68), .ref (Γ.1 67)]) X M (lv_sub hl [] rfl) (T_X7_copyAll h1 _) cal_X7_copyAll q1135 ⟨by decide, by decide⟩ rfl rfl (Nat.le_of_ble_eq_true rfl) ⟨Nat.le_refl _, Nat.le_refl _⟩ dX7_restore_21) (fun H locs M => ?_)
    clear h1
    refine lv_aload_n X.x X.b dX7_restore_24 rfl (lv_at hl 0 rfl) ?_
    refine r_get X M hq_66 (el_66 _ _) rfl inX7 0 (by decide) q728 rfl rfl dX7_restore_25 ?_
    refine lv_iconst (v := 0) X.x X.b dX7_restore_28 (by decide) ?_
    obtain ⟨c2, h⟩ := it_n h
    refine r_iald (q := 67) (n := 382) X M rfl c2 dX7_restore_29 ?_
    exact r_iret X M rfl h dX7_restore_30
  · have h := it_t c4 h
    refine lv_aload_n X.x X.b dX7_restore_7 rfl (lv_at hl 0 rfl) ?_
    refine lv_iconst (v := 2) X.x X.b dX7_restore_8 (by decide) ?_
    obtain ⟨r3, σ3, h3, h⟩ := ob_e h
    refine r_runI M (r_callV (As := [.int 2]) X M (lv_sub hl [] rfl) (T_X7_error h3 _) cal_X7_error q802 ⟨by decide, by decide⟩ hq_66 (el_66 _ _) rfl rfl rfl (Nat.le_of_ble_eq_true rfl) ⟨Nat.le_refl _, Nat.le_refl _⟩ dX7_restore_9) (fun H locs M => ?_)
    clear h3
    exact r_iret X M rfl h dX7_restore_12
/-- StreetNumbersModel.search(II)I -/
def f_X7_search (x1 : Int32) (x2 : Int32) (σ : St) : Rs :=
  ob (f_X7_isNumber x1 σ) fun r1 σ1 => (
  if r1 = 0 then (
    ob (f_X7_error 1 σ1) fun r2 σ2 => (
    some (r2, σ2))
  ) else (
    ob (f_X7_in x2 0 1 σ1) fun r3 σ3 => (
    if r3 = 0 then (
      ob (f_X7_error 1 σ3) fun r8 σ8 => (
      some (r8, σ8))
    ) else (
      ob (f_X7_finds1 x1 σ3) fun r4 σ4 => (
      if x2 = 1 then (
        some ((σ4 66 13), σ4)
      ) else (
        if r4 = (-1) then (
          ob (f_X7_error 2 σ4) fun r5 σ5 => (
          some (r5, σ5))
        ) else (
          some (r4, σ4)
        )
      ))
    ))
  ))
set_option maxRecDepth 100000 in
set_option maxHeartbeats 4000000 in
theorem T_X7_search {l : Launch} {Γ : Gm} {x1 : Int32} {x2 : Int32} {σ : St} {r : Int32} {σ' : St} (h : f_X7_search x1 x2 σ = some (r, σ')) : MetI l yX7_search cX7_search 4 .int 4 Γ σ [.ref (Γ.1 66), .int x1, .int x2] r σ' := by
  intro sz
  refine met_in (by decide) (Nat.le_of_ble_eq_true rfl) (fun p e s m args below meth c ls X hsz M hl => ?_)
  subst hsz
  have X : Cx p s m args meth c cX7_search RX7 4 (some .int) Γ := X
  have hl : lv_has ls 4 [(0, .ref (Γ.1 66)), (1, .int x1), (2, .int x2)] := hl
  unfold f_X7_search at h
  refine lv_iload_n X.x X.b dX7_search_0 rfl (lv_at hl 1 rfl) ?_
  obtain ⟨r1, σ1, h1, h⟩ := ob_e h
  refine r_runI M (r_callS (As := [.int x1]) X M (lv_sub hl [] rfl) (T_X7_isNumber h1 _) cal_X7_isNumber q867 ⟨by decide, by decide⟩ rfl rfl (Nat.le_of_ble_eq_true rfl) ⟨Nat.le_refl _, Nat.le_refl _⟩ dX7_search_1) (fun H locs M => ?_)
  clear h1
  refine lv_if_eq (tgt := 16) X.x X.b dX7_search_4 (by decide) (fun c10 => ?_) (fun c10 => ?_)
  · have h := it_t c10 h
    refine lv_aload_n X.x X.b dX7_search_16 rfl (lv_at hl 0 rfl) ?_
    refine lv_iconst (v := 1) X.x X.b dX7_search_17 (by decide) ?_
    obtain ⟨r2, σ2, h2, h⟩ := ob_e h
    refine r_runI M (r_callV (As := [.int 1]) X M (lv_sub hl [] rfl) (T_X7_error h2 _) cal_X7_error q802 ⟨by decide, by decide⟩ hq_66 (el_66 _ _) rfl rfl rfl (Nat.le_of_ble_eq_true rfl) ⟨Nat.le_refl _, Nat.le_refl _⟩ dX7_search_18) (fun H locs M => ?_)
    clear h2
    exact r_iret X M rfl h dX7_search_21
  · have h := it_f c10 h
    refine lv_iload_n X.x X.b dX7_search_7 rfl (lv_at hl 2 rfl) ?_
    refine lv_iconst (v := 0) X.x X.b dX7_search_8 (by decide) ?_
    refine lv_iconst (v := 1) X.x X.b dX7_search_9 (by decide) ?_
    obtain ⟨r3, σ3, h3, h⟩ := ob_e h
    refine r_runI M (r_callS (As := [.int x2, .int 0, .int 1]) X M (lv_sub hl [] rfl) (T_X7_in h3 _) cal_X7_in q799 ⟨by decide, by decide⟩ rfl rfl (Nat.le_of_ble_eq_true rfl) ⟨Nat.le_refl _, Nat.le_refl _⟩ dX7_search_10) (fun H locs M => ?_)
    clear h3
    refine lv_if_ne (tgt := 22) X.x X.b dX7_search_13 (by decide) (fun c9 => ?_) (fun c9 => ?_)
    · have h := it_f c9 h
      refine lv_aload_n X.x X.b dX7_search_22 rfl (lv_at hl 0 rfl) ?_
      refine lv_iload_n X.x X.b dX7_search_23 rfl (lv_at hl 1 rfl) ?_
      obtain ⟨r4, σ4, h4, h⟩ := ob_e h
      refine r_runI M (r_callV (As := [.int x1]) X M (lv_sub hl [] rfl) (T_X7_finds1 h4 _) cal_X7_finds1 q1032 ⟨by decide, by decide⟩ hq_66 (el_66 _ _) rfl rfl rfl (Nat.le_of_ble_eq_true rfl) ⟨Nat.le_refl _, Nat.le_refl _⟩ dX7_search_24) (fun H locs M => ?_)
      clear h4
      refine lv_istore_n (lv' := [(3, .int r4), (0, .ref (Γ.1 66)), (1, .int x1), (2, .int x2)]) X.x X.b dX7_search_27 rfl hl (by decide) rfl (fun ls hl => ?_)
      refine lv_iload_n X.x X.b dX7_search_28 rfl (lv_at hl 3 rfl) ?_
      refine lv_iconst (v := 1) X.x X.b dX7_search_29 (by decide) ?_
      refine lv_icmp_ne (tgt := 40) X.x X.b dX7_search_30 (by decide) (fun c7 => ?_) (fun c7 => ?_)
      · have h := it_f c7 h
        refine lv_iload_n X.x X.b dX7_search_40 rfl (lv_at hl 0 rfl) ?_
        refine lv_iconst (v := (-1)) X.x X.b dX7_search_41 (by decide) ?_
        refine lv_icmp_ne (tgt := 53) X.x X.b dX7_search_42 (by decide) (fun c6 => ?_) (fun c6 => ?_)
        · have h := it_f c6 h
          refine lv_iload_n X.x X.b dX7_search_53 rfl (lv_at hl 0 rfl) ?_
          exact r_iret X M rfl h dX7_search_54
        · have h := it_t c6 h
          refine lv_aload_n X.x X.b dX7_search_45 rfl (lv_at hl 1 rfl) ?_
          refine lv_iconst (v := 2) X.x X.b dX7_search_46 (by decide) ?_
          obtain ⟨r5, σ5, h5, h⟩ := ob_e h
          refine r_runI M (r_callV (As := [.int 2]) X M (lv_sub hl [] rfl) (T_X7_error h5 _) cal_X7_error q802 ⟨by decide, by decide⟩ hq_66 (el_66 _ _) rfl rfl rfl (Nat.le_of_ble_eq_true rfl) ⟨Nat.le_refl _, Nat.le_refl _⟩ dX7_search_47) (fun H locs M => ?_)
          clear h5
          refine lv_goto (tgt := 54) X.x X.b dX7_search_50 (by decide) ?_
          exact r_iret X M rfl h dX7_search_54
      · have h := it_t c7 h
        refine lv_aload_n X.x X.b dX7_search_33 rfl (lv_at hl 1 rfl) ?_
        refine r_get X M hq_66 (el_66 _ _) rfl inX7 13 (by decide) q741 rfl rfl dX7_search_34 ?_
        refine lv_goto (tgt := 54) X.x X.b dX7_search_37 (by decide) ?_
        exact r_iret X M rfl h dX7_search_54
    · have h := it_t c9 h
      refine lv_aload_n X.x X.b dX7_search_16 rfl (lv_at hl 0 rfl) ?_
      refine lv_iconst (v := 1) X.x X.b dX7_search_17 (by decide) ?_
      obtain ⟨r8, σ8, h8, h⟩ := ob_e h
      refine r_runI M (r_callV (As := [.int 1]) X M (lv_sub hl [] rfl) (T_X7_error h8 _) cal_X7_error q802 ⟨by decide, by decide⟩ hq_66 (el_66 _ _) rfl rfl rfl (Nat.le_of_ble_eq_true rfl) ⟨Nat.le_refl _, Nat.le_refl _⟩ dX7_search_18) (fun H locs M => ?_)
      clear h8
      exact r_iret X M rfl h dX7_search_21
/-- StreetNumbersModel.seed(I)I -/
def f_X7_seed (x1 : Int32) (σ : St) : Rs :=
  ob (f_X7_change1 2 x1 σ) fun r1 σ1 => (
  some (r1, σ1))
set_option maxRecDepth 100000 in
set_option maxHeartbeats 4000000 in
theorem T_X7_seed {l : Launch} {Γ : Gm} {x1 : Int32} {σ : St} {r : Int32} {σ' : St} (h : f_X7_seed x1 σ = some (r, σ')) : MetI l yX7_seed cX7_seed 2 .int 2 Γ σ [.ref (Γ.1 66), .int x1] r σ' := by
  intro sz
  refine met_in (by decide) (Nat.le_of_ble_eq_true rfl) (fun p e s m args below meth c ls X hsz M hl => ?_)
  subst hsz
  have X : Cx p s m args meth c cX7_seed RX7 2 (some .int) Γ := X
  have hl : lv_has ls 2 [(0, .ref (Γ.1 66)), (1, .int x1)] := hl
  unfold f_X7_seed at h
  refine lv_aload_n X.x X.b dX7_seed_0 rfl (lv_at hl 0 rfl) ?_
  refine lv_iconst (v := 2) X.x X.b dX7_seed_1 (by decide) ?_
  refine lv_iload_n X.x X.b dX7_seed_2 rfl (lv_at hl 1 rfl) ?_
  obtain ⟨r1, σ1, h1, h⟩ := ob_e h
  refine r_runI M (r_callV (As := [.int 2, .int x1]) X M (lv_sub hl [] rfl) (T_X7_change1 h1 _) cal_X7_change1 q928 ⟨by decide, by decide⟩ hq_66 (el_66 _ _) rfl rfl rfl (Nat.le_of_ble_eq_true rfl) ⟨Nat.le_refl _, Nat.le_refl _⟩ dX7_seed_3) (fun H locs M => ?_)
  clear h1
  exact r_iret X M rfl h dX7_seed_6
def f_X7_sheet_b90 (k90 : (Int32 → Int32 → St → Rs)) (x1 : Int32) (x4 : Int32) (σ : St) : Rs :=
  if 24 ≤ x4 then (
    some (1, σ)
  ) else (
    if inb ((24 * x1) + x4) 96 then (
    ol (st σ 78 ((24 * x1) + x4).toNatClampNeg 0) fun σ2 => (
    k90 x1 (x4 + 1) σ2)) else none
  )
set_option maxRecDepth 100000 in
set_option maxHeartbeats 4000000 in
theorem u_X7_sheet_b90 {l : Launch} {Γ : Gm} {p : Program} {e : Env} {s : State} {m : MethodId} {args : Array Value} {below : List Frame} {meth : Method} {c : Code} {r : Int32} {σ' : St} {k90 : Int32 → Int32 → St → Rs} (X : Cx p s m args meth c cX7_sheet RX7 5 (some .int) Γ) (H90 : ∀ (x1 : Int32) (x4 : Int32) (σ : St) (H : Heap) (locs : List Loc) (ls : Array Slot), k90 x1 x4 σ = some (r, σ') → Mv Γ σ s H locs → lv_has ls 5 [(0, .ref (Γ.1 66)), (1, .int x1), (4, .int x4)] → W p l e (rmd 3) s m args below meth c H locs 0 0 (MQ below (Qi Γ r σ' s.heap.size) args s 0 0 (Rg Γ s.heap.size)) (F0 m 90 ls [])) (x1 : Int32) (x4 : Int32) (σ : St) (H : Heap) (locs : List Loc) (ls : Array Slot) (h : f_X7_sheet_b90 k90 x1 x4 σ = some (r, σ')) (M : Mv Γ σ s H locs) (hl : lv_has ls 5 [(0, .ref (Γ.1 66)), (1, .int x1), (4, .int x4)]) : W p l e (rmd 3) s m args below meth c H locs 0 0 (MQ below (Qi Γ r σ' s.heap.size) args s 0 0 (Rg Γ s.heap.size)) (F0 m 90 ls []) := by
  unfold f_X7_sheet_b90 at h
  refine lv_iload X.x X.b dX7_sheet_90 (lv_at hl 2 rfl) ?_
  refine lv_bipush (v := 24) X.x X.b dX7_sheet_92 (by decide) ?_
  refine lv_icmp_ge (tgt := 116) X.x X.b dX7_sheet_94 (by decide) (fun c3 => ?_) (fun c3 => ?_)
  · have h := it_t c3 h
    refine lv_iconst (v := 1) X.x X.b dX7_sheet_116 (by decide) ?_
    exact r_iret X M rfl h dX7_sheet_117
  · have h := it_f c3 h
    refine lv_aload_n X.x X.b dX7_sheet_97 rfl (lv_at hl 0 rfl) ?_
    refine r_get X M hq_66 (el_66 _ _) rfl inX7 20 (by decide) q748 rfl rfl dX7_sheet_98 ?_
    refine lv_bipush (v := 24) X.x X.b dX7_sheet_101 (by decide) ?_
    refine lv_iload_n X.x X.b dX7_sheet_103 rfl (lv_at hl 1 rfl) ?_
    refine lv_imul X.x X.b dX7_sheet_104 ?_
    refine lv_iload X.x X.b dX7_sheet_105 (lv_at hl 2 rfl) ?_
    refine lv_iadd X.x X.b dX7_sheet_107 ?_
    refine lv_iconst (v := 0) X.x X.b dX7_sheet_108 (by decide) ?_
    obtain ⟨c1, h⟩ := it_n h
    obtain ⟨σ2, e2, h⟩ := ol_e h
    refine r_iast (q := 78) (n := 96) X M rfl c1 dX7_sheet_109 (fun H locs M => ?_)
    rw [← e2] at M
    refine lv_iinc (v := (x4 + 1)) (lv' := [(4, .int (x4 + 1)), (0, .ref (Γ.1 66)), (1, .int x1)]) X.x X.b dX7_sheet_110 hl (k := 2) rfl rfl (by decide) rfl (fun ls hl => ?_)
    refine lv_goto (tgt := 90) X.x X.b dX7_sheet_113 (by decide) ?_
    exact H90 x1 (x4 + 1) σ2 _ _ _ h M (lv_sub hl [1, 2, 0] rfl)
def f_X7_sheet_L90 : Nat → Int32 → Int32 → St → Rs
  | 0 => fun _ _ _ => none
  | n + 1 => fun x1 x4 σ => f_X7_sheet_b90 (f_X7_sheet_L90 n) x1 x4 σ
theorem u_X7_sheet_L90 {l : Launch} {Γ : Gm} {p : Program} {e : Env} {s : State} {m : MethodId} {args : Array Value} {below : List Frame} {meth : Method} {c : Code} {r : Int32} {σ' : St} (X : Cx p s m args meth c cX7_sheet RX7 5 (some .int) Γ) : ∀ (n : Nat) (x1 : Int32) (x4 : Int32) (σ : St) (H : Heap) (locs : List Loc) (ls : Array Slot), f_X7_sheet_L90 n x1 x4 σ = some (r, σ') → Mv Γ σ s H locs → lv_has ls 5 [(0, .ref (Γ.1 66)), (1, .int x1), (4, .int x4)] → W p l e (rmd 3) s m args below meth c H locs 0 0 (MQ below (Qi Γ r σ' s.heap.size) args s 0 0 (Rg Γ s.heap.size)) (F0 m 90 ls []) := by
  intro n
  induction n with
  | zero => intro x1 x4 σ H locs ls h; cases h
  | succ n ih => intro x1 x4 σ H locs ls h; exact u_X7_sheet_b90 X  ih x1 x4 σ H locs ls h
def f_X7_sheet_b65 (x1 : Int32) (x2 : Int32) (x3 : Int32) (σ : St) : Rs :=
  if inb x1 4 then (
  ol (st σ 76 x1.toNatClampNeg x2) fun σ2 => (
  if x2 = 0 then (
    if inb x1 4 then (
    ol (st σ2 77 x1.toNatClampNeg 0) fun σ6 => (
    f_X7_sheet_L90 LF x1 0 σ6)) else none
  ) else (
    if inb x1 4 then (
    ol (st σ2 77 x1.toNatClampNeg x3) fun σ4 => (
    f_X7_sheet_L90 LF x1 0 σ4)) else none
  ))) else none
set_option maxRecDepth 100000 in
set_option maxHeartbeats 4000000 in
theorem u_X7_sheet_b65 {l : Launch} {Γ : Gm} {p : Program} {e : Env} {s : State} {m : MethodId} {args : Array Value} {below : List Frame} {meth : Method} {c : Code} {r : Int32} {σ' : St} (X : Cx p s m args meth c cX7_sheet RX7 5 (some .int) Γ) (x1 : Int32) (x2 : Int32) (x3 : Int32) (σ : St) (H : Heap) (locs : List Loc) (ls : Array Slot) (h : f_X7_sheet_b65 x1 x2 x3 σ = some (r, σ')) (M : Mv Γ σ s H locs) (hl : lv_has ls 5 [(0, .ref (Γ.1 66)), (1, .int x1), (2, .int x2), (3, .int x3)]) : W p l e (rmd 3) s m args below meth c H locs 0 0 (MQ below (Qi Γ r σ' s.heap.size) args s 0 0 (Rg Γ s.heap.size)) (F0 m 65 ls []) := by
  unfold f_X7_sheet_b65 at h
  refine lv_aload_n X.x X.b dX7_sheet_65 rfl (lv_at hl 0 rfl) ?_
  refine r_get X M hq_66 (el_66 _ _) rfl inX7 18 (by decide) q746 rfl rfl dX7_sheet_66 ?_
  refine lv_iload_n X.x X.b dX7_sheet_69 rfl (lv_at hl 1 rfl) ?_
  refine lv_iload_n X.x X.b dX7_sheet_70 rfl (lv_at hl 2 rfl) ?_
  obtain ⟨c1, h⟩ := it_n h
  obtain ⟨σ2, e2, h⟩ := ol_e h
  refine r_iast (q := 76) (n := 4) X M rfl c1 dX7_sheet_71 (fun H locs M => ?_)
  rw [← e2] at M
  refine lv_aload_n X.x X.b dX7_sheet_72 rfl (lv_at hl 0 rfl) ?_
  refine r_get X M hq_66 (el_66 _ _) rfl inX7 19 (by decide) q747 rfl rfl dX7_sheet_73 ?_
  refine lv_iload_n X.x X.b dX7_sheet_76 rfl (lv_at hl 1 rfl) ?_
  refine lv_iload_n X.x X.b dX7_sheet_77 rfl (lv_at hl 2 rfl) ?_
  refine lv_if_ne (tgt := 85) X.x X.b dX7_sheet_78 (by decide) (fun c7 => ?_) (fun c7 => ?_)
  · have h := it_f c7 h
    refine lv_iload_n X.x X.b dX7_sheet_85 rfl (lv_at hl 3 rfl) ?_
    obtain ⟨c3, h⟩ := it_n h
    obtain ⟨σ4, e4, h⟩ := ol_e h
    refine r_iast (q := 77) (n := 4) X M rfl c3 dX7_sheet_86 (fun H locs M => ?_)
    rw [← e4] at M
    refine lv_iconst (v := 0) X.x X.b dX7_sheet_87 (by decide) ?_
    refine lv_istore (lv' := [(4, .int 0), (0, .ref (Γ.1 66)), (1, .int x1), (2, .int x2), (3, .int x3)]) X.x X.b dX7_sheet_88 hl (by decide) rfl (fun ls hl => ?_)
    exact u_X7_sheet_L90 X LF x1 0 σ4 _ _ _ h M (lv_sub hl [1, 2, 0] rfl)
  · have h := it_t c7 h
    refine lv_iconst (v := 0) X.x X.b dX7_sheet_81 (by decide) ?_
    refine lv_goto (tgt := 86) X.x X.b dX7_sheet_82 (by decide) ?_
    obtain ⟨c5, h⟩ := it_n h
    obtain ⟨σ6, e6, h⟩ := ol_e h
    refine r_iast (q := 77) (n := 4) X M rfl c5 dX7_sheet_86 (fun H locs M => ?_)
    rw [← e6] at M
    refine lv_iconst (v := 0) X.x X.b dX7_sheet_87 (by decide) ?_
    refine lv_istore (lv' := [(4, .int 0), (0, .ref (Γ.1 66)), (1, .int x1), (2, .int x2), (3, .int x3)]) X.x X.b dX7_sheet_88 hl (by decide) rfl (fun ls hl => ?_)
    exact u_X7_sheet_L90 X LF x1 0 σ6 _ _ _ h M (lv_sub hl [1, 2, 0] rfl)
def f_X7_sheet_b35 (x1 : Int32) (x2 : Int32) (x3 : Int32) (σ : St) : Rs :=
  if x2 = 0 then (
    if x2 = 0 then (
      f_X7_sheet_b65 x1 x2 x3 σ
    ) else (
      if x3 ≤ 24 then (
        f_X7_sheet_b65 x1 x2 x3 σ
      ) else (
        ob (f_X7_error 1 σ) fun r1 σ1 => (
        some (r1, σ1))
      )
    )
  ) else (
    if 0 ≤ x3 then (
      if x2 = 0 then (
        f_X7_sheet_b65 x1 x2 x3 σ
      ) else (
        if x3 ≤ 24 then (
          f_X7_sheet_b65 x1 x2 x3 σ
        ) else (
          ob (f_X7_error 1 σ) fun r4 σ4 => (
          some (r4, σ4))
        )
      )
    ) else (
      ob (f_X7_error 3 σ) fun r7 σ7 => (
      some (r7, σ7))
    )
  )
set_option maxRecDepth 100000 in
set_option maxHeartbeats 4000000 in
theorem u_X7_sheet_b35 {l : Launch} {Γ : Gm} {p : Program} {e : Env} {s : State} {m : MethodId} {args : Array Value} {below : List Frame} {meth : Method} {c : Code} {r : Int32} {σ' : St} (X : Cx p s m args meth c cX7_sheet RX7 5 (some .int) Γ) (x1 : Int32) (x2 : Int32) (x3 : Int32) (σ : St) (H : Heap) (locs : List Loc) (ls : Array Slot) (h : f_X7_sheet_b35 x1 x2 x3 σ = some (r, σ')) (M : Mv Γ σ s H locs) (hl : lv_has ls 5 [(0, .ref (Γ.1 66)), (1, .int x1), (2, .int x2), (3, .int x3)]) : W p l e (rmd 3) s m args below meth c H locs 0 0 (MQ below (Qi Γ r σ' s.heap.size) args s 0 0 (Rg Γ s.heap.size)) (F0 m 35 ls []) := by
  unfold f_X7_sheet_b35 at h
  refine lv_iload_n X.x X.b dX7_sheet_35 rfl (lv_at hl 2 rfl) ?_
  refine lv_if_eq (tgt := 49) X.x X.b dX7_sheet_36 (by decide) (fun c9 => ?_) (fun c9 => ?_)
  · have h := it_t c9 h
    refine lv_iload_n X.x X.b dX7_sheet_49 rfl (lv_at hl 2 rfl) ?_
    refine lv_if_eq (tgt := 65) X.x X.b dX7_sheet_50 (by decide) (fun c3 => ?_) (fun c3 => ?_)
    · have h := it_t c3 h
      exact u_X7_sheet_b65 X x1 x2 x3 σ _ _ _ h M (lv_sub hl [0, 1, 2, 3] rfl)
    · have h := it_f c3 h
      refine lv_iload_n X.x X.b dX7_sheet_53 rfl (lv_at hl 3 rfl) ?_
      refine lv_bipush (v := 24) X.x X.b dX7_sheet_54 (by decide) ?_
      refine lv_icmp_le (tgt := 65) X.x X.b dX7_sheet_56 (by decide) (fun c2 => ?_) (fun c2 => ?_)
      · have h := it_t c2 h
        exact u_X7_sheet_b65 X x1 x2 x3 σ _ _ _ h M (lv_sub hl [0, 1, 2, 3] rfl)
      · have h := it_f c2 h
        refine lv_aload_n X.x X.b dX7_sheet_59 rfl (lv_at hl 0 rfl) ?_
        refine lv_iconst (v := 1) X.x X.b dX7_sheet_60 (by decide) ?_
        obtain ⟨r1, σ1, h1, h⟩ := ob_e h
        refine r_runI M (r_callV (As := [.int 1]) X M (lv_sub hl [] rfl) (T_X7_error h1 _) cal_X7_error q802 ⟨by decide, by decide⟩ hq_66 (el_66 _ _) rfl rfl rfl (Nat.le_of_ble_eq_true rfl) ⟨Nat.le_refl _, Nat.le_refl _⟩ dX7_sheet_61) (fun H locs M => ?_)
        clear h1
        exact r_iret X M rfl h dX7_sheet_64
  · have h := it_f c9 h
    refine lv_iload_n X.x X.b dX7_sheet_39 rfl (lv_at hl 3 rfl) ?_
    refine lv_if_ge (tgt := 49) X.x X.b dX7_sheet_40 (by decide) (fun c8 => ?_) (fun c8 => ?_)
    · have h := it_t c8 h
      refine lv_iload_n X.x X.b dX7_sheet_49 rfl (lv_at hl 2 rfl) ?_
      refine lv_if_eq (tgt := 65) X.x X.b dX7_sheet_50 (by decide) (fun c6 => ?_) (fun c6 => ?_)
      · have h := it_t c6 h
        exact u_X7_sheet_b65 X x1 x2 x3 σ _ _ _ h M (lv_sub hl [0, 1, 2, 3] rfl)
      · have h := it_f c6 h
        refine lv_iload_n X.x X.b dX7_sheet_53 rfl (lv_at hl 3 rfl) ?_
        refine lv_bipush (v := 24) X.x X.b dX7_sheet_54 (by decide) ?_
        refine lv_icmp_le (tgt := 65) X.x X.b dX7_sheet_56 (by decide) (fun c5 => ?_) (fun c5 => ?_)
        · have h := it_t c5 h
          exact u_X7_sheet_b65 X x1 x2 x3 σ _ _ _ h M (lv_sub hl [0, 1, 2, 3] rfl)
        · have h := it_f c5 h
          refine lv_aload_n X.x X.b dX7_sheet_59 rfl (lv_at hl 0 rfl) ?_
          refine lv_iconst (v := 1) X.x X.b dX7_sheet_60 (by decide) ?_
          obtain ⟨r4, σ4, h4, h⟩ := ob_e h
          refine r_runI M (r_callV (As := [.int 1]) X M (lv_sub hl [] rfl) (T_X7_error h4 _) cal_X7_error q802 ⟨by decide, by decide⟩ hq_66 (el_66 _ _) rfl rfl rfl (Nat.le_of_ble_eq_true rfl) ⟨Nat.le_refl _, Nat.le_refl _⟩ dX7_sheet_61) (fun H locs M => ?_)
          clear h4
          exact r_iret X M rfl h dX7_sheet_64
    · have h := it_f c8 h
      refine lv_aload_n X.x X.b dX7_sheet_43 rfl (lv_at hl 0 rfl) ?_
      refine lv_iconst (v := 3) X.x X.b dX7_sheet_44 (by decide) ?_
      obtain ⟨r7, σ7, h7, h⟩ := ob_e h
      refine r_runI M (r_callV (As := [.int 3]) X M (lv_sub hl [] rfl) (T_X7_error h7 _) cal_X7_error q802 ⟨by decide, by decide⟩ hq_66 (el_66 _ _) rfl rfl rfl (Nat.le_of_ble_eq_true rfl) ⟨Nat.le_refl _, Nat.le_refl _⟩ dX7_sheet_45) (fun H locs M => ?_)
      clear h7
      exact r_iret X M rfl h dX7_sheet_48
/-- StreetNumbersModel.sheet(III)I -/
def f_X7_sheet (x1 : Int32) (x2 : Int32) (x3 : Int32) (σ : St) : Rs :=
  ob (f_X7_isSheet x1 σ) fun r1 σ1 => (
  if r1 = 0 then (
    ob (f_X7_error 1 σ1) fun r2 σ2 => (
    some (r2, σ2))
  ) else (
    if x2 = 0 then (
      f_X7_sheet_b35 x1 x2 x3 σ1
    ) else (
      if x2 = 8 then (
        f_X7_sheet_b35 x1 x2 x3 σ1
      ) else (
        if x2 = 16 then (
          f_X7_sheet_b35 x1 x2 x3 σ1
        ) else (
          if x2 = 32 then (
            f_X7_sheet_b35 x1 x2 x3 σ1
          ) else (
            ob (f_X7_error 1 σ1) fun r3 σ3 => (
            some (r3, σ3))
          )
        )
      )
    )
  ))
set_option maxRecDepth 100000 in
set_option maxHeartbeats 4000000 in
theorem T_X7_sheet {l : Launch} {Γ : Gm} {x1 : Int32} {x2 : Int32} {x3 : Int32} {σ : St} {r : Int32} {σ' : St} (h : f_X7_sheet x1 x2 x3 σ = some (r, σ')) : MetI l yX7_sheet cX7_sheet 5 .int 3 Γ σ [.ref (Γ.1 66), .int x1, .int x2, .int x3] r σ' := by
  intro sz
  refine met_in (by decide) (Nat.le_of_ble_eq_true rfl) (fun p e s m args below meth c ls X hsz M hl => ?_)
  subst hsz
  have X : Cx p s m args meth c cX7_sheet RX7 5 (some .int) Γ := X
  have hl : lv_has ls 5 [(0, .ref (Γ.1 66)), (1, .int x1), (2, .int x2), (3, .int x3)] := hl
  unfold f_X7_sheet at h
  refine lv_iload_n X.x X.b dX7_sheet_0 rfl (lv_at hl 1 rfl) ?_
  obtain ⟨r1, σ1, h1, h⟩ := ob_e h
  refine r_runI M (r_callS (As := [.int x1]) X M (lv_sub hl [] rfl) (T_X7_isSheet h1 _) cal_X7_isSheet q1051 ⟨by decide, by decide⟩ rfl rfl (Nat.le_of_ble_eq_true rfl) ⟨Nat.le_refl _, Nat.le_refl _⟩ dX7_sheet_1) (fun H locs M => ?_)
  clear h1
  refine lv_if_eq (tgt := 29) X.x X.b dX7_sheet_4 (by decide) (fun c8 => ?_) (fun c8 => ?_)
  · have h := it_t c8 h
    refine lv_aload_n X.x X.b dX7_sheet_29 rfl (lv_at hl 0 rfl) ?_
    refine lv_iconst (v := 1) X.x X.b dX7_sheet_30 (by decide) ?_
    obtain ⟨r2, σ2, h2, h⟩ := ob_e h
    refine r_runI M (r_callV (As := [.int 1]) X M (lv_sub hl [] rfl) (T_X7_error h2 _) cal_X7_error q802 ⟨by decide, by decide⟩ hq_66 (el_66 _ _) rfl rfl rfl (Nat.le_of_ble_eq_true rfl) ⟨Nat.le_refl _, Nat.le_refl _⟩ dX7_sheet_31) (fun H locs M => ?_)
    clear h2
    exact r_iret X M rfl h dX7_sheet_34
  · have h := it_f c8 h
    refine lv_iload_n X.x X.b dX7_sheet_7 rfl (lv_at hl 2 rfl) ?_
    refine lv_if_eq (tgt := 35) X.x X.b dX7_sheet_8 (by decide) (fun c7 => ?_) (fun c7 => ?_)
    · have h := it_t c7 h
      exact u_X7_sheet_b35 X x1 x2 x3 σ1 _ _ _ h M (lv_sub hl [0, 1, 2, 3] rfl)
    · have h := it_f c7 h
      refine lv_iload_n X.x X.b dX7_sheet_11 rfl (lv_at hl 2 rfl) ?_
      refine lv_bipush (v := 8) X.x X.b dX7_sheet_12 (by decide) ?_
      refine lv_icmp_eq (tgt := 35) X.x X.b dX7_sheet_14 (by decide) (fun c6 => ?_) (fun c6 => ?_)
      · have h := it_t c6 h
        exact u_X7_sheet_b35 X x1 x2 x3 σ1 _ _ _ h M (lv_sub hl [0, 1, 2, 3] rfl)
      · have h := it_f c6 h
        refine lv_iload_n X.x X.b dX7_sheet_17 rfl (lv_at hl 2 rfl) ?_
        refine lv_bipush (v := 16) X.x X.b dX7_sheet_18 (by decide) ?_
        refine lv_icmp_eq (tgt := 35) X.x X.b dX7_sheet_20 (by decide) (fun c5 => ?_) (fun c5 => ?_)
        · have h := it_t c5 h
          exact u_X7_sheet_b35 X x1 x2 x3 σ1 _ _ _ h M (lv_sub hl [0, 1, 2, 3] rfl)
        · have h := it_f c5 h
          refine lv_iload_n X.x X.b dX7_sheet_23 rfl (lv_at hl 2 rfl) ?_
          refine lv_bipush (v := 32) X.x X.b dX7_sheet_24 (by decide) ?_
          refine lv_icmp_eq (tgt := 35) X.x X.b dX7_sheet_26 (by decide) (fun c4 => ?_) (fun c4 => ?_)
          · have h := it_t c4 h
            exact u_X7_sheet_b35 X x1 x2 x3 σ1 _ _ _ h M (lv_sub hl [0, 1, 2, 3] rfl)
          · have h := it_f c4 h
            refine lv_aload_n X.x X.b dX7_sheet_29 rfl (lv_at hl 0 rfl) ?_
            refine lv_iconst (v := 1) X.x X.b dX7_sheet_30 (by decide) ?_
            obtain ⟨r3, σ3, h3, h⟩ := ob_e h
            refine r_runI M (r_callV (As := [.int 1]) X M (lv_sub hl [] rfl) (T_X7_error h3 _) cal_X7_error q802 ⟨by decide, by decide⟩ hq_66 (el_66 _ _) rfl rfl rfl (Nat.le_of_ble_eq_true rfl) ⟨Nat.le_refl _, Nat.le_refl _⟩ dX7_sheet_31) (fun H locs M => ?_)
            clear h3
            exact r_iret X M rfl h dX7_sheet_34
/-- StreetNumbersModel.standing(I)I -/
def f_X7_standing (x1 : Int32) (σ : St) : Rs :=
  ob (f_X7_isHouse x1 σ) fun r1 σ1 => (
  if r1 = 0 then (
    ob (f_X7_error 1 σ1) fun r2 σ2 => (
    some (r2, σ2))
  ) else (
    ob (f_X7_at1 x1 σ1) fun r3 σ3 => (
    some (r3, σ3))
  ))
set_option maxRecDepth 100000 in
set_option maxHeartbeats 4000000 in
theorem T_X7_standing {l : Launch} {Γ : Gm} {x1 : Int32} {σ : St} {r : Int32} {σ' : St} (h : f_X7_standing x1 σ = some (r, σ')) : MetI l yX7_standing cX7_standing 2 .int 3 Γ σ [.ref (Γ.1 66), .int x1] r σ' := by
  intro sz
  refine met_in (by decide) (Nat.le_of_ble_eq_true rfl) (fun p e s m args below meth c ls X hsz M hl => ?_)
  subst hsz
  have X : Cx p s m args meth c cX7_standing RX7 2 (some .int) Γ := X
  have hl : lv_has ls 2 [(0, .ref (Γ.1 66)), (1, .int x1)] := hl
  unfold f_X7_standing at h
  refine lv_aload_n X.x X.b dX7_standing_0 rfl (lv_at hl 0 rfl) ?_
  refine lv_iload_n X.x X.b dX7_standing_1 rfl (lv_at hl 1 rfl) ?_
  obtain ⟨r1, σ1, h1, h⟩ := ob_e h
  refine r_runI M (r_callV (As := [.int x1]) X M (lv_sub hl [] rfl) (T_X7_isHouse h1 _) cal_X7_isHouse q886 ⟨by decide, by decide⟩ hq_66 (el_66 _ _) rfl rfl rfl (Nat.le_of_ble_eq_true rfl) ⟨Nat.le_refl _, Nat.le_refl _⟩ dX7_standing_2) (fun H locs M => ?_)
  clear h1
  refine lv_if_eq (tgt := 16) X.x X.b dX7_standing_5 (by decide) (fun c4 => ?_) (fun c4 => ?_)
  · have h := it_t c4 h
    refine lv_aload_n X.x X.b dX7_standing_16 rfl (lv_at hl 0 rfl) ?_
    refine lv_iconst (v := 1) X.x X.b dX7_standing_17 (by decide) ?_
    obtain ⟨r2, σ2, h2, h⟩ := ob_e h
    refine r_runI M (r_callV (As := [.int 1]) X M (lv_sub hl [] rfl) (T_X7_error h2 _) cal_X7_error q802 ⟨by decide, by decide⟩ hq_66 (el_66 _ _) rfl rfl rfl (Nat.le_of_ble_eq_true rfl) ⟨Nat.le_refl _, Nat.le_refl _⟩ dX7_standing_18) (fun H locs M => ?_)
    clear h2
    exact r_iret X M rfl h dX7_standing_21
  · have h := it_f c4 h
    refine lv_aload_n X.x X.b dX7_standing_8 rfl (lv_at hl 0 rfl) ?_
    refine lv_iload_n X.x X.b dX7_standing_9 rfl (lv_at hl 1 rfl) ?_
    obtain ⟨r3, σ3, h3, h⟩ := ob_e h
    refine r_runI M (r_callV (As := [.int x1]) X M (lv_sub hl [] rfl) (T_X7_at1 h3 _) cal_X7_at1 q920 ⟨by decide, by decide⟩ hq_66 (el_66 _ _) rfl rfl rfl (Nat.le_of_ble_eq_true rfl) ⟨Nat.le_refl _, Nat.le_refl _⟩ dX7_standing_10) (fun H locs M => ?_)
    clear h3
    refine lv_goto (tgt := 21) X.x X.b dX7_standing_13 (by decide) ?_
    exact r_iret X M rfl h dX7_standing_21
/-- StreetNumbersModel.tell(I)I -/
def f_X7_tell (x1 : Int32) (σ : St) : Rs :=
  if inb 4 382 then (
  if (σ 67 (4 : Int32).toNatClampNeg) = 24 then (
    ob (f_X7_error 4 σ) fun r9 σ9 => (
    some (r9, σ9))
  ) else (
    if inb 4 382 then (
    if inb (358 + (σ 67 (4 : Int32).toNatClampNeg)) 382 then (
    ol (st σ 67 (358 + (σ 67 (4 : Int32).toNatClampNeg)).toNatClampNeg x1) fun σ4 => (
    if inb 4 382 then (
    if inb 4 382 then (
    ol (st σ4 67 (4 : Int32).toNatClampNeg ((σ4 67 (4 : Int32).toNatClampNeg) + 1)) fun σ7 => (
    if inb 4 382 then (
    some ((σ7 67 (4 : Int32).toNatClampNeg), σ7)) else none)) else none) else none)) else none) else none
  )) else none
set_option maxRecDepth 100000 in
set_option maxHeartbeats 4000000 in
theorem T_X7_tell {l : Launch} {Γ : Gm} {x1 : Int32} {σ : St} {r : Int32} {σ' : St} (h : f_X7_tell x1 σ = some (r, σ')) : MetI l yX7_tell cX7_tell 2 .int 2 Γ σ [.ref (Γ.1 66), .int x1] r σ' := by
  intro sz
  refine met_in (by decide) (Nat.le_of_ble_eq_true rfl) (fun p e s m args below meth c ls X hsz M hl => ?_)
  subst hsz
  have X : Cx p s m args meth c cX7_tell RX7 2 (some .int) Γ := X
  have hl : lv_has ls 2 [(0, .ref (Γ.1 66)), (1, .int x1)] := hl
  unfold f_X7_tell at h
  refine lv_aload_n X.x X.b dX7_tell_0 rfl (lv_at hl 0 rfl) ?_
  refine r_get X M hq_66 (el_66 _ _) rfl inX7 0 (by decide) q728 rfl rfl dX7_tell_1 ?_
  refine lv_iconst (v := 4) X.x X.b dX7_tell_4 (by decide) ?_
  obtain ⟨c1, h⟩ := it_n h
  refine r_iald (q := 67) (n := 382) X M rfl c1 dX7_tell_5 ?_
  refine lv_bipush (v := 24) X.x X.b dX7_tell_6 (by decide) ?_
  refine lv_icmp_ne (tgt := 17) X.x X.b dX7_tell_8 (by decide) (fun c10 => ?_) (fun c10 => ?_)
  · have h := it_f c10 h
    refine lv_aload_n X.x X.b dX7_tell_17 rfl (lv_at hl 0 rfl) ?_
    refine r_get X M hq_66 (el_66 _ _) rfl inX7 0 (by decide) q728 rfl rfl dX7_tell_18 ?_
    refine lv_sipush (v := 358) X.x X.b dX7_tell_21 (by decide) ?_
    refine lv_aload_n X.x X.b dX7_tell_24 rfl (lv_at hl 0 rfl) ?_
    refine r_get X M hq_66 (el_66 _ _) rfl inX7 0 (by decide) q728 rfl rfl dX7_tell_25 ?_
    refine lv_iconst (v := 4) X.x X.b dX7_tell_28 (by decide) ?_
    obtain ⟨c2, h⟩ := it_n h
    refine r_iald (q := 67) (n := 382) X M rfl c2 dX7_tell_29 ?_
    refine lv_iadd X.x X.b dX7_tell_30 ?_
    refine lv_iload_n X.x X.b dX7_tell_31 rfl (lv_at hl 1 rfl) ?_
    obtain ⟨c3, h⟩ := it_n h
    obtain ⟨σ4, e4, h⟩ := ol_e h
    refine r_iast (q := 67) (n := 382) X M rfl c3 dX7_tell_32 (fun H locs M => ?_)
    rw [← e4] at M
    refine lv_aload_n X.x X.b dX7_tell_33 rfl (lv_at hl 0 rfl) ?_
    refine r_get X M hq_66 (el_66 _ _) rfl inX7 0 (by decide) q728 rfl rfl dX7_tell_34 ?_
    refine lv_iconst (v := 4) X.x X.b dX7_tell_37 (by decide) ?_
    refine lv_dup2_11 X.x X.b dX7_tell_38 rfl rfl ?_
    obtain ⟨c5, h⟩ := it_n h
    refine r_iald (q := 67) (n := 382) X M rfl c5 dX7_tell_39 ?_
    refine lv_iconst (v := 1) X.x X.b dX7_tell_40 (by decide) ?_
    refine lv_iadd X.x X.b dX7_tell_41 ?_
    obtain ⟨c6, h⟩ := it_n h
    obtain ⟨σ7, e7, h⟩ := ol_e h
    refine r_iast (q := 67) (n := 382) X M rfl c6 dX7_tell_42 (fun H locs M => ?_)
    rw [← e7] at M
    refine lv_aload_n X.x X.b dX7_tell_43 rfl (lv_at hl 0 rfl) ?_
    refine r_get X M hq_66 (el_66 _ _) rfl inX7 0 (by decide) q728 rfl rfl dX7_tell_44 ?_
    refine lv_iconst (v := 4) X.x X.b dX7_tell_47 (by decide) ?_
    obtain ⟨c8, h⟩ := it_n h
    refine r_iald (q := 67) (n := 382) X M rfl c8 dX7_tell_48 ?_
    exact r_iret X M rfl h dX7_tell_49
  · have h := it_t c10 h
    refine lv_aload_n X.x X.b dX7_tell_11 rfl (lv_at hl 0 rfl) ?_
    refine lv_iconst (v := 4) X.x X.b dX7_tell_12 (by decide) ?_
    obtain ⟨r9, σ9, h9, h⟩ := ob_e h
    refine r_runI M (r_callV (As := [.int 4]) X M (lv_sub hl [] rfl) (T_X7_error h9 _) cal_X7_error q802 ⟨by decide, by decide⟩ hq_66 (el_66 _ _) rfl rfl rfl (Nat.le_of_ble_eq_true rfl) ⟨Nat.le_refl _, Nat.le_refl _⟩ dX7_tell_13) (fun H locs M => ?_)
    clear h9
    exact r_iret X M rfl h dX7_tell_16
/-- StreetNumbersModel.look()I -/
def f_X7_look (σ : St) : Rs :=
  if inb 3 382 then (
  if (σ 67 (3 : Int32).toNatClampNeg) ≤ (σ 66 4) then (
    some ((-1), σ)
  ) else (
    if inb (298 + (σ 66 4)) 382 then (
    some ((σ 67 (298 + (σ 66 4)).toNatClampNeg), σ)) else none
  )) else none
set_option maxRecDepth 100000 in
set_option maxHeartbeats 4000000 in
theorem T_X7_look {l : Launch} {Γ : Gm} {σ : St} {r : Int32} {σ' : St} (h : f_X7_look σ = some (r, σ')) : MetI l yX7_look cX7_look 1 .int 1 Γ σ [.ref (Γ.1 66)] r σ' := by
  intro sz
  refine met_in (by decide) (Nat.le_of_ble_eq_true rfl) (fun p e s m args below meth c ls X hsz M hl => ?_)
  subst hsz
  have X : Cx p s m args meth c cX7_look RX7 1 (some .int) Γ := X
  have hl : lv_has ls 1 [(0, .ref (Γ.1 66))] := hl
  unfold f_X7_look at h
  refine lv_aload_n X.x X.b dX7_look_0 rfl (lv_at hl 0 rfl) ?_
  refine r_get X M hq_66 (el_66 _ _) rfl inX7 4 (by decide) q732 rfl rfl dX7_look_1 ?_
  refine lv_aload_n X.x X.b dX7_look_4 rfl (lv_at hl 0 rfl) ?_
  refine r_get X M hq_66 (el_66 _ _) rfl inX7 0 (by decide) q728 rfl rfl dX7_look_5 ?_
  refine lv_iconst (v := 3) X.x X.b dX7_look_8 (by decide) ?_
  obtain ⟨c1, h⟩ := it_n h
  refine r_iald (q := 67) (n := 382) X M rfl c1 dX7_look_9 ?_
  refine lv_icmp_ge (tgt := 29) X.x X.b dX7_look_10 (by decide) (fun c3 => ?_) (fun c3 => ?_)
  · have h := it_t c3 h
    refine lv_iconst (v := (-1)) X.x X.b dX7_look_29 (by decide) ?_
    exact r_iret X M rfl h dX7_look_30
  · have h := it_f c3 h
    refine lv_aload_n X.x X.b dX7_look_13 rfl (lv_at hl 0 rfl) ?_
    refine r_get X M hq_66 (el_66 _ _) rfl inX7 0 (by decide) q728 rfl rfl dX7_look_14 ?_
    refine lv_sipush (v := 298) X.x X.b dX7_look_17 (by decide) ?_
    refine lv_aload_n X.x X.b dX7_look_20 rfl (lv_at hl 0 rfl) ?_
    refine r_get X M hq_66 (el_66 _ _) rfl inX7 4 (by decide) q732 rfl rfl dX7_look_21 ?_
    refine lv_iadd X.x X.b dX7_look_24 ?_
    obtain ⟨c2, h⟩ := it_n h
    refine r_iald (q := 67) (n := 382) X M rfl c2 dX7_look_25 ?_
    refine lv_goto (tgt := 30) X.x X.b dX7_look_26 (by decide) ?_
    exact r_iret X M rfl h dX7_look_30
/-- StreetNumbersModel.isName(I)Z -/
def f_X7_isName (x1 : Int32) (σ : St) : Rs :=
  if x1 = 121 then (
    some (1, σ)
  ) else (
    if (σ 66 7) = 0 then (
      if x1 = 104 then (
        some (1, σ)
      ) else (
        if x1 = 111 then (
          some (1, σ)
        ) else (
          some (0, σ)
        )
      )
    ) else (
      if x1 = 98 then (
        some (1, σ)
      ) else (
        if x1 = 115 then (
          some (1, σ)
        ) else (
          some (0, σ)
        )
      )
    )
  )
set_option maxRecDepth 100000 in
set_option maxHeartbeats 4000000 in
theorem T_X7_isName {l : Launch} {Γ : Gm} {x1 : Int32} {σ : St} {r : Int32} {σ' : St} (h : f_X7_isName x1 σ = some (r, σ')) : MetI l yX7_isName cX7_isName 2 .boolean 1 Γ σ [.ref (Γ.1 66), .int x1] r σ' := by
  intro sz
  refine met_in (by decide) (Nat.le_of_ble_eq_true rfl) (fun p e s m args below meth c ls X hsz M hl => ?_)
  subst hsz
  have X : Cx p s m args meth c cX7_isName RX7 2 (some .boolean) Γ := X
  have hl : lv_has ls 2 [(0, .ref (Γ.1 66)), (1, .int x1)] := hl
  unfold f_X7_isName at h
  refine lv_iload_n X.x X.b dX7_isName_0 rfl (lv_at hl 1 rfl) ?_
  refine lv_bipush (v := 121) X.x X.b dX7_isName_1 (by decide) ?_
  refine lv_icmp_ne (tgt := 8) X.x X.b dX7_isName_3 (by decide) (fun c6 => ?_) (fun c6 => ?_)
  · have h := it_f c6 h
    refine lv_aload_n X.x X.b dX7_isName_8 rfl (lv_at hl 0 rfl) ?_
    refine r_get X M hq_66 (el_66 _ _) rfl inX7 7 (by decide) q735 rfl rfl dX7_isName_9 ?_
    refine lv_if_ne (tgt := 35) X.x X.b dX7_isName_12 (by decide) (fun c5 => ?_) (fun c5 => ?_)
    · have h := it_f c5 h
      refine lv_iload_n X.x X.b dX7_isName_35 rfl (lv_at hl 1 rfl) ?_
      refine lv_bipush (v := 98) X.x X.b dX7_isName_36 (by decide) ?_
      refine lv_icmp_eq (tgt := 47) X.x X.b dX7_isName_38 (by decide) (fun c2 => ?_) (fun c2 => ?_)
      · have h := it_t c2 h
        refine lv_iconst (v := 1) X.x X.b dX7_isName_47 (by decide) ?_
        refine lv_goto (tgt := 52) X.x X.b dX7_isName_48 (by decide) ?_
        exact r_iret X M rfl h dX7_isName_52
      · have h := it_f c2 h
        refine lv_iload_n X.x X.b dX7_isName_41 rfl (lv_at hl 1 rfl) ?_
        refine lv_bipush (v := 115) X.x X.b dX7_isName_42 (by decide) ?_
        refine lv_icmp_ne (tgt := 51) X.x X.b dX7_isName_44 (by decide) (fun c1 => ?_) (fun c1 => ?_)
        · have h := it_f c1 h
          refine lv_iconst (v := 0) X.x X.b dX7_isName_51 (by decide) ?_
          exact r_iret X M rfl h dX7_isName_52
        · have h := it_t c1 h
          refine lv_iconst (v := 1) X.x X.b dX7_isName_47 (by decide) ?_
          refine lv_goto (tgt := 52) X.x X.b dX7_isName_48 (by decide) ?_
          exact r_iret X M rfl h dX7_isName_52
    · have h := it_t c5 h
      refine lv_iload_n X.x X.b dX7_isName_15 rfl (lv_at hl 1 rfl) ?_
      refine lv_bipush (v := 104) X.x X.b dX7_isName_16 (by decide) ?_
      refine lv_icmp_eq (tgt := 27) X.x X.b dX7_isName_18 (by decide) (fun c4 => ?_) (fun c4 => ?_)
      · have h := it_t c4 h
        refine lv_iconst (v := 1) X.x X.b dX7_isName_27 (by decide) ?_
        refine lv_goto (tgt := 52) X.x X.b dX7_isName_28 (by decide) ?_
        exact r_iret X M rfl h dX7_isName_52
      · have h := it_f c4 h
        refine lv_iload_n X.x X.b dX7_isName_21 rfl (lv_at hl 1 rfl) ?_
        refine lv_bipush (v := 111) X.x X.b dX7_isName_22 (by decide) ?_
        refine lv_icmp_ne (tgt := 31) X.x X.b dX7_isName_24 (by decide) (fun c3 => ?_) (fun c3 => ?_)
        · have h := it_f c3 h
          refine lv_iconst (v := 0) X.x X.b dX7_isName_31 (by decide) ?_
          refine lv_goto (tgt := 52) X.x X.b dX7_isName_32 (by decide) ?_
          exact r_iret X M rfl h dX7_isName_52
        · have h := it_t c3 h
          refine lv_iconst (v := 1) X.x X.b dX7_isName_27 (by decide) ?_
          refine lv_goto (tgt := 52) X.x X.b dX7_isName_28 (by decide) ?_
          exact r_iret X M rfl h dX7_isName_52
  · have h := it_t c6 h
    refine lv_iconst (v := 1) X.x X.b dX7_isName_6 (by decide) ?_
    exact r_iret X M rfl h dX7_isName_7
/-- StreetNumbersModel.opens()Z -/
def f_X7_opens (σ : St) : Rs :=
  if (σ 66 5) = 5 then (
    some (0, σ)
  ) else (
    ol (st σ 66 5 ((σ 66 5) + 1)) fun σ1 => (
    ol (st σ1 66 4 ((σ1 66 4) + 1)) fun σ2 => (
    some (1, σ2)))
  )
set_option maxRecDepth 100000 in
set_option maxHeartbeats 4000000 in
theorem T_X7_opens {l : Launch} {Γ : Gm} {σ : St} {r : Int32} {σ' : St} (h : f_X7_opens σ = some (r, σ')) : MetI l yX7_opens cX7_opens 1 .boolean 1 Γ σ [.ref (Γ.1 66)] r σ' := by
  intro sz
  refine met_in (by decide) (Nat.le_of_ble_eq_true rfl) (fun p e s m args below meth c ls X hsz M hl => ?_)
  subst hsz
  have X : Cx p s m args meth c cX7_opens RX7 1 (some .boolean) Γ := X
  have hl : lv_has ls 1 [(0, .ref (Γ.1 66))] := hl
  unfold f_X7_opens at h
  refine lv_aload_n X.x X.b dX7_opens_0 rfl (lv_at hl 0 rfl) ?_
  refine r_get X M hq_66 (el_66 _ _) rfl inX7 5 (by decide) q733 rfl rfl dX7_opens_1 ?_
  refine lv_iconst (v := 5) X.x X.b dX7_opens_4 (by decide) ?_
  refine lv_icmp_ne (tgt := 10) X.x X.b dX7_opens_5 (by decide) (fun c3 => ?_) (fun c3 => ?_)
  · have h := it_f c3 h
    refine lv_aload_n X.x X.b dX7_opens_10 rfl (lv_at hl 0 rfl) ?_
    refine lv_dup X.x X.b dX7_opens_11 rfl ?_
    refine r_get X M hq_66 (el_66 _ _) rfl inX7 5 (by decide) q733 rfl rfl dX7_opens_12 ?_
    refine lv_iconst (v := 1) X.x X.b dX7_opens_15 (by decide) ?_
    refine lv_iadd X.x X.b dX7_opens_16 ?_
    obtain ⟨σ1, e1, h⟩ := ol_e h
    refine r_put (x := ((σ 66 5) + 1)) (ty := .int) X M hq_66 (el_66 _ _) rfl inX7 tyX7_ok nmX7 5 (by decide) q733 rfl rfl rfl rfl rfl (Nat.le_of_ble_eq_true rfl) (pf_66_5 _ _ _) dX7_opens_17 (fun H locs M => ?_)
    rw [← e1] at M
    refine lv_aload_n X.x X.b dX7_opens_20 rfl (lv_at hl 0 rfl) ?_
    refine lv_dup X.x X.b dX7_opens_21 rfl ?_
    refine r_get X M hq_66 (el_66 _ _) rfl inX7 4 (by decide) q732 rfl rfl dX7_opens_22 ?_
    refine lv_iconst (v := 1) X.x X.b dX7_opens_25 (by decide) ?_
    refine lv_iadd X.x X.b dX7_opens_26 ?_
    obtain ⟨σ2, e2, h⟩ := ol_e h
    refine r_put (x := ((σ1 66 4) + 1)) (ty := .int) X M hq_66 (el_66 _ _) rfl inX7 tyX7_ok nmX7 4 (by decide) q732 rfl rfl rfl rfl rfl (Nat.le_of_ble_eq_true rfl) (pf_66_4 _ _ _) dX7_opens_27 (fun H locs M => ?_)
    rw [← e2] at M
    refine lv_iconst (v := 1) X.x X.b dX7_opens_30 (by decide) ?_
    exact r_iret X M rfl h dX7_opens_31
  · have h := it_t c3 h
    refine lv_iconst (v := 0) X.x X.b dX7_opens_8 (by decide) ?_
    exact r_iret X M rfl h dX7_opens_9
/-- StreetNumbersModel.step1(II)V -/
def f_X7_step1 (x1 : Int32) (x2 : Int32) (σ : St) : Rs :=
  if inb (2 * (σ 66 6)) 124 then (
  ol (st σ 70 (2 * (σ 66 6)).toNatClampNeg x1) fun σ2 => (
  if inb ((2 * (σ2 66 6)) + 1) 124 then (
  ol (st σ2 70 ((2 * (σ2 66 6)) + 1).toNatClampNeg x2) fun σ4 => (
  ol (st σ4 66 6 ((σ4 66 6) + 1)) fun σ5 => (
  some (0, σ5)))) else none)) else none
set_option maxRecDepth 100000 in
set_option maxHeartbeats 4000000 in
theorem T_X7_step1 {l : Launch} {Γ : Gm} {x1 : Int32} {x2 : Int32} {σ : St} {r : Int32} {σ' : St} (h : f_X7_step1 x1 x2 σ = some (r, σ')) : MetV l yX7_step1 cX7_step1 3 1 Γ σ [.ref (Γ.1 66), .int x1, .int x2] σ' := by
  intro sz
  refine met_in (by decide) (Nat.le_of_ble_eq_true rfl) (fun p e s m args below meth c ls X hsz M hl => ?_)
  subst hsz
  have X : Cx p s m args meth c cX7_step1 RX7 3 none Γ := X
  have hl : lv_has ls 3 [(0, .ref (Γ.1 66)), (1, .int x1), (2, .int x2)] := hl
  unfold f_X7_step1 at h
  refine lv_aload_n X.x X.b dX7_step1_0 rfl (lv_at hl 0 rfl) ?_
  refine r_get X M hq_66 (el_66 _ _) rfl inX7 8 (by decide) q736 rfl rfl dX7_step1_1 ?_
  refine lv_iconst (v := 2) X.x X.b dX7_step1_4 (by decide) ?_
  refine lv_aload_n X.x X.b dX7_step1_5 rfl (lv_at hl 0 rfl) ?_
  refine r_get X M hq_66 (el_66 _ _) rfl inX7 6 (by decide) q734 rfl rfl dX7_step1_6 ?_
  refine lv_imul X.x X.b dX7_step1_9 ?_
  refine lv_iload_n X.x X.b dX7_step1_10 rfl (lv_at hl 1 rfl) ?_
  obtain ⟨c1, h⟩ := it_n h
  obtain ⟨σ2, e2, h⟩ := ol_e h
  refine r_iast (q := 70) (n := 124) X M rfl c1 dX7_step1_11 (fun H locs M => ?_)
  rw [← e2] at M
  refine lv_aload_n X.x X.b dX7_step1_12 rfl (lv_at hl 0 rfl) ?_
  refine r_get X M hq_66 (el_66 _ _) rfl inX7 8 (by decide) q736 rfl rfl dX7_step1_13 ?_
  refine lv_iconst (v := 2) X.x X.b dX7_step1_16 (by decide) ?_
  refine lv_aload_n X.x X.b dX7_step1_17 rfl (lv_at hl 0 rfl) ?_
  refine r_get X M hq_66 (el_66 _ _) rfl inX7 6 (by decide) q734 rfl rfl dX7_step1_18 ?_
  refine lv_imul X.x X.b dX7_step1_21 ?_
  refine lv_iconst (v := 1) X.x X.b dX7_step1_22 (by decide) ?_
  refine lv_iadd X.x X.b dX7_step1_23 ?_
  refine lv_iload_n X.x X.b dX7_step1_24 rfl (lv_at hl 2 rfl) ?_
  obtain ⟨c3, h⟩ := it_n h
  obtain ⟨σ4, e4, h⟩ := ol_e h
  refine r_iast (q := 70) (n := 124) X M rfl c3 dX7_step1_25 (fun H locs M => ?_)
  rw [← e4] at M
  refine lv_aload_n X.x X.b dX7_step1_26 rfl (lv_at hl 0 rfl) ?_
  refine lv_dup X.x X.b dX7_step1_27 rfl ?_
  refine r_get X M hq_66 (el_66 _ _) rfl inX7 6 (by decide) q734 rfl rfl dX7_step1_28 ?_
  refine lv_iconst (v := 1) X.x X.b dX7_step1_31 (by decide) ?_
  refine lv_iadd X.x X.b dX7_step1_32 ?_
  obtain ⟨σ5, e5, h⟩ := ol_e h
  refine r_put (x := ((σ4 66 6) + 1)) (ty := .int) X M hq_66 (el_66 _ _) rfl inX7 tyX7_ok nmX7 6 (by decide) q734 rfl rfl rfl rfl rfl (Nat.le_of_ble_eq_true rfl) (pf_66_6 _ _ _) dX7_step1_33 (fun H locs M => ?_)
  rw [← e5] at M
  exact r_vret X M h dX7_step1_36
