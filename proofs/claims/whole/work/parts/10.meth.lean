/-- StreetNumbers$Street.hasHouse(I)Z -/
def f_X3_hasHouse (x1 : Int32) (σ : St) : Rs :=
  if x1 < 0 then (
    some (0, σ)
  ) else (
    if (σ 1 1) ≤ x1 then (
      some (0, σ)
    ) else (
      if 10 ≤ x1 then (
        some (0, σ)
      ) else (
        some (1, σ)
      )
    )
  )
set_option maxRecDepth 100000 in
set_option maxHeartbeats 4000000 in
theorem T_X3_hasHouse {l : Launch} {Γ : Gm} {x1 : Int32} {σ : St} {r : Int32} {σ' : St} (h : f_X3_hasHouse x1 σ = some (r, σ')) : MetI l yX3_hasHouse cX3_hasHouse 2 .boolean 1 Γ σ [.ref (Γ.1 1), .int x1] r σ' := by
  intro sz
  refine met_in (by decide) (Nat.le_of_ble_eq_true rfl) (fun p e s m args below meth c ls X hsz M hl => ?_)
  subst hsz
  have X : Cx p s m args meth c cX3_hasHouse RX3 2 (some .boolean) Γ := X
  have hl : lv_has ls 2 [(0, .ref (Γ.1 1)), (1, .int x1)] := hl
  unfold f_X3_hasHouse at h
  refine lv_iload_n X.x X.b dX3_hasHouse_0 rfl (lv_at hl 1 rfl) ?_
  refine lv_if_lt (tgt := 22) X.x X.b dX3_hasHouse_1 (by decide) (fun c3 => ?_) (fun c3 => ?_)
  · have h := it_t c3 h
    refine lv_iconst (v := 0) X.x X.b dX3_hasHouse_22 (by decide) ?_
    exact r_iret X M rfl h dX3_hasHouse_23
  · have h := it_f c3 h
    refine lv_iload_n X.x X.b dX3_hasHouse_4 rfl (lv_at hl 1 rfl) ?_
    refine lv_aload_n X.x X.b dX3_hasHouse_5 rfl (lv_at hl 0 rfl) ?_
    refine r_get X M hq_1 (el_1 _ _) rfl inX3 1 (by decide) q55 rfl rfl dX3_hasHouse_6 ?_
    refine lv_icmp_ge (tgt := 22) X.x X.b dX3_hasHouse_9 (by decide) (fun c2 => ?_) (fun c2 => ?_)
    · have h := it_t c2 h
      refine lv_iconst (v := 0) X.x X.b dX3_hasHouse_22 (by decide) ?_
      exact r_iret X M rfl h dX3_hasHouse_23
    · have h := it_f c2 h
      refine lv_iload_n X.x X.b dX3_hasHouse_12 rfl (lv_at hl 1 rfl) ?_
      refine lv_bipush (v := 10) X.x X.b dX3_hasHouse_13 (by decide) ?_
      refine lv_icmp_ge (tgt := 22) X.x X.b dX3_hasHouse_15 (by decide) (fun c1 => ?_) (fun c1 => ?_)
      · have h := it_t c1 h
        refine lv_iconst (v := 0) X.x X.b dX3_hasHouse_22 (by decide) ?_
        exact r_iret X M rfl h dX3_hasHouse_23
      · have h := it_f c1 h
        refine lv_iconst (v := 1) X.x X.b dX3_hasHouse_18 (by decide) ?_
        refine lv_goto (tgt := 23) X.x X.b dX3_hasHouse_19 (by decide) ?_
        exact r_iret X M rfl h dX3_hasHouse_23
/-- StreetNumbers.failing(I)I -/
def f_X6_failing (x1 : Int32) (σ : St) : Rs :=
  if x1 < 0 then (
    some (((-1000000000) - x1), σ)
  ) else (
    if 7 ≤ x1 then (
      some (((-1000000000) - x1), σ)
    ) else (
      if inb x1 7 then (
      if inb x1 7 then (
      ol (st σ 65 x1.toNatClampNeg ((σ 65 x1.toNatClampNeg) + 1)) fun σ3 => (
      some (((-1000000000) - x1), σ3))) else none) else none
    )
  )
set_option maxRecDepth 100000 in
set_option maxHeartbeats 4000000 in
theorem T_X6_failing {l : Launch} {Γ : Gm} {x1 : Int32} {σ : St} {r : Int32} {σ' : St} (h : f_X6_failing x1 σ = some (r, σ')) : MetI l yX6_failing cX6_failing 2 .int 1 Γ σ [.ref (Γ.1 0), .int x1] r σ' := by
  intro sz
  refine met_in (by decide) (Nat.le_of_ble_eq_true rfl) (fun p e s m args below meth c ls X hsz M hl => ?_)
  subst hsz
  have X : Cx p s m args meth c cX6_failing RX6 2 (some .int) Γ := X
  have hl : lv_has ls 2 [(0, .ref (Γ.1 0)), (1, .int x1)] := hl
  unfold f_X6_failing at h
  refine lv_iload_n X.x X.b dX6_failing_0 rfl (lv_at hl 1 rfl) ?_
  refine lv_if_lt (tgt := 23) X.x X.b dX6_failing_1 (by decide) (fun c5 => ?_) (fun c5 => ?_)
  · have h := it_t c5 h
    refine lv_ldcw (v := (-1000000000)) X.x X.b X.ow (X.ts _ q227) dX6_failing_23 ?_
    refine lv_iload_n X.x X.b dX6_failing_26 rfl (lv_at hl 1 rfl) ?_
    refine lv_isub X.x X.b dX6_failing_27 ?_
    exact r_iret X M rfl h dX6_failing_28
  · have h := it_f c5 h
    refine lv_iload_n X.x X.b dX6_failing_4 rfl (lv_at hl 1 rfl) ?_
    refine lv_aload_n X.x X.b dX6_failing_5 rfl (lv_at hl 0 rfl) ?_
    refine r_get X M hq_0 (el_0 _ _) rfl inX6 6 (by decide) q194 rfl rfl dX6_failing_6 ?_
    refine r_alen (q := 65) (n := 7) (v := 7) X M rfl (by decide) rfl dX6_failing_9 ?_
    refine lv_icmp_ge (tgt := 23) X.x X.b dX6_failing_10 (by decide) (fun c4 => ?_) (fun c4 => ?_)
    · have h := it_t c4 h
      refine lv_ldcw (v := (-1000000000)) X.x X.b X.ow (X.ts _ q227) dX6_failing_23 ?_
      refine lv_iload_n X.x X.b dX6_failing_26 rfl (lv_at hl 1 rfl) ?_
      refine lv_isub X.x X.b dX6_failing_27 ?_
      exact r_iret X M rfl h dX6_failing_28
    · have h := it_f c4 h
      refine lv_aload_n X.x X.b dX6_failing_13 rfl (lv_at hl 0 rfl) ?_
      refine r_get X M hq_0 (el_0 _ _) rfl inX6 6 (by decide) q194 rfl rfl dX6_failing_14 ?_
      refine lv_iload_n X.x X.b dX6_failing_17 rfl (lv_at hl 1 rfl) ?_
      refine lv_dup2_11 X.x X.b dX6_failing_18 rfl rfl ?_
      obtain ⟨c1, h⟩ := it_n h
      refine r_iald (q := 65) (n := 7) X M rfl c1 dX6_failing_19 ?_
      refine lv_iconst (v := 1) X.x X.b dX6_failing_20 (by decide) ?_
      refine lv_iadd X.x X.b dX6_failing_21 ?_
      obtain ⟨c2, h⟩ := it_n h
      obtain ⟨σ3, e3, h⟩ := ol_e h
      refine r_iast (q := 65) (n := 7) X M rfl c2 dX6_failing_22 (fun H locs M => ?_)
      rw [← e3] at M
      refine lv_ldcw (v := (-1000000000)) X.x X.b X.ow (X.ts _ q227) dX6_failing_23 ?_
      refine lv_iload_n X.x X.b dX6_failing_26 rfl (lv_at hl 1 rfl) ?_
      refine lv_isub X.x X.b dX6_failing_27 ?_
      exact r_iret X M rfl h dX6_failing_28
/-- StreetNumbers$Street.kind(I)I -/
def f_X3_kind (x1 : Int32) (σ : St) : Rs :=
  ob (f_X3_hasHouse x1 σ) fun r1 σ1 => (
  if r1 = 0 then (
    some (0, σ1)
  ) else (
    if inb x1 10 then (
    some ((σ1 9 x1.toNatClampNeg), σ1)) else none
  ))
set_option maxRecDepth 100000 in
set_option maxHeartbeats 4000000 in
theorem T_X3_kind {l : Launch} {Γ : Gm} {x1 : Int32} {σ : St} {r : Int32} {σ' : St} (h : f_X3_kind x1 σ = some (r, σ')) : MetI l yX3_kind cX3_kind 2 .int 2 Γ σ [.ref (Γ.1 1), .int x1] r σ' := by
  intro sz
  refine met_in (by decide) (Nat.le_of_ble_eq_true rfl) (fun p e s m args below meth c ls X hsz M hl => ?_)
  subst hsz
  have X : Cx p s m args meth c cX3_kind RX3 2 (some .int) Γ := X
  have hl : lv_has ls 2 [(0, .ref (Γ.1 1)), (1, .int x1)] := hl
  unfold f_X3_kind at h
  refine lv_aload_n X.x X.b dX3_kind_0 rfl (lv_at hl 0 rfl) ?_
  refine lv_iload_n X.x X.b dX3_kind_1 rfl (lv_at hl 1 rfl) ?_
  obtain ⟨r1, σ1, h1, h⟩ := ob_e h
  refine r_runI M (r_callV (As := [.int x1]) X M (lv_sub hl [] rfl) (T_X3_hasHouse h1 _) cal_X3_hasHouse q239 ⟨by decide, by decide⟩ hq_1 (el_1 _ _) rfl rfl rfl (Nat.le_of_ble_eq_true rfl) ⟨Nat.le_refl _, Nat.le_refl _⟩ dX3_kind_2) (fun H locs M => ?_)
  clear h1
  refine lv_if_eq (tgt := 17) X.x X.b dX3_kind_5 (by decide) (fun c3 => ?_) (fun c3 => ?_)
  · have h := it_t c3 h
    refine lv_iconst (v := 0) X.x X.b dX3_kind_17 (by decide) ?_
    exact r_iret X M rfl h dX3_kind_18
  · have h := it_f c3 h
    refine lv_aload_n X.x X.b dX3_kind_8 rfl (lv_at hl 0 rfl) ?_
    refine r_get X M hq_1 (el_1 _ _) rfl inX3 6 (by decide) q65 rfl rfl dX3_kind_9 ?_
    refine lv_iload_n X.x X.b dX3_kind_12 rfl (lv_at hl 1 rfl) ?_
    obtain ⟨c2, h⟩ := it_n h
    refine r_iald (q := 9) (n := 10) X M rfl c2 dX3_kind_13 ?_
    refine lv_goto (tgt := 18) X.x X.b dX3_kind_14 (by decide) ?_
    exact r_iret X M rfl h dX3_kind_18
/-- StreetNumbers.kindAbove(I)I -/
def f_X6_kindAbove (x0 : Int32) (σ : St) : Rs :=
  if x0 < 0 then (
    some ((-1), σ)
  ) else (
    if 7 ≤ x0 then (
      some ((-1), σ)
    ) else (
      if inb x0 7 then (
      some ((tKA x0.toNatClampNeg), σ)) else none
    )
  )
set_option maxRecDepth 100000 in
set_option maxHeartbeats 4000000 in
theorem T_X6_kindAbove {l : Launch} {Γ : Gm} {x0 : Int32} {σ : St} {r : Int32} {σ' : St} (h : f_X6_kindAbove x0 σ = some (r, σ')) : MetI l yX6_kindAbove cX6_kindAbove 1 .int 1 Γ σ [.int x0] r σ' := by
  intro sz
  refine met_in (by decide) (Nat.le_of_ble_eq_true rfl) (fun p e s m args below meth c ls X hsz M hl => ?_)
  subst hsz
  have X : Cx p s m args meth c cX6_kindAbove RX6 1 (some .int) Γ := X
  have hl : lv_has ls 1 [(0, .int x0)] := hl
  unfold f_X6_kindAbove at h
  refine lv_iload_n X.x X.b dX6_kindAbove_0 rfl (lv_at hl 0 rfl) ?_
  refine lv_if_lt (tgt := 20) X.x X.b dX6_kindAbove_1 (by decide) (fun c3 => ?_) (fun c3 => ?_)
  · have h := it_t c3 h
    refine lv_iconst (v := (-1)) X.x X.b dX6_kindAbove_20 (by decide) ?_
    exact r_iret X M rfl h dX6_kindAbove_21
  · have h := it_f c3 h
    refine lv_iload_n X.x X.b dX6_kindAbove_4 rfl (lv_at hl 0 rfl) ?_
    refine r_gets X M X.F.2.2.2.1 q334 dX6_kindAbove_5 ?_
    refine r_tlen (v := 7) X M X.F.2.2.2.1 rfl dX6_kindAbove_8 ?_
    refine lv_icmp_ge (tgt := 20) X.x X.b dX6_kindAbove_9 (by decide) (fun c2 => ?_) (fun c2 => ?_)
    · have h := it_t c2 h
      refine lv_iconst (v := (-1)) X.x X.b dX6_kindAbove_20 (by decide) ?_
      exact r_iret X M rfl h dX6_kindAbove_21
    · have h := it_f c2 h
      refine r_gets X M X.F.2.2.2.1 q334 dX6_kindAbove_12 ?_
      refine lv_iload_n X.x X.b dX6_kindAbove_15 rfl (lv_at hl 0 rfl) ?_
      obtain ⟨c1, h⟩ := it_n h
      refine r_ti X M X.F.2.2.2.1 c1 dX6_kindAbove_16 ?_
      refine lv_goto (tgt := 21) X.x X.b dX6_kindAbove_17 (by decide) ?_
      exact r_iret X M rfl h dX6_kindAbove_21
def f_X6_isOrIsUnder_b4 (k4 : (Int32 → Int32 → Int32 → St → Rs)) (x1 : Int32) (x2 : Int32) (x3 : Int32) (σ : St) : Rs :=
  if 7 ≤ x3 then (
    some (0, σ)
  ) else (
    if x2 < 0 then (
      some (0, σ)
    ) else (
      if x2 = x1 then (
        some (1, σ)
      ) else (
        ob (f_X6_kindAbove x2 σ) fun r1 σ1 => (
        k4 x1 r1 (x3 + 1) σ1)
      )
    )
  )
set_option maxRecDepth 100000 in
set_option maxHeartbeats 4000000 in
theorem u_X6_isOrIsUnder_b4 {l : Launch} {Γ : Gm} {p : Program} {e : Env} {s : State} {m : MethodId} {args : Array Value} {below : List Frame} {meth : Method} {c : Code} {r : Int32} {σ' : St} {k4 : Int32 → Int32 → Int32 → St → Rs} (X : Cx p s m args meth c cX6_isOrIsUnder RX6 4 (some .boolean) Γ) (H4 : ∀ (x1 : Int32) (x2 : Int32) (x3 : Int32) (σ : St) (H : Heap) (locs : List Loc) (ls : Array Slot), k4 x1 x2 x3 σ = some (r, σ') → Mv Γ σ s H locs → lv_has ls 4 [(1, .int x1), (2, .int x2), (3, .int x3)] → W p l e (rmd 2) s m args below meth c H locs 0 0 (MQ below (Qi Γ r σ' s.heap.size) args s 0 0 (Rg Γ s.heap.size)) (F0 m 4 ls [])) (x1 : Int32) (x2 : Int32) (x3 : Int32) (σ : St) (H : Heap) (locs : List Loc) (ls : Array Slot) (h : f_X6_isOrIsUnder_b4 k4 x1 x2 x3 σ = some (r, σ')) (M : Mv Γ σ s H locs) (hl : lv_has ls 4 [(1, .int x1), (2, .int x2), (3, .int x3)]) : W p l e (rmd 2) s m args below meth c H locs 0 0 (MQ below (Qi Γ r σ' s.heap.size) args s 0 0 (Rg Γ s.heap.size)) (F0 m 4 ls []) := by
  unfold f_X6_isOrIsUnder_b4 at h
  refine lv_iload_n X.x X.b dX6_isOrIsUnder_4 rfl (lv_at hl 2 rfl) ?_
  refine lv_bipush (v := 7) X.x X.b dX6_isOrIsUnder_5 (by decide) ?_
  refine lv_icmp_ge (tgt := 32) X.x X.b dX6_isOrIsUnder_7 (by decide) (fun c4 => ?_) (fun c4 => ?_)
  · have h := it_t c4 h
    refine lv_iconst (v := 0) X.x X.b dX6_isOrIsUnder_32 (by decide) ?_
    exact r_iret X M rfl h dX6_isOrIsUnder_33
  · have h := it_f c4 h
    refine lv_iload_n X.x X.b dX6_isOrIsUnder_10 rfl (lv_at hl 1 rfl) ?_
    refine lv_if_lt (tgt := 32) X.x X.b dX6_isOrIsUnder_11 (by decide) (fun c3 => ?_) (fun c3 => ?_)
    · have h := it_t c3 h
      refine lv_iconst (v := 0) X.x X.b dX6_isOrIsUnder_32 (by decide) ?_
      exact r_iret X M rfl h dX6_isOrIsUnder_33
    · have h := it_f c3 h
      refine lv_iload_n X.x X.b dX6_isOrIsUnder_14 rfl (lv_at hl 1 rfl) ?_
      refine lv_iload_n X.x X.b dX6_isOrIsUnder_15 rfl (lv_at hl 0 rfl) ?_
      refine lv_icmp_ne (tgt := 21) X.x X.b dX6_isOrIsUnder_16 (by decide) (fun c2 => ?_) (fun c2 => ?_)
      · have h := it_f c2 h
        refine lv_iload_n X.x X.b dX6_isOrIsUnder_21 rfl (lv_at hl 1 rfl) ?_
        obtain ⟨r1, σ1, h1, h⟩ := ob_e h
        refine r_runI M (r_callS (As := [.int x2]) X M (lv_sub hl [] rfl) (T_X6_kindAbove h1 _) cal_X6_kindAbove q331 ⟨by decide, by decide⟩ rfl rfl (Nat.le_of_ble_eq_true rfl) ⟨Nat.le_refl _, Nat.le_refl _⟩ dX6_isOrIsUnder_22) (fun H locs M => ?_)
        clear h1
        refine lv_istore_n (lv' := [(2, .int r1), (1, .int x1), (3, .int x3)]) X.x X.b dX6_isOrIsUnder_25 rfl hl (by decide) rfl (fun ls hl => ?_)
        refine lv_iinc (v := (x3 + 1)) (lv' := [(3, .int (x3 + 1)), (2, .int r1), (1, .int x1)]) X.x X.b dX6_isOrIsUnder_26 hl (k := 2) rfl rfl (by decide) rfl (fun ls hl => ?_)
        refine lv_goto (tgt := 4) X.x X.b dX6_isOrIsUnder_29 (by decide) ?_
        exact H4 x1 r1 (x3 + 1) σ1 _ _ _ h M (lv_sub hl [2, 1, 0] rfl)
      · have h := it_t c2 h
        refine lv_iconst (v := 1) X.x X.b dX6_isOrIsUnder_19 (by decide) ?_
        exact r_iret X M rfl h dX6_isOrIsUnder_20
def f_X6_isOrIsUnder_L4 : Nat → Int32 → Int32 → Int32 → St → Rs
  | 0 => fun _ _ _ _ => none
  | n + 1 => fun x1 x2 x3 σ => f_X6_isOrIsUnder_b4 (f_X6_isOrIsUnder_L4 n) x1 x2 x3 σ
theorem u_X6_isOrIsUnder_L4 {l : Launch} {Γ : Gm} {p : Program} {e : Env} {s : State} {m : MethodId} {args : Array Value} {below : List Frame} {meth : Method} {c : Code} {r : Int32} {σ' : St} (X : Cx p s m args meth c cX6_isOrIsUnder RX6 4 (some .boolean) Γ) : ∀ (n : Nat) (x1 : Int32) (x2 : Int32) (x3 : Int32) (σ : St) (H : Heap) (locs : List Loc) (ls : Array Slot), f_X6_isOrIsUnder_L4 n x1 x2 x3 σ = some (r, σ') → Mv Γ σ s H locs → lv_has ls 4 [(1, .int x1), (2, .int x2), (3, .int x3)] → W p l e (rmd 2) s m args below meth c H locs 0 0 (MQ below (Qi Γ r σ' s.heap.size) args s 0 0 (Rg Γ s.heap.size)) (F0 m 4 ls []) := by
  intro n
  induction n with
  | zero => intro x1 x2 x3 σ H locs ls h; cases h
  | succ n ih => intro x1 x2 x3 σ H locs ls h; exact u_X6_isOrIsUnder_b4 X  ih x1 x2 x3 σ H locs ls h
/-- StreetNumbers.isOrIsUnder(II)Z -/
def f_X6_isOrIsUnder (x0 : Int32) (x1 : Int32) (σ : St) : Rs :=
  f_X6_isOrIsUnder_L4 LF x1 x0 0 σ
set_option maxRecDepth 100000 in
set_option maxHeartbeats 4000000 in
theorem T_X6_isOrIsUnder {l : Launch} {Γ : Gm} {x0 : Int32} {x1 : Int32} {σ : St} {r : Int32} {σ' : St} (h : f_X6_isOrIsUnder x0 x1 σ = some (r, σ')) : MetI l yX6_isOrIsUnder cX6_isOrIsUnder 4 .boolean 2 Γ σ [.int x0, .int x1] r σ' := by
  intro sz
  refine met_in (by decide) (Nat.le_of_ble_eq_true rfl) (fun p e s m args below meth c ls X hsz M hl => ?_)
  subst hsz
  have X : Cx p s m args meth c cX6_isOrIsUnder RX6 4 (some .boolean) Γ := X
  have hl : lv_has ls 4 [(0, .int x0), (1, .int x1)] := hl
  unfold f_X6_isOrIsUnder at h
  refine lv_iload_n X.x X.b dX6_isOrIsUnder_0 rfl (lv_at hl 0 rfl) ?_
  refine lv_istore_n (lv' := [(2, .int x0), (0, .int x0), (1, .int x1)]) X.x X.b dX6_isOrIsUnder_1 rfl hl (by decide) rfl (fun ls hl => ?_)
  refine lv_iconst (v := 0) X.x X.b dX6_isOrIsUnder_2 (by decide) ?_
  refine lv_istore_n (lv' := [(3, .int 0), (2, .int x0), (0, .int x0), (1, .int x1)]) X.x X.b dX6_isOrIsUnder_3 rfl hl (by decide) rfl (fun ls hl => ?_)
  exact u_X6_isOrIsUnder_L4 X LF x1 x0 0 σ _ _ _ h M (lv_sub hl [3, 1, 0] rfl)
/-- StreetNumbers$Street.m(I)I -/
def f_X3_m (x1 : Int32) (σ : St) : Rs :=
  ob (f_X3_hasHouse x1 σ) fun r1 σ1 => (
  if r1 = 0 then (
    some (0, σ1)
  ) else (
    if inb x1 10 then (
    some ((σ1 10 x1.toNatClampNeg), σ1)) else none
  ))
set_option maxRecDepth 100000 in
set_option maxHeartbeats 4000000 in
theorem T_X3_m {l : Launch} {Γ : Gm} {x1 : Int32} {σ : St} {r : Int32} {σ' : St} (h : f_X3_m x1 σ = some (r, σ')) : MetI l yX3_m cX3_m 2 .int 2 Γ σ [.ref (Γ.1 1), .int x1] r σ' := by
  intro sz
  refine met_in (by decide) (Nat.le_of_ble_eq_true rfl) (fun p e s m args below meth c ls X hsz M hl => ?_)
  subst hsz
  have X : Cx p s m args meth c cX3_m RX3 2 (some .int) Γ := X
  have hl : lv_has ls 2 [(0, .ref (Γ.1 1)), (1, .int x1)] := hl
  unfold f_X3_m at h
  refine lv_aload_n X.x X.b dX3_m_0 rfl (lv_at hl 0 rfl) ?_
  refine lv_iload_n X.x X.b dX3_m_1 rfl (lv_at hl 1 rfl) ?_
  obtain ⟨r1, σ1, h1, h⟩ := ob_e h
  refine r_runI M (r_callV (As := [.int x1]) X M (lv_sub hl [] rfl) (T_X3_hasHouse h1 _) cal_X3_hasHouse q239 ⟨by decide, by decide⟩ hq_1 (el_1 _ _) rfl rfl rfl (Nat.le_of_ble_eq_true rfl) ⟨Nat.le_refl _, Nat.le_refl _⟩ dX3_m_2) (fun H locs M => ?_)
  clear h1
  refine lv_if_eq (tgt := 17) X.x X.b dX3_m_5 (by decide) (fun c3 => ?_) (fun c3 => ?_)
  · have h := it_t c3 h
    refine lv_iconst (v := 0) X.x X.b dX3_m_17 (by decide) ?_
    exact r_iret X M rfl h dX3_m_18
  · have h := it_f c3 h
    refine lv_aload_n X.x X.b dX3_m_8 rfl (lv_at hl 0 rfl) ?_
    refine r_get X M hq_1 (el_1 _ _) rfl inX3 7 (by decide) q66 rfl rfl dX3_m_9 ?_
    refine lv_iload_n X.x X.b dX3_m_12 rfl (lv_at hl 1 rfl) ?_
    obtain ⟨c2, h⟩ := it_n h
    refine r_iald (q := 10) (n := 10) X M rfl c2 dX3_m_13 ?_
    refine lv_goto (tgt := 18) X.x X.b dX3_m_14 (by decide) ?_
    exact r_iret X M rfl h dX3_m_18
def f_X6_as_b21 (σ : St) : Rs :=
  ob (f_X6_failing 1 σ) fun r1 σ1 => (
  some (r1, σ1))
set_option maxRecDepth 100000 in
set_option maxHeartbeats 4000000 in
theorem u_X6_as_b21 {l : Launch} {Γ : Gm} {p : Program} {e : Env} {s : State} {m : MethodId} {args : Array Value} {below : List Frame} {meth : Method} {c : Code} {r : Int32} {σ' : St} (X : Cx p s m args meth c cX6_as RX6 3 (some .int) Γ) (σ : St) (H : Heap) (locs : List Loc) (ls : Array Slot) (h : f_X6_as_b21 σ = some (r, σ')) (M : Mv Γ σ s H locs) (hl : lv_has ls 3 [(0, .ref (Γ.1 0))]) : W p l e (rmd 3) s m args below meth c H locs 0 0 (MQ below (Qi Γ r σ' s.heap.size) args s 0 0 (Rg Γ s.heap.size)) (F0 m 21 ls []) := by
  unfold f_X6_as_b21 at h
  refine lv_aload_n X.x X.b dX6_as_21 rfl (lv_at hl 0 rfl) ?_
  refine lv_iconst (v := 1) X.x X.b dX6_as_22 (by decide) ?_
  obtain ⟨r1, σ1, h1, h⟩ := ob_e h
  refine r_runI M (r_callV (As := [.int 1]) X M (lv_sub hl [] rfl) (T_X6_failing h1 _) cal_X6_failing q223 ⟨by decide, by decide⟩ hq_0 (el_0 _ _) rfl rfl rfl (Nat.le_of_ble_eq_true rfl) ⟨Nat.le_refl _, Nat.le_refl _⟩ dX6_as_23) (fun H locs M => ?_)
  clear h1
  exact r_iret X M rfl h dX6_as_26
/-- StreetNumbers.as(II)I -/
def f_X6_as (x1 : Int32) (x2 : Int32) (σ : St) : Rs :=
  ob (f_X3_hasHouse x1 σ) fun r1 σ1 => (
  if r1 = 0 then (
    f_X6_as_b21 σ1
  ) else (
    if x2 < 0 then (
      f_X6_as_b21 σ1
    ) else (
      if x2 < 7 then (
        ob (f_X3_kind x1 σ1) fun r2 σ2 => (
        ob (f_X6_isOrIsUnder r2 x2 σ2) fun r3 σ3 => (
        if r3 = 0 then (
          ob (f_X6_failing 5 σ3) fun r4 σ4 => (
          some (r4, σ4))
        ) else (
          ob (f_X3_m x1 σ3) fun r5 σ5 => (
          some (r5, σ5))
        )))
      ) else (
        f_X6_as_b21 σ1
      )
    )
  ))
set_option maxRecDepth 100000 in
set_option maxHeartbeats 4000000 in
theorem T_X6_as {l : Launch} {Γ : Gm} {x1 : Int32} {x2 : Int32} {σ : St} {r : Int32} {σ' : St} (h : f_X6_as x1 x2 σ = some (r, σ')) : MetI l yX6_as cX6_as 3 .int 3 Γ σ [.ref (Γ.1 0), .int x1, .int x2] r σ' := by
  intro sz
  refine met_in (by decide) (Nat.le_of_ble_eq_true rfl) (fun p e s m args below meth c ls X hsz M hl => ?_)
  subst hsz
  have X : Cx p s m args meth c cX6_as RX6 3 (some .int) Γ := X
  have hl : lv_has ls 3 [(0, .ref (Γ.1 0)), (1, .int x1), (2, .int x2)] := hl
  unfold f_X6_as at h
  refine lv_aload_n X.x X.b dX6_as_0 rfl (lv_at hl 0 rfl) ?_
  refine r_get X M hq_0 (el_0 _ _) rfl inX6 0 (by decide) q188 rfl rfl dX6_as_1 ?_
  refine lv_iload_n X.x X.b dX6_as_4 rfl (lv_at hl 1 rfl) ?_
  obtain ⟨r1, σ1, h1, h⟩ := ob_e h
  refine r_runI M (r_callV (As := [.int x1]) X M (lv_sub hl [] rfl) (T_X3_hasHouse h1 _) cal_X3_hasHouse q251 ⟨by decide, by decide⟩ hq_1 (el_1 _ _) rfl rfl rfl (Nat.le_of_ble_eq_true rfl) ⟨Nat.le_refl _, Nat.le_refl _⟩ dX6_as_5) (fun H locs M => ?_)
  clear h1
  refine lv_if_eq (tgt := 21) X.x X.b dX6_as_8 (by decide) (fun c9 => ?_) (fun c9 => ?_)
  · have h := it_t c9 h
    exact u_X6_as_b21 X σ1 _ _ _ h M (lv_sub hl [0] rfl)
  · have h := it_f c9 h
    refine lv_iload_n X.x X.b dX6_as_11 rfl (lv_at hl 2 rfl) ?_
    refine lv_if_lt (tgt := 21) X.x X.b dX6_as_12 (by decide) (fun c8 => ?_) (fun c8 => ?_)
    · have h := it_t c8 h
      exact u_X6_as_b21 X σ1 _ _ _ h M (lv_sub hl [0] rfl)
    · have h := it_f c8 h
      refine lv_iload_n X.x X.b dX6_as_15 rfl (lv_at hl 2 rfl) ?_
      refine lv_bipush (v := 7) X.x X.b dX6_as_16 (by decide) ?_
      refine lv_icmp_lt (tgt := 27) X.x X.b dX6_as_18 (by decide) (fun c7 => ?_) (fun c7 => ?_)
      · have h := it_t c7 h
        refine lv_aload_n X.x X.b dX6_as_27 rfl (lv_at hl 0 rfl) ?_
        refine r_get X M hq_0 (el_0 _ _) rfl inX6 0 (by decide) q188 rfl rfl dX6_as_28 ?_
        refine lv_iload_n X.x X.b dX6_as_31 rfl (lv_at hl 1 rfl) ?_
        obtain ⟨r2, σ2, h2, h⟩ := ob_e h
        refine r_runI M (r_callV (As := [.int x1]) X M (lv_sub hl [] rfl) (T_X3_kind h2 _) cal_X3_kind q252 ⟨by decide, by decide⟩ hq_1 (el_1 _ _) rfl rfl rfl (Nat.le_of_ble_eq_true rfl) ⟨Nat.le_refl _, Nat.le_refl _⟩ dX6_as_32) (fun H locs M => ?_)
        clear h2
        refine lv_iload_n X.x X.b dX6_as_35 rfl (lv_at hl 2 rfl) ?_
        obtain ⟨r3, σ3, h3, h⟩ := ob_e h
        refine r_runI M (r_callS (As := [.int r2, .int x2]) X M (lv_sub hl [] rfl) (T_X6_isOrIsUnder h3 _) cal_X6_isOrIsUnder q328 ⟨by decide, by decide⟩ rfl rfl (Nat.le_of_ble_eq_true rfl) ⟨Nat.le_refl _, Nat.le_refl _⟩ dX6_as_36) (fun H locs M => ?_)
        clear h3
        refine lv_if_eq (tgt := 53) X.x X.b dX6_as_39 (by decide) (fun c6 => ?_) (fun c6 => ?_)
        · have h := it_t c6 h
          refine lv_aload_n X.x X.b dX6_as_53 rfl (lv_at hl 0 rfl) ?_
          refine lv_iconst (v := 5) X.x X.b dX6_as_54 (by decide) ?_
          obtain ⟨r4, σ4, h4, h⟩ := ob_e h
          refine r_runI M (r_callV (As := [.int 5]) X M (lv_sub hl [] rfl) (T_X6_failing h4 _) cal_X6_failing q223 ⟨by decide, by decide⟩ hq_0 (el_0 _ _) rfl rfl rfl (Nat.le_of_ble_eq_true rfl) ⟨Nat.le_refl _, Nat.le_refl _⟩ dX6_as_55) (fun H locs M => ?_)
          clear h4
          exact r_iret X M rfl h dX6_as_58
        · have h := it_f c6 h
          refine lv_aload_n X.x X.b dX6_as_42 rfl (lv_at hl 0 rfl) ?_
          refine r_get X M hq_0 (el_0 _ _) rfl inX6 0 (by decide) q188 rfl rfl dX6_as_43 ?_
          refine lv_iload_n X.x X.b dX6_as_46 rfl (lv_at hl 1 rfl) ?_
          obtain ⟨r5, σ5, h5, h⟩ := ob_e h
          refine r_runI M (r_callV (As := [.int x1]) X M (lv_sub hl [] rfl) (T_X3_m h5 _) cal_X3_m q256 ⟨by decide, by decide⟩ hq_1 (el_1 _ _) rfl rfl rfl (Nat.le_of_ble_eq_true rfl) ⟨Nat.le_refl _, Nat.le_refl _⟩ dX6_as_47) (fun H locs M => ?_)
          clear h5
          refine lv_goto (tgt := 58) X.x X.b dX6_as_50 (by decide) ?_
          exact r_iret X M rfl h dX6_as_58
      · have h := it_f c7 h
        exact u_X6_as_b21 X σ1 _ _ _ h M (lv_sub hl [0] rfl)
/-- StreetNumbers.isKindWithM(I)Z -/
def f_X6_isKindWithM (x0 : Int32) (σ : St) : Rs :=
  if x0 < 0 then (
    some (0, σ)
  ) else (
    if 70 ≤ x0 then (
      some (0, σ)
    ) else (
      some (1, σ)
    )
  )
set_option maxRecDepth 100000 in
set_option maxHeartbeats 4000000 in
theorem T_X6_isKindWithM {l : Launch} {Γ : Gm} {x0 : Int32} {σ : St} {r : Int32} {σ' : St} (h : f_X6_isKindWithM x0 σ = some (r, σ')) : MetI l yX6_isKindWithM cX6_isKindWithM 1 .boolean 1 Γ σ [.int x0] r σ' := by
  intro sz
  refine met_in (by decide) (Nat.le_of_ble_eq_true rfl) (fun p e s m args below meth c ls X hsz M hl => ?_)
  subst hsz
  have X : Cx p s m args meth c cX6_isKindWithM RX6 1 (some .boolean) Γ := X
  have hl : lv_has ls 1 [(0, .int x0)] := hl
  unfold f_X6_isKindWithM at h
  refine lv_iload_n X.x X.b dX6_isKindWithM_0 rfl (lv_at hl 0 rfl) ?_
  refine lv_if_lt (tgt := 14) X.x X.b dX6_isKindWithM_1 (by decide) (fun c2 => ?_) (fun c2 => ?_)
  · have h := it_t c2 h
    refine lv_iconst (v := 0) X.x X.b dX6_isKindWithM_14 (by decide) ?_
    exact r_iret X M rfl h dX6_isKindWithM_15
  · have h := it_f c2 h
    refine lv_iload_n X.x X.b dX6_isKindWithM_4 rfl (lv_at hl 0 rfl) ?_
    refine lv_bipush (v := 70) X.x X.b dX6_isKindWithM_5 (by decide) ?_
    refine lv_icmp_ge (tgt := 14) X.x X.b dX6_isKindWithM_7 (by decide) (fun c1 => ?_) (fun c1 => ?_)
    · have h := it_t c1 h
      refine lv_iconst (v := 0) X.x X.b dX6_isKindWithM_14 (by decide) ?_
      exact r_iret X M rfl h dX6_isKindWithM_15
    · have h := it_f c1 h
      refine lv_iconst (v := 1) X.x X.b dX6_isKindWithM_10 (by decide) ?_
      refine lv_goto (tgt := 15) X.x X.b dX6_isKindWithM_11 (by decide) ?_
      exact r_iret X M rfl h dX6_isKindWithM_15
/-- StreetNumbers$Street.setKind(III)V -/
def f_X3_setKind (x1 : Int32) (x2 : Int32) (x3 : Int32) (σ : St) : Rs :=
  ob (f_X3_hasHouse x1 σ) fun r1 σ1 => (
  if r1 = 0 then (
    some (0, σ1)
  ) else (
    if inb x1 10 then (
    ol (st σ1 9 x1.toNatClampNeg x2) fun σ3 => (
    if inb x1 10 then (
    ol (st σ3 10 x1.toNatClampNeg x3) fun σ5 => (
    some (0, σ5))) else none)) else none
  ))
set_option maxRecDepth 100000 in
set_option maxHeartbeats 4000000 in
theorem T_X3_setKind {l : Launch} {Γ : Gm} {x1 : Int32} {x2 : Int32} {x3 : Int32} {σ : St} {r : Int32} {σ' : St} (h : f_X3_setKind x1 x2 x3 σ = some (r, σ')) : MetV l yX3_setKind cX3_setKind 4 2 Γ σ [.ref (Γ.1 1), .int x1, .int x2, .int x3] σ' := by
  intro sz
  refine met_in (by decide) (Nat.le_of_ble_eq_true rfl) (fun p e s m args below meth c ls X hsz M hl => ?_)
  subst hsz
  have X : Cx p s m args meth c cX3_setKind RX3 4 none Γ := X
  have hl : lv_has ls 4 [(0, .ref (Γ.1 1)), (1, .int x1), (2, .int x2), (3, .int x3)] := hl
  unfold f_X3_setKind at h
  refine lv_aload_n X.x X.b dX3_setKind_0 rfl (lv_at hl 0 rfl) ?_
  refine lv_iload_n X.x X.b dX3_setKind_1 rfl (lv_at hl 1 rfl) ?_
  obtain ⟨r1, σ1, h1, h⟩ := ob_e h
  refine r_runI M (r_callV (As := [.int x1]) X M (lv_sub hl [] rfl) (T_X3_hasHouse h1 _) cal_X3_hasHouse q239 ⟨by decide, by decide⟩ hq_1 (el_1 _ _) rfl rfl rfl (Nat.le_of_ble_eq_true rfl) ⟨Nat.le_refl _, Nat.le_refl _⟩ dX3_setKind_2) (fun H locs M => ?_)
  clear h1
  refine lv_if_eq (tgt := 22) X.x X.b dX3_setKind_5 (by decide) (fun c6 => ?_) (fun c6 => ?_)
  · have h := it_t c6 h
    exact r_vret X M h dX3_setKind_22
  · have h := it_f c6 h
    refine lv_aload_n X.x X.b dX3_setKind_8 rfl (lv_at hl 0 rfl) ?_
    refine r_get X M hq_1 (el_1 _ _) rfl inX3 6 (by decide) q65 rfl rfl dX3_setKind_9 ?_
    refine lv_iload_n X.x X.b dX3_setKind_12 rfl (lv_at hl 1 rfl) ?_
    refine lv_iload_n X.x X.b dX3_setKind_13 rfl (lv_at hl 2 rfl) ?_
    obtain ⟨c2, h⟩ := it_n h
    obtain ⟨σ3, e3, h⟩ := ol_e h
    refine r_iast (q := 9) (n := 10) X M rfl c2 dX3_setKind_14 (fun H locs M => ?_)
    rw [← e3] at M
    refine lv_aload_n X.x X.b dX3_setKind_15 rfl (lv_at hl 0 rfl) ?_
    refine r_get X M hq_1 (el_1 _ _) rfl inX3 7 (by decide) q66 rfl rfl dX3_setKind_16 ?_
    refine lv_iload_n X.x X.b dX3_setKind_19 rfl (lv_at hl 1 rfl) ?_
    refine lv_iload_n X.x X.b dX3_setKind_20 rfl (lv_at hl 3 rfl) ?_
    obtain ⟨c4, h⟩ := it_n h
    obtain ⟨σ5, e5, h⟩ := ol_e h
    refine r_iast (q := 10) (n := 10) X M rfl c4 dX3_setKind_21 (fun H locs M => ?_)
    rw [← e5] at M
    exact r_vret X M h dX3_setKind_22
/-- StreetNumbers.become(II)I -/
def f_X6_become (x1 : Int32) (x2 : Int32) (σ : St) : Rs :=
  ob (f_X3_hasHouse x1 σ) fun r1 σ1 => (
  if r1 = 0 then (
    ob (f_X6_failing 1 σ1) fun r2 σ2 => (
    some (r2, σ2))
  ) else (
    ob (f_X6_isKindWithM x2 σ1) fun r3 σ3 => (
    if r3 = 0 then (
      ob (f_X6_failing 1 σ3) fun r6 σ6 => (
      some (r6, σ6))
    ) else (
      ob (f_X3_kind x1 σ3) fun r4 σ4 => (
      ob (f_X3_setKind x1 (x2 / 10) (irm x2 10) σ4) fun _ σ5 => (
      some (r4, σ5)))
    ))
  ))
set_option maxRecDepth 100000 in
set_option maxHeartbeats 4000000 in
theorem T_X6_become {l : Launch} {Γ : Gm} {x1 : Int32} {x2 : Int32} {σ : St} {r : Int32} {σ' : St} (h : f_X6_become x1 x2 σ = some (r, σ')) : MetI l yX6_become cX6_become 4 .int 3 Γ σ [.ref (Γ.1 0), .int x1, .int x2] r σ' := by
  intro sz
  refine met_in (by decide) (Nat.le_of_ble_eq_true rfl) (fun p e s m args below meth c ls X hsz M hl => ?_)
  subst hsz
  have X : Cx p s m args meth c cX6_become RX6 4 (some .int) Γ := X
  have hl : lv_has ls 4 [(0, .ref (Γ.1 0)), (1, .int x1), (2, .int x2)] := hl
  unfold f_X6_become at h
  refine lv_aload_n X.x X.b dX6_become_0 rfl (lv_at hl 0 rfl) ?_
  refine r_get X M hq_0 (el_0 _ _) rfl inX6 0 (by decide) q188 rfl rfl dX6_become_1 ?_
  refine lv_iload_n X.x X.b dX6_become_4 rfl (lv_at hl 1 rfl) ?_
  obtain ⟨r1, σ1, h1, h⟩ := ob_e h
  refine r_runI M (r_callV (As := [.int x1]) X M (lv_sub hl [] rfl) (T_X3_hasHouse h1 _) cal_X3_hasHouse q251 ⟨by decide, by decide⟩ hq_1 (el_1 _ _) rfl rfl rfl (Nat.le_of_ble_eq_true rfl) ⟨Nat.le_refl _, Nat.le_refl _⟩ dX6_become_5) (fun H locs M => ?_)
  clear h1
  refine lv_if_eq (tgt := 18) X.x X.b dX6_become_8 (by decide) (fun c8 => ?_) (fun c8 => ?_)
  · have h := it_t c8 h
    refine lv_aload_n X.x X.b dX6_become_18 rfl (lv_at hl 0 rfl) ?_
    refine lv_iconst (v := 1) X.x X.b dX6_become_19 (by decide) ?_
    obtain ⟨r2, σ2, h2, h⟩ := ob_e h
    refine r_runI M (r_callV (As := [.int 1]) X M (lv_sub hl [] rfl) (T_X6_failing h2 _) cal_X6_failing q223 ⟨by decide, by decide⟩ hq_0 (el_0 _ _) rfl rfl rfl (Nat.le_of_ble_eq_true rfl) ⟨Nat.le_refl _, Nat.le_refl _⟩ dX6_become_20) (fun H locs M => ?_)
    clear h2
    exact r_iret X M rfl h dX6_become_23
  · have h := it_f c8 h
    refine lv_iload_n X.x X.b dX6_become_11 rfl (lv_at hl 2 rfl) ?_
    obtain ⟨r3, σ3, h3, h⟩ := ob_e h
    refine r_runI M (r_callS (As := [.int x2]) X M (lv_sub hl [] rfl) (T_X6_isKindWithM h3 _) cal_X6_isKindWithM q217 ⟨by decide, by decide⟩ rfl rfl (Nat.le_of_ble_eq_true rfl) ⟨Nat.le_refl _, Nat.le_refl _⟩ dX6_become_12) (fun H locs M => ?_)
    clear h3
    refine lv_if_ne (tgt := 24) X.x X.b dX6_become_15 (by decide) (fun c7 => ?_) (fun c7 => ?_)
    · have h := it_f c7 h
      refine lv_aload_n X.x X.b dX6_become_24 rfl (lv_at hl 0 rfl) ?_
      refine r_get X M hq_0 (el_0 _ _) rfl inX6 0 (by decide) q188 rfl rfl dX6_become_25 ?_
      refine lv_iload_n X.x X.b dX6_become_28 rfl (lv_at hl 1 rfl) ?_
      obtain ⟨r4, σ4, h4, h⟩ := ob_e h
      refine r_runI M (r_callV (As := [.int x1]) X M (lv_sub hl [] rfl) (T_X3_kind h4 _) cal_X3_kind q252 ⟨by decide, by decide⟩ hq_1 (el_1 _ _) rfl rfl rfl (Nat.le_of_ble_eq_true rfl) ⟨Nat.le_refl _, Nat.le_refl _⟩ dX6_become_29) (fun H locs M => ?_)
      clear h4
      refine lv_istore_n (lv' := [(3, .int r4), (0, .ref (Γ.1 0)), (1, .int x1), (2, .int x2)]) X.x X.b dX6_become_32 rfl hl (by decide) rfl (fun ls hl => ?_)
      refine lv_aload_n X.x X.b dX6_become_33 rfl (lv_at hl 1 rfl) ?_
      refine r_get X M hq_0 (el_0 _ _) rfl inX6 0 (by decide) q188 rfl rfl dX6_become_34 ?_
      refine lv_iload_n X.x X.b dX6_become_37 rfl (lv_at hl 2 rfl) ?_
      refine lv_iload_n X.x X.b dX6_become_38 rfl (lv_at hl 3 rfl) ?_
      refine lv_bipush (v := 10) X.x X.b dX6_become_39 (by decide) ?_
      refine lv_idiv X.x X.b dX6_become_41 (by decide) ?_
      refine lv_iload_n X.x X.b dX6_become_42 rfl (lv_at hl 3 rfl) ?_
      refine lv_bipush (v := 10) X.x X.b dX6_become_43 (by decide) ?_
      refine r_irem X dX6_become_45 (by decide) ?_
      obtain ⟨r5, σ5, h5, h⟩ := ob_e h
      refine r_runV M (r_callV (As := [.int x1, .int (x2 / 10), .int (irm x2 10)]) X M (lv_sub hl [] rfl) (T_X3_setKind h5 _) cal_X3_setKind q323 ⟨by decide, by decide⟩ hq_1 (el_1 _ _) rfl rfl rfl (Nat.le_of_ble_eq_true rfl) ⟨Nat.le_refl _, Nat.le_refl _⟩ dX6_become_46) (fun H locs M => ?_)
      clear h5
      refine lv_iload_n X.x X.b dX6_become_49 rfl (lv_at hl 0 rfl) ?_
      exact r_iret X M rfl h dX6_become_50
    · have h := it_t c7 h
      refine lv_aload_n X.x X.b dX6_become_18 rfl (lv_at hl 0 rfl) ?_
      refine lv_iconst (v := 1) X.x X.b dX6_become_19 (by decide) ?_
      obtain ⟨r6, σ6, h6, h⟩ := ob_e h
      refine r_runI M (r_callV (As := [.int 1]) X M (lv_sub hl [] rfl) (T_X6_failing h6 _) cal_X6_failing q223 ⟨by decide, by decide⟩ hq_0 (el_0 _ _) rfl rfl rfl (Nat.le_of_ble_eq_true rfl) ⟨Nat.le_refl _, Nat.le_refl _⟩ dX6_become_20) (fun H locs M => ?_)
      clear h6
      exact r_iret X M rfl h dX6_become_23
/-- StreetNumbers$Street.houseAt(I)I -/
def f_X3_houseAt (x1 : Int32) (σ : St) : Rs :=
  ob (f_X3_hasHouse x1 σ) fun r1 σ1 => (
  if r1 = 0 then (
    some ((-1), σ1)
  ) else (
    if inb x1 10 then (
    some ((σ1 12 x1.toNatClampNeg), σ1)) else none
  ))
set_option maxRecDepth 100000 in
set_option maxHeartbeats 4000000 in
theorem T_X3_houseAt {l : Launch} {Γ : Gm} {x1 : Int32} {σ : St} {r : Int32} {σ' : St} (h : f_X3_houseAt x1 σ = some (r, σ')) : MetI l yX3_houseAt cX3_houseAt 2 .int 2 Γ σ [.ref (Γ.1 1), .int x1] r σ' := by
  intro sz
  refine met_in (by decide) (Nat.le_of_ble_eq_true rfl) (fun p e s m args below meth c ls X hsz M hl => ?_)
  subst hsz
  have X : Cx p s m args meth c cX3_houseAt RX3 2 (some .int) Γ := X
  have hl : lv_has ls 2 [(0, .ref (Γ.1 1)), (1, .int x1)] := hl
  unfold f_X3_houseAt at h
  refine lv_aload_n X.x X.b dX3_houseAt_0 rfl (lv_at hl 0 rfl) ?_
  refine lv_iload_n X.x X.b dX3_houseAt_1 rfl (lv_at hl 1 rfl) ?_
  obtain ⟨r1, σ1, h1, h⟩ := ob_e h
  refine r_runI M (r_callV (As := [.int x1]) X M (lv_sub hl [] rfl) (T_X3_hasHouse h1 _) cal_X3_hasHouse q239 ⟨by decide, by decide⟩ hq_1 (el_1 _ _) rfl rfl rfl (Nat.le_of_ble_eq_true rfl) ⟨Nat.le_refl _, Nat.le_refl _⟩ dX3_houseAt_2) (fun H locs M => ?_)
  clear h1
  refine lv_if_eq (tgt := 17) X.x X.b dX3_houseAt_5 (by decide) (fun c3 => ?_) (fun c3 => ?_)
  · have h := it_t c3 h
    refine lv_iconst (v := (-1)) X.x X.b dX3_houseAt_17 (by decide) ?_
    exact r_iret X M rfl h dX3_houseAt_18
  · have h := it_f c3 h
    refine lv_aload_n X.x X.b dX3_houseAt_8 rfl (lv_at hl 0 rfl) ?_
    refine r_get X M hq_1 (el_1 _ _) rfl inX3 9 (by decide) q68 rfl rfl dX3_houseAt_9 ?_
    refine lv_iload_n X.x X.b dX3_houseAt_12 rfl (lv_at hl 1 rfl) ?_
    obtain ⟨c2, h⟩ := it_n h
    refine r_iald (q := 12) (n := 10) X M rfl c2 dX3_houseAt_13 ?_
    refine lv_goto (tgt := 18) X.x X.b dX3_houseAt_14 (by decide) ?_
    exact r_iret X M rfl h dX3_houseAt_18
/-- StreetNumbers$Street.plate(I)I -/
def f_X3_plate (x1 : Int32) (σ : St) : Rs :=
  ob (f_X3_hasHouse x1 σ) fun r1 σ1 => (
  if r1 = 0 then (
    some (0, σ1)
  ) else (
    if inb x1 10 then (
    some ((σ1 11 x1.toNatClampNeg), σ1)) else none
  ))
set_option maxRecDepth 100000 in
set_option maxHeartbeats 4000000 in
theorem T_X3_plate {l : Launch} {Γ : Gm} {x1 : Int32} {σ : St} {r : Int32} {σ' : St} (h : f_X3_plate x1 σ = some (r, σ')) : MetI l yX3_plate cX3_plate 2 .int 2 Γ σ [.ref (Γ.1 1), .int x1] r σ' := by
  intro sz
  refine met_in (by decide) (Nat.le_of_ble_eq_true rfl) (fun p e s m args below meth c ls X hsz M hl => ?_)
  subst hsz
  have X : Cx p s m args meth c cX3_plate RX3 2 (some .int) Γ := X
  have hl : lv_has ls 2 [(0, .ref (Γ.1 1)), (1, .int x1)] := hl
  unfold f_X3_plate at h
  refine lv_aload_n X.x X.b dX3_plate_0 rfl (lv_at hl 0 rfl) ?_
  refine lv_iload_n X.x X.b dX3_plate_1 rfl (lv_at hl 1 rfl) ?_
  obtain ⟨r1, σ1, h1, h⟩ := ob_e h
  refine r_runI M (r_callV (As := [.int x1]) X M (lv_sub hl [] rfl) (T_X3_hasHouse h1 _) cal_X3_hasHouse q239 ⟨by decide, by decide⟩ hq_1 (el_1 _ _) rfl rfl rfl (Nat.le_of_ble_eq_true rfl) ⟨Nat.le_refl _, Nat.le_refl _⟩ dX3_plate_2) (fun H locs M => ?_)
  clear h1
  refine lv_if_eq (tgt := 17) X.x X.b dX3_plate_5 (by decide) (fun c3 => ?_) (fun c3 => ?_)
  · have h := it_t c3 h
    refine lv_iconst (v := 0) X.x X.b dX3_plate_17 (by decide) ?_
    exact r_iret X M rfl h dX3_plate_18
  · have h := it_f c3 h
    refine lv_aload_n X.x X.b dX3_plate_8 rfl (lv_at hl 0 rfl) ?_
    refine r_get X M hq_1 (el_1 _ _) rfl inX3 8 (by decide) q67 rfl rfl dX3_plate_9 ?_
    refine lv_iload_n X.x X.b dX3_plate_12 rfl (lv_at hl 1 rfl) ?_
    obtain ⟨c2, h⟩ := it_n h
    refine r_iald (q := 11) (n := 10) X M rfl c2 dX3_plate_13 ?_
    refine lv_goto (tgt := 18) X.x X.b dX3_plate_14 (by decide) ?_
    exact r_iret X M rfl h dX3_plate_18
/-- StreetNumbers$Street.plateAt(I)I -/
def f_X3_plateAt (x1 : Int32) (σ : St) : Rs :=
  ob (f_X3_houseAt x1 σ) fun r1 σ1 => (
  ob (f_X3_plate r1 σ1) fun r2 σ2 => (
  some (r2, σ2)))
set_option maxRecDepth 100000 in
set_option maxHeartbeats 4000000 in
theorem T_X3_plateAt {l : Launch} {Γ : Gm} {x1 : Int32} {σ : St} {r : Int32} {σ' : St} (h : f_X3_plateAt x1 σ = some (r, σ')) : MetI l yX3_plateAt cX3_plateAt 2 .int 3 Γ σ [.ref (Γ.1 1), .int x1] r σ' := by
  intro sz
  refine met_in (by decide) (Nat.le_of_ble_eq_true rfl) (fun p e s m args below meth c ls X hsz M hl => ?_)
  subst hsz
  have X : Cx p s m args meth c cX3_plateAt RX3 2 (some .int) Γ := X
  have hl : lv_has ls 2 [(0, .ref (Γ.1 1)), (1, .int x1)] := hl
  unfold f_X3_plateAt at h
  refine lv_aload_n X.x X.b dX3_plateAt_0 rfl (lv_at hl 0 rfl) ?_
  refine lv_aload_n X.x X.b dX3_plateAt_1 rfl (lv_at hl 0 rfl) ?_
  refine lv_iload_n X.x X.b dX3_plateAt_2 rfl (lv_at hl 1 rfl) ?_
  obtain ⟨r1, σ1, h1, h⟩ := ob_e h
  refine r_runI M (r_callV (As := [.int x1]) X M (lv_sub hl [] rfl) (T_X3_houseAt h1 _) cal_X3_houseAt q272 ⟨by decide, by decide⟩ hq_1 (el_1 _ _) rfl rfl rfl (Nat.le_of_ble_eq_true rfl) ⟨Nat.le_refl _, Nat.le_refl _⟩ dX3_plateAt_3) (fun H locs M => ?_)
  clear h1
  obtain ⟨r2, σ2, h2, h⟩ := ob_e h
  refine r_runI M (r_callV (As := [.int r1]) X M (lv_sub hl [] rfl) (T_X3_plate h2 _) cal_X3_plate q344 ⟨by decide, by decide⟩ hq_1 (el_1 _ _) rfl rfl rfl (Nat.le_of_ble_eq_true rfl) ⟨Nat.le_refl _, Nat.le_refl _⟩ dX3_plateAt_6) (fun H locs M => ?_)
  clear h2
  exact r_iret X M rfl h dX3_plateAt_9
def f_X3_numberBetween_b35 (x1 : Int32) (x2 : Int32) (y0 : Int32) (σ : St) : Rs :=
  if 2 ≤ (y0 - x2) then (
    if x1 < (σ 1 1) then (
      some ((x2 + ((y0 - x2) / 2)), σ)
    ) else (
      some ((x2 + 1), σ)
    )
  ) else (
    some ((-1), σ)
  )
set_option maxRecDepth 100000 in
set_option maxHeartbeats 4000000 in
theorem u_X3_numberBetween_b35 {l : Launch} {Γ : Gm} {p : Program} {e : Env} {s : State} {m : MethodId} {args : Array Value} {below : List Frame} {meth : Method} {c : Code} {r : Int32} {σ' : St} (X : Cx p s m args meth c cX3_numberBetween RX3 4 (some .int) Γ) (x1 : Int32) (x2 : Int32) (y0 : Int32) (σ : St) (H : Heap) (locs : List Loc) (ls : Array Slot) (h : f_X3_numberBetween_b35 x1 x2 y0 σ = some (r, σ')) (M : Mv Γ σ s H locs) (hl : lv_has ls 4 [(0, .ref (Γ.1 1)), (1, .int x1), (2, .int x2)]) : W p l e (rmd 4) s m args below meth c H locs 0 0 (MQ below (Qi Γ r σ' s.heap.size) args s 0 0 (Rg Γ s.heap.size)) (F0 m 35 ls [.int y0]) := by
  unfold f_X3_numberBetween_b35 at h
  refine lv_istore_n (lv' := [(3, .int y0), (0, .ref (Γ.1 1)), (1, .int x1), (2, .int x2)]) X.x X.b dX3_numberBetween_35 rfl hl (by decide) rfl (fun ls hl => ?_)
  refine lv_iload_n X.x X.b dX3_numberBetween_36 rfl (lv_at hl 0 rfl) ?_
  refine lv_iload_n X.x X.b dX3_numberBetween_37 rfl (lv_at hl 3 rfl) ?_
  refine lv_isub X.x X.b dX3_numberBetween_38 ?_
  refine lv_iconst (v := 2) X.x X.b dX3_numberBetween_39 (by decide) ?_
  refine lv_icmp_ge (tgt := 45) X.x X.b dX3_numberBetween_40 (by decide) (fun c2 => ?_) (fun c2 => ?_)
  · have h := it_t c2 h
    refine lv_iload_n X.x X.b dX3_numberBetween_45 rfl (lv_at hl 2 rfl) ?_
    refine lv_aload_n X.x X.b dX3_numberBetween_46 rfl (lv_at hl 1 rfl) ?_
    refine r_get X M hq_1 (el_1 _ _) rfl inX3 1 (by decide) q55 rfl rfl dX3_numberBetween_47 ?_
    refine lv_icmp_lt (tgt := 59) X.x X.b dX3_numberBetween_50 (by decide) (fun c1 => ?_) (fun c1 => ?_)
    · have h := it_t c1 h
      refine lv_iload_n X.x X.b dX3_numberBetween_59 rfl (lv_at hl 3 rfl) ?_
      refine lv_iload_n X.x X.b dX3_numberBetween_60 rfl (lv_at hl 0 rfl) ?_
      refine lv_iload_n X.x X.b dX3_numberBetween_61 rfl (lv_at hl 3 rfl) ?_
      refine lv_isub X.x X.b dX3_numberBetween_62 ?_
      refine lv_iconst (v := 2) X.x X.b dX3_numberBetween_63 (by decide) ?_
      refine lv_idiv X.x X.b dX3_numberBetween_64 (by decide) ?_
      refine lv_iadd X.x X.b dX3_numberBetween_65 ?_
      exact r_iret X M rfl h dX3_numberBetween_66
    · have h := it_f c1 h
      refine lv_iload_n X.x X.b dX3_numberBetween_53 rfl (lv_at hl 3 rfl) ?_
      refine lv_iconst (v := 1) X.x X.b dX3_numberBetween_54 (by decide) ?_
      refine lv_iadd X.x X.b dX3_numberBetween_55 ?_
      refine lv_goto (tgt := 66) X.x X.b dX3_numberBetween_56 (by decide) ?_
      exact r_iret X M rfl h dX3_numberBetween_66
  · have h := it_f c2 h
    refine lv_iconst (v := (-1)) X.x X.b dX3_numberBetween_43 (by decide) ?_
    exact r_iret X M rfl h dX3_numberBetween_44
def f_X3_numberBetween_b15 (x1 : Int32) (y0 : Int32) (σ : St) : Rs :=
  if (σ 1 1) ≤ x1 then (
    f_X3_numberBetween_b35 x1 y0 1000 σ
  ) else (
    ob (f_X3_plateAt x1 σ) fun r1 σ1 => (
    f_X3_numberBetween_b35 x1 y0 r1 σ1)
  )
set_option maxRecDepth 100000 in
set_option maxHeartbeats 4000000 in
theorem u_X3_numberBetween_b15 {l : Launch} {Γ : Gm} {p : Program} {e : Env} {s : State} {m : MethodId} {args : Array Value} {below : List Frame} {meth : Method} {c : Code} {r : Int32} {σ' : St} (X : Cx p s m args meth c cX3_numberBetween RX3 4 (some .int) Γ) (x1 : Int32) (y0 : Int32) (σ : St) (H : Heap) (locs : List Loc) (ls : Array Slot) (h : f_X3_numberBetween_b15 x1 y0 σ = some (r, σ')) (M : Mv Γ σ s H locs) (hl : lv_has ls 4 [(0, .ref (Γ.1 1)), (1, .int x1)]) : W p l e (rmd 4) s m args below meth c H locs 0 0 (MQ below (Qi Γ r σ' s.heap.size) args s 0 0 (Rg Γ s.heap.size)) (F0 m 15 ls [.int y0]) := by
  unfold f_X3_numberBetween_b15 at h
  refine lv_istore_n (lv' := [(2, .int y0), (0, .ref (Γ.1 1)), (1, .int x1)]) X.x X.b dX3_numberBetween_15 rfl hl (by decide) rfl (fun ls hl => ?_)
  refine lv_iload_n X.x X.b dX3_numberBetween_16 rfl (lv_at hl 2 rfl) ?_
  refine lv_aload_n X.x X.b dX3_numberBetween_17 rfl (lv_at hl 1 rfl) ?_
  refine r_get X M hq_1 (el_1 _ _) rfl inX3 1 (by decide) q55 rfl rfl dX3_numberBetween_18 ?_
  refine lv_icmp_ge (tgt := 32) X.x X.b dX3_numberBetween_21 (by decide) (fun c2 => ?_) (fun c2 => ?_)
  · have h := it_t c2 h
    refine lv_sipush (v := 1000) X.x X.b dX3_numberBetween_32 (by decide) ?_
    exact u_X3_numberBetween_b35 X x1 y0 1000 σ _ _ _ h M (lv_sub hl [1, 2, 0] rfl)
  · have h := it_f c2 h
    refine lv_aload_n X.x X.b dX3_numberBetween_24 rfl (lv_at hl 1 rfl) ?_
    refine lv_iload_n X.x X.b dX3_numberBetween_25 rfl (lv_at hl 2 rfl) ?_
    obtain ⟨r1, σ1, h1, h⟩ := ob_e h
    refine r_runI M (r_callV (As := [.int x1]) X M (lv_sub hl [] rfl) (T_X3_plateAt h1 _) cal_X3_plateAt q496 ⟨by decide, by decide⟩ hq_1 (el_1 _ _) rfl rfl rfl (Nat.le_of_ble_eq_true rfl) ⟨Nat.le_refl _, Nat.le_refl _⟩ dX3_numberBetween_26) (fun H locs M => ?_)
    clear h1
    refine lv_goto (tgt := 35) X.x X.b dX3_numberBetween_29 (by decide) ?_
    exact u_X3_numberBetween_b35 X x1 y0 r1 σ1 _ _ _ h M (lv_sub hl [1, 2, 0] rfl)
/-- StreetNumbers$Street.numberBetween(I)I -/
def f_X3_numberBetween (x1 : Int32) (σ : St) : Rs :=
  if x1 ≤ 0 then (
    f_X3_numberBetween_b15 x1 0 σ
  ) else (
    ob (f_X3_plateAt (x1 - 1) σ) fun r1 σ1 => (
    f_X3_numberBetween_b15 x1 r1 σ1)
  )
set_option maxRecDepth 100000 in
set_option maxHeartbeats 4000000 in
theorem T_X3_numberBetween {l : Launch} {Γ : Gm} {x1 : Int32} {σ : St} {r : Int32} {σ' : St} (h : f_X3_numberBetween x1 σ = some (r, σ')) : MetI l yX3_numberBetween cX3_numberBetween 4 .int 4 Γ σ [.ref (Γ.1 1), .int x1] r σ' := by
  intro sz
  refine met_in (by decide) (Nat.le_of_ble_eq_true rfl) (fun p e s m args below meth c ls X hsz M hl => ?_)
  subst hsz
  have X : Cx p s m args meth c cX3_numberBetween RX3 4 (some .int) Γ := X
  have hl : lv_has ls 4 [(0, .ref (Γ.1 1)), (1, .int x1)] := hl
  unfold f_X3_numberBetween at h
  refine lv_iload_n X.x X.b dX3_numberBetween_0 rfl (lv_at hl 1 rfl) ?_
  refine lv_if_le (tgt := 14) X.x X.b dX3_numberBetween_1 (by decide) (fun c2 => ?_) (fun c2 => ?_)
  · have h := it_t c2 h
    refine lv_iconst (v := 0) X.x X.b dX3_numberBetween_14 (by decide) ?_
    exact u_X3_numberBetween_b15 X x1 0 σ _ _ _ h M (lv_sub hl [0, 1] rfl)
  · have h := it_f c2 h
    refine lv_aload_n X.x X.b dX3_numberBetween_4 rfl (lv_at hl 0 rfl) ?_
    refine lv_iload_n X.x X.b dX3_numberBetween_5 rfl (lv_at hl 1 rfl) ?_
    refine lv_iconst (v := 1) X.x X.b dX3_numberBetween_6 (by decide) ?_
    refine lv_isub X.x X.b dX3_numberBetween_7 ?_
    obtain ⟨r1, σ1, h1, h⟩ := ob_e h
    refine r_runI M (r_callV (As := [.int (x1 - 1)]) X M (lv_sub hl [] rfl) (T_X3_plateAt h1 _) cal_X3_plateAt q496 ⟨by decide, by decide⟩ hq_1 (el_1 _ _) rfl rfl rfl (Nat.le_of_ble_eq_true rfl) ⟨Nat.le_refl _, Nat.le_refl _⟩ dX3_numberBetween_8) (fun H locs M => ?_)
    clear h1
    refine lv_goto (tgt := 15) X.x X.b dX3_numberBetween_11 (by decide) ?_
    exact u_X3_numberBetween_b15 X x1 r1 σ1 _ _ _ h M (lv_sub hl [0, 1] rfl)
/-- StreetNumbers.between(I)I -/
def f_X6_between (x1 : Int32) (σ : St) : Rs :=
  if x1 < 0 then (
    ob (f_X6_failing 1 σ) fun r1 σ1 => (
    some (r1, σ1))
  ) else (
    if x1 ≤ (σ 1 1) then (
      ob (f_X3_numberBetween x1 σ) fun r2 σ2 => (
      if 0 ≤ r2 then (
        some (r2, σ2)
      ) else (
        ob (f_X6_failing 2 σ2) fun r3 σ3 => (
        some (r3, σ3))
      ))
    ) else (
      ob (f_X6_failing 1 σ) fun r5 σ5 => (
      some (r5, σ5))
    )
  )
set_option maxRecDepth 100000 in
set_option maxHeartbeats 4000000 in
theorem T_X6_between {l : Launch} {Γ : Gm} {x1 : Int32} {σ : St} {r : Int32} {σ' : St} (h : f_X6_between x1 σ = some (r, σ')) : MetI l yX6_between cX6_between 3 .int 5 Γ σ [.ref (Γ.1 0), .int x1] r σ' := by
  intro sz
  refine met_in (by decide) (Nat.le_of_ble_eq_true rfl) (fun p e s m args below meth c ls X hsz M hl => ?_)
  subst hsz
  have X : Cx p s m args meth c cX6_between RX6 3 (some .int) Γ := X
  have hl : lv_has ls 3 [(0, .ref (Γ.1 0)), (1, .int x1)] := hl
  unfold f_X6_between at h
  refine lv_iload_n X.x X.b dX6_between_0 rfl (lv_at hl 1 rfl) ?_
  refine lv_if_lt (tgt := 15) X.x X.b dX6_between_1 (by decide) (fun c7 => ?_) (fun c7 => ?_)
  · have h := it_t c7 h
    refine lv_aload_n X.x X.b dX6_between_15 rfl (lv_at hl 0 rfl) ?_
    refine lv_iconst (v := 1) X.x X.b dX6_between_16 (by decide) ?_
    obtain ⟨r1, σ1, h1, h⟩ := ob_e h
    refine r_runI M (r_callV (As := [.int 1]) X M (lv_sub hl [] rfl) (T_X6_failing h1 _) cal_X6_failing q223 ⟨by decide, by decide⟩ hq_0 (el_0 _ _) rfl rfl rfl (Nat.le_of_ble_eq_true rfl) ⟨Nat.le_refl _, Nat.le_refl _⟩ dX6_between_17) (fun H locs M => ?_)
    clear h1
    exact r_iret X M rfl h dX6_between_20
  · have h := it_f c7 h
    refine lv_iload_n X.x X.b dX6_between_4 rfl (lv_at hl 1 rfl) ?_
    refine lv_aload_n X.x X.b dX6_between_5 rfl (lv_at hl 0 rfl) ?_
    refine r_get X M hq_0 (el_0 _ _) rfl inX6 0 (by decide) q188 rfl rfl dX6_between_6 ?_
    refine r_get X M hq_1 (el_1 _ _) rfl inX3 1 (by decide) q56 rfl rfl dX6_between_9 ?_
    refine lv_icmp_le (tgt := 21) X.x X.b dX6_between_12 (by decide) (fun c6 => ?_) (fun c6 => ?_)
    · have h := it_t c6 h
      refine lv_aload_n X.x X.b dX6_between_21 rfl (lv_at hl 0 rfl) ?_
      refine r_get X M hq_0 (el_0 _ _) rfl inX6 0 (by decide) q188 rfl rfl dX6_between_22 ?_
      refine lv_iload_n X.x X.b dX6_between_25 rfl (lv_at hl 1 rfl) ?_
      obtain ⟨r2, σ2, h2, h⟩ := ob_e h
      refine r_runI M (r_callV (As := [.int x1]) X M (lv_sub hl [] rfl) (T_X3_numberBetween h2 _) cal_X3_numberBetween q492 ⟨by decide, by decide⟩ hq_1 (el_1 _ _) rfl rfl rfl (Nat.le_of_ble_eq_true rfl) ⟨Nat.le_refl _, Nat.le_refl _⟩ dX6_between_26) (fun H locs M => ?_)
      clear h2
      refine lv_istore_n (lv' := [(2, .int r2), (0, .ref (Γ.1 0)), (1, .int x1)]) X.x X.b dX6_between_29 rfl hl (by decide) rfl (fun ls hl => ?_)
      refine lv_iload_n X.x X.b dX6_between_30 rfl (lv_at hl 0 rfl) ?_
      refine lv_if_ge (tgt := 42) X.x X.b dX6_between_31 (by decide) (fun c4 => ?_) (fun c4 => ?_)
      · have h := it_t c4 h
        refine lv_iload_n X.x X.b dX6_between_42 rfl (lv_at hl 0 rfl) ?_
        exact r_iret X M rfl h dX6_between_43
      · have h := it_f c4 h
        refine lv_aload_n X.x X.b dX6_between_34 rfl (lv_at hl 1 rfl) ?_
        refine lv_iconst (v := 2) X.x X.b dX6_between_35 (by decide) ?_
        obtain ⟨r3, σ3, h3, h⟩ := ob_e h
        refine r_runI M (r_callV (As := [.int 2]) X M (lv_sub hl [] rfl) (T_X6_failing h3 _) cal_X6_failing q223 ⟨by decide, by decide⟩ hq_0 (el_0 _ _) rfl rfl rfl (Nat.le_of_ble_eq_true rfl) ⟨Nat.le_refl _, Nat.le_refl _⟩ dX6_between_36) (fun H locs M => ?_)
        clear h3
        refine lv_goto (tgt := 43) X.x X.b dX6_between_39 (by decide) ?_
        exact r_iret X M rfl h dX6_between_43
    · have h := it_f c6 h
      refine lv_aload_n X.x X.b dX6_between_15 rfl (lv_at hl 0 rfl) ?_
      refine lv_iconst (v := 1) X.x X.b dX6_between_16 (by decide) ?_
      obtain ⟨r5, σ5, h5, h⟩ := ob_e h
      refine r_runI M (r_callV (As := [.int 1]) X M (lv_sub hl [] rfl) (T_X6_failing h5 _) cal_X6_failing q223 ⟨by decide, by decide⟩ hq_0 (el_0 _ _) rfl rfl rfl (Nat.le_of_ble_eq_true rfl) ⟨Nat.le_refl _, Nat.le_refl _⟩ dX6_between_17) (fun H locs M => ?_)
      clear h5
      exact r_iret X M rfl h dX6_between_20
/-- StreetNumbers$Voices.bodyAt(I)I -/
def f_X5_bodyAt (x1 : Int32) (σ : St) : Rs :=
  if x1 < 0 then (
    some (0, σ)
  ) else (
    if 30 ≤ x1 then (
      some (0, σ)
    ) else (
      if inb x1 30 then (
      some ((σ 56 x1.toNatClampNeg), σ)) else none
    )
  )
set_option maxRecDepth 100000 in
set_option maxHeartbeats 4000000 in
theorem T_X5_bodyAt {l : Launch} {Γ : Gm} {x1 : Int32} {σ : St} {r : Int32} {σ' : St} (h : f_X5_bodyAt x1 σ = some (r, σ')) : MetI l yX5_bodyAt cX5_bodyAt 2 .int 1 Γ σ [.ref (Γ.1 55), .int x1] r σ' := by
  intro sz
  refine met_in (by decide) (Nat.le_of_ble_eq_true rfl) (fun p e s m args below meth c ls X hsz M hl => ?_)
  subst hsz
  have X : Cx p s m args meth c cX5_bodyAt RX5 2 (some .int) Γ := X
  have hl : lv_has ls 2 [(0, .ref (Γ.1 55)), (1, .int x1)] := hl
  unfold f_X5_bodyAt at h
  refine lv_iload_n X.x X.b dX5_bodyAt_0 rfl (lv_at hl 1 rfl) ?_
  refine lv_if_lt (tgt := 19) X.x X.b dX5_bodyAt_1 (by decide) (fun c3 => ?_) (fun c3 => ?_)
  · have h := it_t c3 h
    refine lv_iconst (v := 0) X.x X.b dX5_bodyAt_19 (by decide) ?_
    exact r_iret X M rfl h dX5_bodyAt_20
  · have h := it_f c3 h
    refine lv_iload_n X.x X.b dX5_bodyAt_4 rfl (lv_at hl 1 rfl) ?_
    refine lv_bipush (v := 30) X.x X.b dX5_bodyAt_5 (by decide) ?_
    refine lv_icmp_ge (tgt := 19) X.x X.b dX5_bodyAt_7 (by decide) (fun c2 => ?_) (fun c2 => ?_)
    · have h := it_t c2 h
      refine lv_iconst (v := 0) X.x X.b dX5_bodyAt_19 (by decide) ?_
      exact r_iret X M rfl h dX5_bodyAt_20
    · have h := it_f c2 h
      refine lv_aload_n X.x X.b dX5_bodyAt_10 rfl (lv_at hl 0 rfl) ?_
      refine r_get X M hq_55 (el_55 _ _) rfl inX5 2 (by decide) q154 rfl rfl dX5_bodyAt_11 ?_
      refine lv_iload_n X.x X.b dX5_bodyAt_14 rfl (lv_at hl 1 rfl) ?_
      obtain ⟨c1, h⟩ := it_n h
      refine r_iald (q := 56) (n := 30) X M rfl c1 dX5_bodyAt_15 ?_
      refine lv_goto (tgt := 20) X.x X.b dX5_bodyAt_16 (by decide) ?_
      exact r_iret X M rfl h dX5_bodyAt_20
/-- StreetNumbers.body(I)I -/
def f_X6_body (x1 : Int32) (σ : St) : Rs :=
  if x1 < 0 then (
    ob (f_X6_failing 2 σ) fun r1 σ1 => (
    some (r1, σ1))
  ) else (
    if x1 < (σ 55 1) then (
      ob (f_X5_bodyAt x1 σ) fun r2 σ2 => (
      some (r2, σ2))
    ) else (
      ob (f_X6_failing 2 σ) fun r3 σ3 => (
      some (r3, σ3))
    )
  )
set_option maxRecDepth 100000 in
set_option maxHeartbeats 4000000 in
theorem T_X6_body {l : Launch} {Γ : Gm} {x1 : Int32} {σ : St} {r : Int32} {σ' : St} (h : f_X6_body x1 σ = some (r, σ')) : MetI l yX6_body cX6_body 2 .int 2 Γ σ [.ref (Γ.1 0), .int x1] r σ' := by
  intro sz
  refine met_in (by decide) (Nat.le_of_ble_eq_true rfl) (fun p e s m args below meth c ls X hsz M hl => ?_)
  subst hsz
  have X : Cx p s m args meth c cX6_body RX6 2 (some .int) Γ := X
  have hl : lv_has ls 2 [(0, .ref (Γ.1 0)), (1, .int x1)] := hl
  unfold f_X6_body at h
  refine lv_iload_n X.x X.b dX6_body_0 rfl (lv_at hl 1 rfl) ?_
  refine lv_if_lt (tgt := 15) X.x X.b dX6_body_1 (by decide) (fun c5 => ?_) (fun c5 => ?_)
  · have h := it_t c5 h
    refine lv_aload_n X.x X.b dX6_body_15 rfl (lv_at hl 0 rfl) ?_
    refine lv_iconst (v := 2) X.x X.b dX6_body_16 (by decide) ?_
    obtain ⟨r1, σ1, h1, h⟩ := ob_e h
    refine r_runI M (r_callV (As := [.int 2]) X M (lv_sub hl [] rfl) (T_X6_failing h1 _) cal_X6_failing q223 ⟨by decide, by decide⟩ hq_0 (el_0 _ _) rfl rfl rfl (Nat.le_of_ble_eq_true rfl) ⟨Nat.le_refl _, Nat.le_refl _⟩ dX6_body_17) (fun H locs M => ?_)
    clear h1
    exact r_iret X M rfl h dX6_body_20
  · have h := it_f c5 h
    refine lv_iload_n X.x X.b dX6_body_4 rfl (lv_at hl 1 rfl) ?_
    refine lv_aload_n X.x X.b dX6_body_5 rfl (lv_at hl 0 rfl) ?_
    refine r_get X M hq_0 (el_0 _ _) rfl inX6 4 (by decide) q192 rfl rfl dX6_body_6 ?_
    refine r_get X M hq_55 (el_55 _ _) rfl inX5 1 (by decide) q153 rfl rfl dX6_body_9 ?_
    refine lv_icmp_lt (tgt := 21) X.x X.b dX6_body_12 (by decide) (fun c4 => ?_) (fun c4 => ?_)
    · have h := it_t c4 h
      refine lv_aload_n X.x X.b dX6_body_21 rfl (lv_at hl 0 rfl) ?_
      refine r_get X M hq_0 (el_0 _ _) rfl inX6 4 (by decide) q192 rfl rfl dX6_body_22 ?_
      refine lv_iload_n X.x X.b dX6_body_25 rfl (lv_at hl 1 rfl) ?_
      obtain ⟨r2, σ2, h2, h⟩ := ob_e h
      refine r_runI M (r_callV (As := [.int x1]) X M (lv_sub hl [] rfl) (T_X5_bodyAt h2 _) cal_X5_bodyAt q637 ⟨by decide, by decide⟩ hq_55 (el_55 _ _) rfl rfl rfl (Nat.le_of_ble_eq_true rfl) ⟨Nat.le_refl _, Nat.le_refl _⟩ dX6_body_26) (fun H locs M => ?_)
      clear h2
      exact r_iret X M rfl h dX6_body_29
    · have h := it_f c4 h
      refine lv_aload_n X.x X.b dX6_body_15 rfl (lv_at hl 0 rfl) ?_
      refine lv_iconst (v := 2) X.x X.b dX6_body_16 (by decide) ?_
      obtain ⟨r3, σ3, h3, h⟩ := ob_e h
      refine r_runI M (r_callV (As := [.int 2]) X M (lv_sub hl [] rfl) (T_X6_failing h3 _) cal_X6_failing q223 ⟨by decide, by decide⟩ hq_0 (el_0 _ _) rfl rfl rfl (Nat.le_of_ble_eq_true rfl) ⟨Nat.le_refl _, Nat.le_refl _⟩ dX6_body_17) (fun H locs M => ?_)
      clear h3
      exact r_iret X M rfl h dX6_body_20
/-- StreetNumbers.isPlate(I)Z -/
def f_X6_isPlate (x0 : Int32) (σ : St) : Rs :=
  if x0 < 1 then (
    some (0, σ)
  ) else (
    if 999 < x0 then (
      some (0, σ)
    ) else (
      some (1, σ)
    )
  )
set_option maxRecDepth 100000 in
set_option maxHeartbeats 4000000 in
theorem T_X6_isPlate {l : Launch} {Γ : Gm} {x0 : Int32} {σ : St} {r : Int32} {σ' : St} (h : f_X6_isPlate x0 σ = some (r, σ')) : MetI l yX6_isPlate cX6_isPlate 1 .boolean 1 Γ σ [.int x0] r σ' := by
  intro sz
  refine met_in (by decide) (Nat.le_of_ble_eq_true rfl) (fun p e s m args below meth c ls X hsz M hl => ?_)
  subst hsz
  have X : Cx p s m args meth c cX6_isPlate RX6 1 (some .boolean) Γ := X
  have hl : lv_has ls 1 [(0, .int x0)] := hl
  unfold f_X6_isPlate at h
  refine lv_iload_n X.x X.b dX6_isPlate_0 rfl (lv_at hl 0 rfl) ?_
  refine lv_iconst (v := 1) X.x X.b dX6_isPlate_1 (by decide) ?_
  refine lv_icmp_lt (tgt := 16) X.x X.b dX6_isPlate_2 (by decide) (fun c2 => ?_) (fun c2 => ?_)
  · have h := it_t c2 h
    refine lv_iconst (v := 0) X.x X.b dX6_isPlate_16 (by decide) ?_
    exact r_iret X M rfl h dX6_isPlate_17
  · have h := it_f c2 h
    refine lv_iload_n X.x X.b dX6_isPlate_5 rfl (lv_at hl 0 rfl) ?_
    refine lv_sipush (v := 999) X.x X.b dX6_isPlate_6 (by decide) ?_
    refine lv_icmp_gt (tgt := 16) X.x X.b dX6_isPlate_9 (by decide) (fun c1 => ?_) (fun c1 => ?_)
    · have h := it_t c1 h
      refine lv_iconst (v := 0) X.x X.b dX6_isPlate_16 (by decide) ?_
      exact r_iret X M rfl h dX6_isPlate_17
    · have h := it_f c1 h
      refine lv_iconst (v := 1) X.x X.b dX6_isPlate_12 (by decide) ?_
      refine lv_goto (tgt := 17) X.x X.b dX6_isPlate_13 (by decide) ?_
      exact r_iret X M rfl h dX6_isPlate_17
/-- StreetNumbers$Street.setPlate(II)V -/
def f_X3_setPlate (x1 : Int32) (x2 : Int32) (σ : St) : Rs :=
  ob (f_X3_hasHouse x1 σ) fun r1 σ1 => (
  if r1 = 0 then (
    some (0, σ1)
  ) else (
    if inb x1 10 then (
    ol (st σ1 11 x1.toNatClampNeg x2) fun σ3 => (
    some (0, σ3))) else none
  ))
set_option maxRecDepth 100000 in
set_option maxHeartbeats 4000000 in
theorem T_X3_setPlate {l : Launch} {Γ : Gm} {x1 : Int32} {x2 : Int32} {σ : St} {r : Int32} {σ' : St} (h : f_X3_setPlate x1 x2 σ = some (r, σ')) : MetV l yX3_setPlate cX3_setPlate 3 2 Γ σ [.ref (Γ.1 1), .int x1, .int x2] σ' := by
  intro sz
  refine met_in (by decide) (Nat.le_of_ble_eq_true rfl) (fun p e s m args below meth c ls X hsz M hl => ?_)
  subst hsz
  have X : Cx p s m args meth c cX3_setPlate RX3 3 none Γ := X
  have hl : lv_has ls 3 [(0, .ref (Γ.1 1)), (1, .int x1), (2, .int x2)] := hl
  unfold f_X3_setPlate at h
  refine lv_aload_n X.x X.b dX3_setPlate_0 rfl (lv_at hl 0 rfl) ?_
  refine lv_iload_n X.x X.b dX3_setPlate_1 rfl (lv_at hl 1 rfl) ?_
  obtain ⟨r1, σ1, h1, h⟩ := ob_e h
  refine r_runI M (r_callV (As := [.int x1]) X M (lv_sub hl [] rfl) (T_X3_hasHouse h1 _) cal_X3_hasHouse q239 ⟨by decide, by decide⟩ hq_1 (el_1 _ _) rfl rfl rfl (Nat.le_of_ble_eq_true rfl) ⟨Nat.le_refl _, Nat.le_refl _⟩ dX3_setPlate_2) (fun H locs M => ?_)
  clear h1
  refine lv_if_eq (tgt := 15) X.x X.b dX3_setPlate_5 (by decide) (fun c4 => ?_) (fun c4 => ?_)
  · have h := it_t c4 h
    exact r_vret X M h dX3_setPlate_15
  · have h := it_f c4 h
    refine lv_aload_n X.x X.b dX3_setPlate_8 rfl (lv_at hl 0 rfl) ?_
    refine r_get X M hq_1 (el_1 _ _) rfl inX3 8 (by decide) q67 rfl rfl dX3_setPlate_9 ?_
    refine lv_iload_n X.x X.b dX3_setPlate_12 rfl (lv_at hl 1 rfl) ?_
    refine lv_iload_n X.x X.b dX3_setPlate_13 rfl (lv_at hl 2 rfl) ?_
    obtain ⟨c2, h⟩ := it_n h
    obtain ⟨σ3, e3, h⟩ := ol_e h
    refine r_iast (q := 11) (n := 10) X M rfl c2 dX3_setPlate_14 (fun H locs M => ?_)
    rw [← e3] at M
    exact r_vret X M h dX3_setPlate_15
/-- StreetNumbers$Street.addHouse(IIII)I -/
def f_X3_addHouse (x1 : Int32) (x2 : Int32) (x3 : Int32) (x4 : Int32) (σ : St) : Rs :=
  if (σ 1 1) < 0 then (
    some ((-1), σ)
  ) else (
    if 10 ≤ (σ 1 1) then (
      some ((-1), σ)
    ) else (
      if x3 < 0 then (
        some ((-1), σ)
      ) else (
        if x3 ≤ (σ 1 1) then (
          if ¬ x3 < 0 ∧ ¬ (x3 + 1) < 0 ∧ ¬ ((σ 1 1) - x3) < 0 ∧ x3.toNatClampNeg + ((σ 1 1) - x3).toNatClampNeg ≤ 10 ∧ (x3 + 1).toNatClampNeg + ((σ 1 1) - x3).toNatClampNeg ≤ 10 then (
          ol (sR σ 12 (va_cpy (σ 12) (σ 12) x3.toNatClampNeg (x3 + 1).toNatClampNeg ((σ 1 1) - x3).toNatClampNeg)) fun σ2 => (
          if inb x3 10 then (
          ol (st σ2 12 x3.toNatClampNeg (σ 1 1)) fun σ4 => (
          ol (st σ4 1 1 ((σ 1 1) + 1)) fun σ5 => (
          ob (f_X3_setKind (σ 1 1) x1 x2 σ5) fun _ σ6 => (
          ob (f_X3_setPlate (σ 1 1) x4 σ6) fun _ σ7 => (
          some ((σ 1 1), σ7)))))) else none)) else none
        ) else (
          some ((-1), σ)
        )
      )
    )
  )
set_option maxRecDepth 100000 in
set_option maxHeartbeats 4000000 in
theorem T_X3_addHouse {l : Launch} {Γ : Gm} {x1 : Int32} {x2 : Int32} {x3 : Int32} {x4 : Int32} {σ : St} {r : Int32} {σ' : St} (h : f_X3_addHouse x1 x2 x3 x4 σ = some (r, σ')) : MetI l yX3_addHouse cX3_addHouse 6 .int 3 Γ σ [.ref (Γ.1 1), .int x1, .int x2, .int x3, .int x4] r σ' := by
  intro sz
  refine met_in (by decide) (Nat.le_of_ble_eq_true rfl) (fun p e s m args below meth c ls X hsz M hl => ?_)
  subst hsz
  have X : Cx p s m args meth c cX3_addHouse RX3 6 (some .int) Γ := X
  have hl : lv_has ls 6 [(0, .ref (Γ.1 1)), (1, .int x1), (2, .int x2), (3, .int x3), (4, .int x4)] := hl
  unfold f_X3_addHouse at h
  refine lv_aload_n X.x X.b dX3_addHouse_0 rfl (lv_at hl 0 rfl) ?_
  refine r_get X M hq_1 (el_1 _ _) rfl inX3 1 (by decide) q55 rfl rfl dX3_addHouse_1 ?_
  refine lv_istore (lv' := [(5, .int (σ 1 1)), (0, .ref (Γ.1 1)), (1, .int x1), (2, .int x2), (3, .int x3), (4, .int x4)]) X.x X.b dX3_addHouse_4 hl (by decide) rfl (fun ls hl => ?_)
  refine lv_iload X.x X.b dX3_addHouse_6 (lv_at hl 0 rfl) ?_
  refine lv_if_lt (tgt := 28) X.x X.b dX3_addHouse_8 (by decide) (fun c11 => ?_) (fun c11 => ?_)
  · have h := it_t c11 h
    refine lv_iconst (v := (-1)) X.x X.b dX3_addHouse_28 (by decide) ?_
    exact r_iret X M rfl h dX3_addHouse_29
  · have h := it_f c11 h
    refine lv_iload X.x X.b dX3_addHouse_11 (lv_at hl 0 rfl) ?_
    refine lv_bipush (v := 10) X.x X.b dX3_addHouse_13 (by decide) ?_
    refine lv_icmp_ge (tgt := 28) X.x X.b dX3_addHouse_15 (by decide) (fun c10 => ?_) (fun c10 => ?_)
    · have h := it_t c10 h
      refine lv_iconst (v := (-1)) X.x X.b dX3_addHouse_28 (by decide) ?_
      exact r_iret X M rfl h dX3_addHouse_29
    · have h := it_f c10 h
      refine lv_iload_n X.x X.b dX3_addHouse_18 rfl (lv_at hl 4 rfl) ?_
      refine lv_if_lt (tgt := 28) X.x X.b dX3_addHouse_19 (by decide) (fun c9 => ?_) (fun c9 => ?_)
      · have h := it_t c9 h
        refine lv_iconst (v := (-1)) X.x X.b dX3_addHouse_28 (by decide) ?_
        exact r_iret X M rfl h dX3_addHouse_29
      · have h := it_f c9 h
        refine lv_iload_n X.x X.b dX3_addHouse_22 rfl (lv_at hl 4 rfl) ?_
        refine lv_iload X.x X.b dX3_addHouse_23 (lv_at hl 0 rfl) ?_
        refine lv_icmp_le (tgt := 30) X.x X.b dX3_addHouse_25 (by decide) (fun c8 => ?_) (fun c8 => ?_)
        · have h := it_t c8 h
          refine lv_aload_n X.x X.b dX3_addHouse_30 rfl (lv_at hl 1 rfl) ?_
          refine r_get X M hq_1 (el_1 _ _) rfl inX3 9 (by decide) q68 rfl rfl dX3_addHouse_31 ?_
          refine lv_iload_n X.x X.b dX3_addHouse_34 rfl (lv_at hl 4 rfl) ?_
          refine lv_aload_n X.x X.b dX3_addHouse_35 rfl (lv_at hl 1 rfl) ?_
          refine r_get X M hq_1 (el_1 _ _) rfl inX3 9 (by decide) q68 rfl rfl dX3_addHouse_36 ?_
          refine lv_iload_n X.x X.b dX3_addHouse_39 rfl (lv_at hl 4 rfl) ?_
          refine lv_iconst (v := 1) X.x X.b dX3_addHouse_40 (by decide) ?_
          refine lv_iadd X.x X.b dX3_addHouse_41 ?_
          refine lv_iload X.x X.b dX3_addHouse_42 (lv_at hl 0 rfl) ?_
          refine lv_iload_n X.x X.b dX3_addHouse_44 rfl (lv_at hl 4 rfl) ?_
          refine lv_isub X.x X.b dX3_addHouse_45 ?_
          obtain ⟨c1, h⟩ := it_n h
          obtain ⟨σ2, e2, h⟩ := ol_e h
          refine r_copy (q1 := 12) (q2 := 12) (n1 := 10) (n2 := 10) X M rfl rfl (lv_sub hl [] rfl) ⟨by decide, by decide⟩ c1 q232 q234 q233 q9 (by decide) (Nat.le_of_ble_eq_true rfl) dX3_addHouse_46 (fun H locs M => ?_)
          rw [← e2] at M
          refine lv_aload_n X.x X.b dX3_addHouse_49 rfl (lv_at hl 1 rfl) ?_
          refine r_get X M hq_1 (el_1 _ _) rfl inX3 9 (by decide) q68 rfl rfl dX3_addHouse_50 ?_
          refine lv_iload_n X.x X.b dX3_addHouse_53 rfl (lv_at hl 4 rfl) ?_
          refine lv_iload X.x X.b dX3_addHouse_54 (lv_at hl 0 rfl) ?_
          obtain ⟨c3, h⟩ := it_n h
          obtain ⟨σ4, e4, h⟩ := ol_e h
          refine r_iast (q := 12) (n := 10) X M rfl c3 dX3_addHouse_56 (fun H locs M => ?_)
          rw [← e4] at M
          refine lv_aload_n X.x X.b dX3_addHouse_57 rfl (lv_at hl 1 rfl) ?_
          refine lv_iload X.x X.b dX3_addHouse_58 (lv_at hl 0 rfl) ?_
          refine lv_iconst (v := 1) X.x X.b dX3_addHouse_60 (by decide) ?_
          refine lv_iadd X.x X.b dX3_addHouse_61 ?_
          obtain ⟨σ5, e5, h⟩ := ol_e h
          refine r_put (x := ((σ 1 1) + 1)) (ty := .int) X M hq_1 (el_1 _ _) rfl inX3 tyX3_ok nmX3 1 (by decide) q55 rfl rfl rfl rfl rfl (Nat.le_of_ble_eq_true rfl) (pf_1_1 _ _ _) dX3_addHouse_62 (fun H locs M => ?_)
          rw [← e5] at M
          refine lv_aload_n X.x X.b dX3_addHouse_65 rfl (lv_at hl 1 rfl) ?_
          refine lv_iload X.x X.b dX3_addHouse_66 (lv_at hl 0 rfl) ?_
          refine lv_iload_n X.x X.b dX3_addHouse_68 rfl (lv_at hl 2 rfl) ?_
          refine lv_iload_n X.x X.b dX3_addHouse_69 rfl (lv_at hl 3 rfl) ?_
          obtain ⟨r6, σ6, h6, h⟩ := ob_e h
          refine r_runV M (r_callV (As := [.int (σ 1 1), .int x1, .int x2]) X M (lv_sub hl [] rfl) (T_X3_setKind h6 _) cal_X3_setKind q235 ⟨by decide, by decide⟩ hq_1 (el_1 _ _) rfl rfl rfl (Nat.le_of_ble_eq_true rfl) ⟨Nat.le_refl _, Nat.le_refl _⟩ dX3_addHouse_70) (fun H locs M => ?_)
          clear h6
          refine lv_aload_n X.x X.b dX3_addHouse_73 rfl (lv_at hl 1 rfl) ?_
          refine lv_iload X.x X.b dX3_addHouse_74 (lv_at hl 0 rfl) ?_
          refine lv_iload X.x X.b dX3_addHouse_76 (lv_at hl 5 rfl) ?_
          obtain ⟨r7, σ7, h7, h⟩ := ob_e h
          refine r_runV M (r_callV (As := [.int (σ 1 1), .int x4]) X M (lv_sub hl [] rfl) (T_X3_setPlate h7 _) cal_X3_setPlate q243 ⟨by decide, by decide⟩ hq_1 (el_1 _ _) rfl rfl rfl (Nat.le_of_ble_eq_true rfl) ⟨Nat.le_refl _, Nat.le_refl _⟩ dX3_addHouse_78) (fun H locs M => ?_)
          clear h7
          refine lv_iload X.x X.b dX3_addHouse_81 (lv_at hl 0 rfl) ?_
          exact r_iret X M rfl h dX3_addHouse_83
        · have h := it_f c8 h
          refine lv_iconst (v := (-1)) X.x X.b dX3_addHouse_28 (by decide) ?_
          exact r_iret X M rfl h dX3_addHouse_29
def f_X6_build_b29 (σ : St) : Rs :=
  ob (f_X6_failing 1 σ) fun r1 σ1 => (
  some (r1, σ1))
set_option maxRecDepth 100000 in
set_option maxHeartbeats 4000000 in
theorem u_X6_build_b29 {l : Launch} {Γ : Gm} {p : Program} {e : Env} {s : State} {m : MethodId} {args : Array Value} {below : List Frame} {meth : Method} {c : Code} {r : Int32} {σ' : St} (X : Cx p s m args meth c cX6_build RX6 4 (some .int) Γ) (σ : St) (H : Heap) (locs : List Loc) (ls : Array Slot) (h : f_X6_build_b29 σ = some (r, σ')) (M : Mv Γ σ s H locs) (hl : lv_has ls 4 [(0, .ref (Γ.1 0))]) : W p l e (rmd 4) s m args below meth c H locs 0 0 (MQ below (Qi Γ r σ' s.heap.size) args s 0 0 (Rg Γ s.heap.size)) (F0 m 29 ls []) := by
  unfold f_X6_build_b29 at h
  refine lv_aload_n X.x X.b dX6_build_29 rfl (lv_at hl 0 rfl) ?_
  refine lv_iconst (v := 1) X.x X.b dX6_build_30 (by decide) ?_
  obtain ⟨r1, σ1, h1, h⟩ := ob_e h
  refine r_runI M (r_callV (As := [.int 1]) X M (lv_sub hl [] rfl) (T_X6_failing h1 _) cal_X6_failing q223 ⟨by decide, by decide⟩ hq_0 (el_0 _ _) rfl rfl rfl (Nat.le_of_ble_eq_true rfl) ⟨Nat.le_refl _, Nat.le_refl _⟩ dX6_build_31) (fun H locs M => ?_)
  clear h1
  exact r_iret X M rfl h dX6_build_34
/-- StreetNumbers.build(III)I -/
def f_X6_build (x1 : Int32) (x2 : Int32) (x3 : Int32) (σ : St) : Rs :=
  ob (f_X6_isKindWithM x1 σ) fun r1 σ1 => (
  if r1 = 0 then (
    f_X6_build_b29 σ1
  ) else (
    if x2 < 0 then (
      f_X6_build_b29 σ1
    ) else (
      if (σ1 1 1) < x2 then (
        f_X6_build_b29 σ1
      ) else (
        ob (f_X6_isPlate x3 σ1) fun r2 σ2 => (
        if r2 = 0 then (
          f_X6_build_b29 σ2
        ) else (
          if (σ2 1 1) < 10 then (
            ob (f_X3_addHouse (x1 / 10) (irm x1 10) x2 x3 σ2) fun r3 σ3 => (
            some (r3, σ3))
          ) else (
            ob (f_X6_failing 4 σ2) fun r4 σ4 => (
            some (r4, σ4))
          )
        ))
      )
    )
  ))
set_option maxRecDepth 100000 in
set_option maxHeartbeats 4000000 in
theorem T_X6_build {l : Launch} {Γ : Gm} {x1 : Int32} {x2 : Int32} {x3 : Int32} {σ : St} {r : Int32} {σ' : St} (h : f_X6_build x1 x2 x3 σ = some (r, σ')) : MetI l yX6_build cX6_build 4 .int 4 Γ σ [.ref (Γ.1 0), .int x1, .int x2, .int x3] r σ' := by
  intro sz
  refine met_in (by decide) (Nat.le_of_ble_eq_true rfl) (fun p e s m args below meth c ls X hsz M hl => ?_)
  subst hsz
  have X : Cx p s m args meth c cX6_build RX6 4 (some .int) Γ := X
  have hl : lv_has ls 4 [(0, .ref (Γ.1 0)), (1, .int x1), (2, .int x2), (3, .int x3)] := hl
  unfold f_X6_build at h
  refine lv_iload_n X.x X.b dX6_build_0 rfl (lv_at hl 1 rfl) ?_
  obtain ⟨r1, σ1, h1, h⟩ := ob_e h
  refine r_runI M (r_callS (As := [.int x1]) X M (lv_sub hl [] rfl) (T_X6_isKindWithM h1 _) cal_X6_isKindWithM q217 ⟨by decide, by decide⟩ rfl rfl (Nat.le_of_ble_eq_true rfl) ⟨Nat.le_refl _, Nat.le_refl _⟩ dX6_build_1) (fun H locs M => ?_)
  clear h1
  refine lv_if_eq (tgt := 29) X.x X.b dX6_build_4 (by decide) (fun c9 => ?_) (fun c9 => ?_)
  · have h := it_t c9 h
    exact u_X6_build_b29 X σ1 _ _ _ h M (lv_sub hl [0] rfl)
  · have h := it_f c9 h
    refine lv_iload_n X.x X.b dX6_build_7 rfl (lv_at hl 2 rfl) ?_
    refine lv_if_lt (tgt := 29) X.x X.b dX6_build_8 (by decide) (fun c8 => ?_) (fun c8 => ?_)
    · have h := it_t c8 h
      exact u_X6_build_b29 X σ1 _ _ _ h M (lv_sub hl [0] rfl)
    · have h := it_f c8 h
      refine lv_iload_n X.x X.b dX6_build_11 rfl (lv_at hl 2 rfl) ?_
      refine lv_aload_n X.x X.b dX6_build_12 rfl (lv_at hl 0 rfl) ?_
      refine r_get X M hq_0 (el_0 _ _) rfl inX6 0 (by decide) q188 rfl rfl dX6_build_13 ?_
      refine r_get X M hq_1 (el_1 _ _) rfl inX3 1 (by decide) q56 rfl rfl dX6_build_16 ?_
      refine lv_icmp_gt (tgt := 29) X.x X.b dX6_build_19 (by decide) (fun c7 => ?_) (fun c7 => ?_)
      · have h := it_t c7 h
        exact u_X6_build_b29 X σ1 _ _ _ h M (lv_sub hl [0] rfl)
      · have h := it_f c7 h
        refine lv_iload_n X.x X.b dX6_build_22 rfl (lv_at hl 3 rfl) ?_
        obtain ⟨r2, σ2, h2, h⟩ := ob_e h
        refine r_runI M (r_callS (As := [.int x3]) X M (lv_sub hl [] rfl) (T_X6_isPlate h2 _) cal_X6_isPlate q220 ⟨by decide, by decide⟩ rfl rfl (Nat.le_of_ble_eq_true rfl) ⟨Nat.le_refl _, Nat.le_refl _⟩ dX6_build_23) (fun H locs M => ?_)
        clear h2
        refine lv_if_ne (tgt := 35) X.x X.b dX6_build_26 (by decide) (fun c6 => ?_) (fun c6 => ?_)
        · have h := it_f c6 h
          refine lv_aload_n X.x X.b dX6_build_35 rfl (lv_at hl 0 rfl) ?_
          refine r_get X M hq_0 (el_0 _ _) rfl inX6 0 (by decide) q188 rfl rfl dX6_build_36 ?_
          refine r_get X M hq_1 (el_1 _ _) rfl inX3 1 (by decide) q56 rfl rfl dX6_build_39 ?_
          refine lv_bipush (v := 10) X.x X.b dX6_build_42 (by decide) ?_
          refine lv_icmp_lt (tgt := 53) X.x X.b dX6_build_44 (by decide) (fun c5 => ?_) (fun c5 => ?_)
          · have h := it_t c5 h
            refine lv_aload_n X.x X.b dX6_build_53 rfl (lv_at hl 0 rfl) ?_
            refine r_get X M hq_0 (el_0 _ _) rfl inX6 0 (by decide) q188 rfl rfl dX6_build_54 ?_
            refine lv_iload_n X.x X.b dX6_build_57 rfl (lv_at hl 1 rfl) ?_
            refine lv_bipush (v := 10) X.x X.b dX6_build_58 (by decide) ?_
            refine lv_idiv X.x X.b dX6_build_60 (by decide) ?_
            refine lv_iload_n X.x X.b dX6_build_61 rfl (lv_at hl 1 rfl) ?_
            refine lv_bipush (v := 10) X.x X.b dX6_build_62 (by decide) ?_
            refine r_irem X dX6_build_64 (by decide) ?_
            refine lv_iload_n X.x X.b dX6_build_65 rfl (lv_at hl 2 rfl) ?_
            refine lv_iload_n X.x X.b dX6_build_66 rfl (lv_at hl 3 rfl) ?_
            obtain ⟨r3, σ3, h3, h⟩ := ob_e h
            refine r_runI M (r_callV (As := [.int (x1 / 10), .int (irm x1 10), .int x2, .int x3]) X M (lv_sub hl [] rfl) (T_X3_addHouse h3 _) cal_X3_addHouse q228 ⟨by decide, by decide⟩ hq_1 (el_1 _ _) rfl rfl rfl (Nat.le_of_ble_eq_true rfl) ⟨Nat.le_refl _, Nat.le_refl _⟩ dX6_build_67) (fun H locs M => ?_)
            clear h3
            exact r_iret X M rfl h dX6_build_70
          · have h := it_f c5 h
            refine lv_aload_n X.x X.b dX6_build_47 rfl (lv_at hl 0 rfl) ?_
            refine lv_iconst (v := 4) X.x X.b dX6_build_48 (by decide) ?_
            obtain ⟨r4, σ4, h4, h⟩ := ob_e h
            refine r_runI M (r_callV (As := [.int 4]) X M (lv_sub hl [] rfl) (T_X6_failing h4 _) cal_X6_failing q223 ⟨by decide, by decide⟩ hq_0 (el_0 _ _) rfl rfl rfl (Nat.le_of_ble_eq_true rfl) ⟨Nat.le_refl _, Nat.le_refl _⟩ dX6_build_49) (fun H locs M => ?_)
            clear h4
            exact r_iret X M rfl h dX6_build_52
        · have h := it_t c6 h
          exact u_X6_build_b29 X σ2 _ _ _ h M (lv_sub hl [0] rfl)
/-- StreetNumbers$Street.waitingAt(I)I -/
def f_X3_waitingAt (x1 : Int32) (σ : St) : Rs :=
  if x1 < 0 then (
    some (0, σ)
  ) else (
    if 24 ≤ x1 then (
      some (0, σ)
    ) else (
      if inb x1 24 then (
      some ((σ 13 x1.toNatClampNeg), σ)) else none
    )
  )
set_option maxRecDepth 100000 in
set_option maxHeartbeats 4000000 in
theorem T_X3_waitingAt {l : Launch} {Γ : Gm} {x1 : Int32} {σ : St} {r : Int32} {σ' : St} (h : f_X3_waitingAt x1 σ = some (r, σ')) : MetI l yX3_waitingAt cX3_waitingAt 2 .int 1 Γ σ [.ref (Γ.1 1), .int x1] r σ' := by
  intro sz
  refine met_in (by decide) (Nat.le_of_ble_eq_true rfl) (fun p e s m args below meth c ls X hsz M hl => ?_)
  subst hsz
  have X : Cx p s m args meth c cX3_waitingAt RX3 2 (some .int) Γ := X
  have hl : lv_has ls 2 [(0, .ref (Γ.1 1)), (1, .int x1)] := hl
  unfold f_X3_waitingAt at h
  refine lv_iload_n X.x X.b dX3_waitingAt_0 rfl (lv_at hl 1 rfl) ?_
  refine lv_if_lt (tgt := 19) X.x X.b dX3_waitingAt_1 (by decide) (fun c3 => ?_) (fun c3 => ?_)
  · have h := it_t c3 h
    refine lv_iconst (v := 0) X.x X.b dX3_waitingAt_19 (by decide) ?_
    exact r_iret X M rfl h dX3_waitingAt_20
  · have h := it_f c3 h
    refine lv_iload_n X.x X.b dX3_waitingAt_4 rfl (lv_at hl 1 rfl) ?_
    refine lv_bipush (v := 24) X.x X.b dX3_waitingAt_5 (by decide) ?_
    refine lv_icmp_ge (tgt := 19) X.x X.b dX3_waitingAt_7 (by decide) (fun c2 => ?_) (fun c2 => ?_)
    · have h := it_t c2 h
      refine lv_iconst (v := 0) X.x X.b dX3_waitingAt_19 (by decide) ?_
      exact r_iret X M rfl h dX3_waitingAt_20
    · have h := it_f c2 h
      refine lv_aload_n X.x X.b dX3_waitingAt_10 rfl (lv_at hl 0 rfl) ?_
      refine r_get X M hq_1 (el_1 _ _) rfl inX3 10 (by decide) q69 rfl rfl dX3_waitingAt_11 ?_
      refine lv_iload_n X.x X.b dX3_waitingAt_14 rfl (lv_at hl 1 rfl) ?_
      obtain ⟨c1, h⟩ := it_n h
      refine r_iald (q := 13) (n := 24) X M rfl c1 dX3_waitingAt_15 ?_
      refine lv_goto (tgt := 20) X.x X.b dX3_waitingAt_16 (by decide) ?_
      exact r_iret X M rfl h dX3_waitingAt_20
def f_X6_check_b18 (k18 : (Int32 → Int32 → St → Rs)) (x1 : Int32) (x2 : Int32) (σ : St) : Rs :=
  if x1 ≤ x2 then (
    some (0, σ)
  ) else (
    ob (f_X3_hasHouse x2 σ) fun r1 σ1 => (
    if r1 = 0 then (
      some ((1 + x2), σ1)
    ) else (
      ob (f_X3_waitingAt x2 σ1) fun r2 σ2 => (
      ob (f_X3_plate x2 σ2) fun r3 σ3 => (
      if r2 = r3 then (
        k18 x1 (x2 + 1) σ3
      ) else (
        some ((1 + x2), σ3)
      )))
    ))
  )
set_option maxRecDepth 100000 in
set_option maxHeartbeats 4000000 in
theorem u_X6_check_b18 {l : Launch} {Γ : Gm} {p : Program} {e : Env} {s : State} {m : MethodId} {args : Array Value} {below : List Frame} {meth : Method} {c : Code} {r : Int32} {σ' : St} {k18 : Int32 → Int32 → St → Rs} (X : Cx p s m args meth c cX6_check RX6 3 (some .int) Γ) (H18 : ∀ (x1 : Int32) (x2 : Int32) (σ : St) (H : Heap) (locs : List Loc) (ls : Array Slot), k18 x1 x2 σ = some (r, σ') → Mv Γ σ s H locs → lv_has ls 3 [(0, .ref (Γ.1 0)), (1, .int x1), (2, .int x2)] → W p l e (rmd 3) s m args below meth c H locs 0 0 (MQ below (Qi Γ r σ' s.heap.size) args s 0 0 (Rg Γ s.heap.size)) (F0 m 18 ls [])) (x1 : Int32) (x2 : Int32) (σ : St) (H : Heap) (locs : List Loc) (ls : Array Slot) (h : f_X6_check_b18 k18 x1 x2 σ = some (r, σ')) (M : Mv Γ σ s H locs) (hl : lv_has ls 3 [(0, .ref (Γ.1 0)), (1, .int x1), (2, .int x2)]) : W p l e (rmd 3) s m args below meth c H locs 0 0 (MQ below (Qi Γ r σ' s.heap.size) args s 0 0 (Rg Γ s.heap.size)) (F0 m 18 ls []) := by
  unfold f_X6_check_b18 at h
  refine lv_iload_n X.x X.b dX6_check_18 rfl (lv_at hl 2 rfl) ?_
  refine lv_iload_n X.x X.b dX6_check_19 rfl (lv_at hl 1 rfl) ?_
  refine lv_icmp_ge (tgt := 63) X.x X.b dX6_check_20 (by decide) (fun c6 => ?_) (fun c6 => ?_)
  · have h := it_t c6 h
    refine lv_iconst (v := 0) X.x X.b dX6_check_63 (by decide) ?_
    exact r_iret X M rfl h dX6_check_64
  · have h := it_f c6 h
    refine lv_aload_n X.x X.b dX6_check_23 rfl (lv_at hl 0 rfl) ?_
    refine r_get X M hq_0 (el_0 _ _) rfl inX6 0 (by decide) q188 rfl rfl dX6_check_24 ?_
    refine lv_iload_n X.x X.b dX6_check_27 rfl (lv_at hl 2 rfl) ?_
    obtain ⟨r1, σ1, h1, h⟩ := ob_e h
    refine r_runI M (r_callV (As := [.int x2]) X M (lv_sub hl [] rfl) (T_X3_hasHouse h1 _) cal_X3_hasHouse q251 ⟨by decide, by decide⟩ hq_1 (el_1 _ _) rfl rfl rfl (Nat.le_of_ble_eq_true rfl) ⟨Nat.le_refl _, Nat.le_refl _⟩ dX6_check_28) (fun H locs M => ?_)
    clear h1
    refine lv_if_eq (tgt := 53) X.x X.b dX6_check_31 (by decide) (fun c5 => ?_) (fun c5 => ?_)
    · have h := it_t c5 h
      refine lv_iconst (v := 1) X.x X.b dX6_check_53 (by decide) ?_
      refine lv_iload_n X.x X.b dX6_check_54 rfl (lv_at hl 2 rfl) ?_
      refine lv_iadd X.x X.b dX6_check_55 ?_
      exact r_iret X M rfl h dX6_check_56
    · have h := it_f c5 h
      refine lv_aload_n X.x X.b dX6_check_34 rfl (lv_at hl 0 rfl) ?_
      refine r_get X M hq_0 (el_0 _ _) rfl inX6 0 (by decide) q188 rfl rfl dX6_check_35 ?_
      refine lv_iload_n X.x X.b dX6_check_38 rfl (lv_at hl 2 rfl) ?_
      obtain ⟨r2, σ2, h2, h⟩ := ob_e h
      refine r_runI M (r_callV (As := [.int x2]) X M (lv_sub hl [] rfl) (T_X3_waitingAt h2 _) cal_X3_waitingAt q710 ⟨by decide, by decide⟩ hq_1 (el_1 _ _) rfl rfl rfl (Nat.le_of_ble_eq_true rfl) ⟨Nat.le_refl _, Nat.le_refl _⟩ dX6_check_39) (fun H locs M => ?_)
      clear h2
      refine lv_aload_n X.x X.b dX6_check_42 rfl (lv_at hl 0 rfl) ?_
      refine r_get X M hq_0 (el_0 _ _) rfl inX6 0 (by decide) q188 rfl rfl dX6_check_43 ?_
      refine lv_iload_n X.x X.b dX6_check_46 rfl (lv_at hl 2 rfl) ?_
      obtain ⟨r3, σ3, h3, h⟩ := ob_e h
      refine r_runI M (r_callV (As := [.int x2]) X M (lv_sub hl [] rfl) (T_X3_plate h3 _) cal_X3_plate q260 ⟨by decide, by decide⟩ hq_1 (el_1 _ _) rfl rfl rfl (Nat.le_of_ble_eq_true rfl) ⟨Nat.le_refl _, Nat.le_refl _⟩ dX6_check_47) (fun H locs M => ?_)
      clear h3
      refine lv_icmp_eq (tgt := 57) X.x X.b dX6_check_50 (by decide) (fun c4 => ?_) (fun c4 => ?_)
      · have h := it_t c4 h
        refine lv_iinc (v := (x2 + 1)) (lv' := [(2, .int (x2 + 1)), (0, .ref (Γ.1 0)), (1, .int x1)]) X.x X.b dX6_check_57 hl (k := 2) rfl rfl (by decide) rfl (fun ls hl => ?_)
        refine lv_goto (tgt := 18) X.x X.b dX6_check_60 (by decide) ?_
        exact H18 x1 (x2 + 1) σ3 _ _ _ h M (lv_sub hl [1, 2, 0] rfl)
      · have h := it_f c4 h
        refine lv_iconst (v := 1) X.x X.b dX6_check_53 (by decide) ?_
        refine lv_iload_n X.x X.b dX6_check_54 rfl (lv_at hl 2 rfl) ?_
        refine lv_iadd X.x X.b dX6_check_55 ?_
        exact r_iret X M rfl h dX6_check_56
def f_X6_check_L18 : Nat → Int32 → Int32 → St → Rs
  | 0 => fun _ _ _ => none
  | n + 1 => fun x1 x2 σ => f_X6_check_b18 (f_X6_check_L18 n) x1 x2 σ
theorem u_X6_check_L18 {l : Launch} {Γ : Gm} {p : Program} {e : Env} {s : State} {m : MethodId} {args : Array Value} {below : List Frame} {meth : Method} {c : Code} {r : Int32} {σ' : St} (X : Cx p s m args meth c cX6_check RX6 3 (some .int) Γ) : ∀ (n : Nat) (x1 : Int32) (x2 : Int32) (σ : St) (H : Heap) (locs : List Loc) (ls : Array Slot), f_X6_check_L18 n x1 x2 σ = some (r, σ') → Mv Γ σ s H locs → lv_has ls 3 [(0, .ref (Γ.1 0)), (1, .int x1), (2, .int x2)] → W p l e (rmd 3) s m args below meth c H locs 0 0 (MQ below (Qi Γ r σ' s.heap.size) args s 0 0 (Rg Γ s.heap.size)) (F0 m 18 ls []) := by
  intro n
  induction n with
  | zero => intro x1 x2 σ H locs ls h; cases h
  | succ n ih => intro x1 x2 σ H locs ls h; exact u_X6_check_b18 X  ih x1 x2 σ H locs ls h
/-- StreetNumbers.check()I -/
def f_X6_check (σ : St) : Rs :=
  ol (st σ 1 5 0) fun σ1 => (
  f_X6_check_L18 LF (σ 1 5) 0 σ1)
set_option maxRecDepth 100000 in
set_option maxHeartbeats 4000000 in
theorem T_X6_check {l : Launch} {Γ : Gm} {σ : St} {r : Int32} {σ' : St} (h : f_X6_check σ = some (r, σ')) : MetI l yX6_check cX6_check 3 .int 3 Γ σ [.ref (Γ.1 0)] r σ' := by
  intro sz
  refine met_in (by decide) (Nat.le_of_ble_eq_true rfl) (fun p e s m args below meth c ls X hsz M hl => ?_)
  subst hsz
  have X : Cx p s m args meth c cX6_check RX6 3 (some .int) Γ := X
  have hl : lv_has ls 3 [(0, .ref (Γ.1 0))] := hl
  unfold f_X6_check at h
  refine lv_aload_n X.x X.b dX6_check_0 rfl (lv_at hl 0 rfl) ?_
  refine r_get X M hq_0 (el_0 _ _) rfl inX6 0 (by decide) q188 rfl rfl dX6_check_1 ?_
  refine r_get X M hq_1 (el_1 _ _) rfl inX3 5 (by decide) q64 rfl rfl dX6_check_4 ?_
  refine lv_istore_n (lv' := [(1, .int (σ 1 5)), (0, .ref (Γ.1 0))]) X.x X.b dX6_check_7 rfl hl (by decide) rfl (fun ls hl => ?_)
  refine lv_aload_n X.x X.b dX6_check_8 rfl (lv_at hl 1 rfl) ?_
  refine r_get X M hq_0 (el_0 _ _) rfl inX6 0 (by decide) q188 rfl rfl dX6_check_9 ?_
  refine lv_iconst (v := 0) X.x X.b dX6_check_12 (by decide) ?_
  obtain ⟨σ1, e1, h⟩ := ol_e h
  refine r_put (x := 0) (ty := .int) X M hq_1 (el_1 _ _) rfl inX3 tyX3_ok nmX3 5 (by decide) q64 rfl rfl rfl rfl rfl (Nat.le_of_ble_eq_true rfl) (pf_1_5 _ _ _) dX6_check_13 (fun H locs M => ?_)
  rw [← e1] at M
  refine lv_iconst (v := 0) X.x X.b dX6_check_16 (by decide) ?_
  refine lv_istore_n (lv' := [(2, .int 0), (1, .int (σ 1 5)), (0, .ref (Γ.1 0))]) X.x X.b dX6_check_17 rfl hl (by decide) rfl (fun ls hl => ?_)
  exact u_X6_check_L18 X LF (σ 1 5) 0 σ1 _ _ _ h M (lv_sub hl [2, 1, 0] rfl)
/-- StreetNumbers.count(I)I -/
def f_X6_count (x1 : Int32) (σ : St) : Rs :=
  if x1 = 0 then (
    some ((σ 1 1), σ)
  ) else (
  if x1 = 1 then (
    some ((σ 1 2), σ)
  ) else (
  if x1 = 2 then (
    some ((σ 1 3), σ)
  ) else (
  if x1 = 3 then (
    some ((σ 2 1), σ)
  ) else (
  if x1 = 4 then (
    some ((σ 1 5), σ)
  ) else (
  if x1 = 5 then (
    some ((σ 55 1), σ)
  ) else (
  if x1 = 6 then (
    some ((σ 1 4), σ)
  ) else (
    ob (f_X6_failing 1 σ) fun r8 σ8 => (
    some (r8, σ8))
  )))))))
set_option maxRecDepth 100000 in
set_option maxHeartbeats 4000000 in
theorem T_X6_count {l : Launch} {Γ : Gm} {x1 : Int32} {σ : St} {r : Int32} {σ' : St} (h : f_X6_count x1 σ = some (r, σ')) : MetI l yX6_count cX6_count 2 .int 2 Γ σ [.ref (Γ.1 0), .int x1] r σ' := by
  intro sz
  refine met_in (by decide) (Nat.le_of_ble_eq_true rfl) (fun p e s m args below meth c ls X hsz M hl => ?_)
  subst hsz
  have X : Cx p s m args meth c cX6_count RX6 2 (some .int) Γ := X
  have hl : lv_has ls 2 [(0, .ref (Γ.1 0)), (1, .int x1)] := hl
  unfold f_X6_count at h
  refine lv_iload_n X.x X.b dX6_count_0 rfl (lv_at hl 1 rfl) ?_
  by_cases c1 : x1 = 0
  · have h := it_t c1 h
    refine lv_tableIn (tgt := 44) X.x X.b dX6_count_1 (by rw [c1]; decide) (by rw [c1]; decide) (by first | (rw [c1]; done) | (rw [c1]; rfl)) (by decide) ?_
    refine lv_aload_n X.x X.b dX6_count_44 rfl (lv_at hl 0 rfl) ?_
    refine r_get X M hq_0 (el_0 _ _) rfl inX6 0 (by decide) q188 rfl rfl dX6_count_45 ?_
    refine r_get X M hq_1 (el_1 _ _) rfl inX3 1 (by decide) q56 rfl rfl dX6_count_48 ?_
    exact r_iret X M rfl h dX6_count_51
  have h := it_f c1 h
  by_cases c2 : x1 = 1
  · have h := it_t c2 h
    refine lv_tableIn (tgt := 52) X.x X.b dX6_count_1 (by rw [c2]; decide) (by rw [c2]; decide) (by first | (rw [c2]; done) | (rw [c2]; rfl)) (by decide) ?_
    refine lv_aload_n X.x X.b dX6_count_52 rfl (lv_at hl 0 rfl) ?_
    refine r_get X M hq_0 (el_0 _ _) rfl inX6 0 (by decide) q188 rfl rfl dX6_count_53 ?_
    refine r_get X M hq_1 (el_1 _ _) rfl inX3 2 (by decide) q58 rfl rfl dX6_count_56 ?_
    exact r_iret X M rfl h dX6_count_59
  have h := it_f c2 h
  by_cases c3 : x1 = 2
  · have h := it_t c3 h
    refine lv_tableIn (tgt := 60) X.x X.b dX6_count_1 (by rw [c3]; decide) (by rw [c3]; decide) (by first | (rw [c3]; done) | (rw [c3]; rfl)) (by decide) ?_
    refine lv_aload_n X.x X.b dX6_count_60 rfl (lv_at hl 0 rfl) ?_
    refine r_get X M hq_0 (el_0 _ _) rfl inX6 0 (by decide) q188 rfl rfl dX6_count_61 ?_
    refine r_get X M hq_1 (el_1 _ _) rfl inX3 3 (by decide) q60 rfl rfl dX6_count_64 ?_
    exact r_iret X M rfl h dX6_count_67
  have h := it_f c3 h
  by_cases c4 : x1 = 3
  · have h := it_t c4 h
    refine lv_tableIn (tgt := 68) X.x X.b dX6_count_1 (by rw [c4]; decide) (by rw [c4]; decide) (by first | (rw [c4]; done) | (rw [c4]; rfl)) (by decide) ?_
    refine lv_aload_n X.x X.b dX6_count_68 rfl (lv_at hl 0 rfl) ?_
    refine r_get X M hq_0 (el_0 _ _) rfl inX6 0 (by decide) q188 rfl rfl dX6_count_69 ?_
    refine r_get X M hq_1 (el_1 _ _) rfl inX3 0 (by decide) q53 rfl rfl dX6_count_72 ?_
    refine r_get X M hq_2 (el_2 _ _) rfl inX0 1 (by decide) q36 rfl rfl dX6_count_75 ?_
    exact r_iret X M rfl h dX6_count_78
  have h := it_f c4 h
  by_cases c5 : x1 = 4
  · have h := it_t c5 h
    refine lv_tableIn (tgt := 79) X.x X.b dX6_count_1 (by rw [c5]; decide) (by rw [c5]; decide) (by first | (rw [c5]; done) | (rw [c5]; rfl)) (by decide) ?_
    refine lv_aload_n X.x X.b dX6_count_79 rfl (lv_at hl 0 rfl) ?_
    refine r_get X M hq_0 (el_0 _ _) rfl inX6 0 (by decide) q188 rfl rfl dX6_count_80 ?_
    refine r_get X M hq_1 (el_1 _ _) rfl inX3 5 (by decide) q64 rfl rfl dX6_count_83 ?_
    exact r_iret X M rfl h dX6_count_86
  have h := it_f c5 h
  by_cases c6 : x1 = 5
  · have h := it_t c6 h
    refine lv_tableIn (tgt := 87) X.x X.b dX6_count_1 (by rw [c6]; decide) (by rw [c6]; decide) (by first | (rw [c6]; done) | (rw [c6]; rfl)) (by decide) ?_
    refine lv_aload_n X.x X.b dX6_count_87 rfl (lv_at hl 0 rfl) ?_
    refine r_get X M hq_0 (el_0 _ _) rfl inX6 4 (by decide) q192 rfl rfl dX6_count_88 ?_
    refine r_get X M hq_55 (el_55 _ _) rfl inX5 1 (by decide) q153 rfl rfl dX6_count_91 ?_
    exact r_iret X M rfl h dX6_count_94
  have h := it_f c6 h
  by_cases c7 : x1 = 6
  · have h := it_t c7 h
    refine lv_tableIn (tgt := 95) X.x X.b dX6_count_1 (by rw [c7]; decide) (by rw [c7]; decide) (by first | (rw [c7]; done) | (rw [c7]; rfl)) (by decide) ?_
    refine lv_aload_n X.x X.b dX6_count_95 rfl (lv_at hl 0 rfl) ?_
    refine r_get X M hq_0 (el_0 _ _) rfl inX6 0 (by decide) q188 rfl rfl dX6_count_96 ?_
    refine r_get X M hq_1 (el_1 _ _) rfl inX3 4 (by decide) q62 rfl rfl dX6_count_99 ?_
    exact r_iret X M rfl h dX6_count_102
  have h := it_f c7 h
  have c1z := lv_neT c1 (show (0 : Int32).toInt = 0 by decide)
  have c2z := lv_neT c2 (show (1 : Int32).toInt = 1 by decide)
  have c3z := lv_neT c3 (show (2 : Int32).toInt = 2 by decide)
  have c4z := lv_neT c4 (show (3 : Int32).toInt = 3 by decide)
  have c5z := lv_neT c5 (show (4 : Int32).toInt = 4 by decide)
  have c6z := lv_neT c6 (show (5 : Int32).toInt = 5 by decide)
  have c7z := lv_neT c7 (show (6 : Int32).toInt = 6 by decide)
  refine lv_tableOut (tgt := 103) X.x X.b dX6_count_1 (by omega) (by decide) ?_
  refine lv_aload_n X.x X.b dX6_count_103 rfl (lv_at hl 0 rfl) ?_
  refine lv_iconst (v := 1) X.x X.b dX6_count_104 (by decide) ?_
  obtain ⟨r8, σ8, h8, h⟩ := ob_e h
  refine r_runI M (r_callV (As := [.int 1]) X M (lv_sub hl [] rfl) (T_X6_failing h8 _) cal_X6_failing q223 ⟨by decide, by decide⟩ hq_0 (el_0 _ _) rfl rfl rfl (Nat.le_of_ble_eq_true rfl) ⟨Nat.le_refl _, Nat.le_refl _⟩ dX6_count_105) (fun H locs M => ?_)
  clear h8
  exact r_iret X M rfl h dX6_count_108
def f_X0_addBytes_b6 (k6 : (Int32 → Int64 → Int32 → St → Rs)) (x3 : Int32) (x4 : Int64) (x6 : Int32) (σ : St) : Rs :=
  if x3 ≤ x6 then (
    some ((σ 2 1), σ)
  ) else (
    if 60 ≤ (σ 2 1) then (
      some ((σ 2 1), σ)
    ) else (
      if inb (σ 2 1) 60 then (
      ol (st σ 3 (σ 2 1).toNatClampNeg ((x4 &&& 255).toInt32)) fun σ2 => (
      ol (st σ2 2 1 ((σ2 2 1) + 1)) fun σ3 => (
      k6 x3 (lushr x4 8) (x6 + 1) σ3))) else none
    )
  )
set_option maxRecDepth 100000 in
set_option maxHeartbeats 4000000 in
theorem u_X0_addBytes_b6 {l : Launch} {Γ : Gm} {p : Program} {e : Env} {s : State} {m : MethodId} {args : Array Value} {below : List Frame} {meth : Method} {c : Code} {r : Int32} {σ' : St} {k6 : Int32 → Int64 → Int32 → St → Rs} (X : Cx p s m args meth c cX0_addBytes RX0 7 (some .int) Γ) (H6 : ∀ (x3 : Int32) (x4 : Int64) (x6 : Int32) (σ : St) (H : Heap) (locs : List Loc) (ls : Array Slot), k6 x3 x4 x6 σ = some (r, σ') → Mv Γ σ s H locs → lv_has ls 7 [(0, .ref (Γ.1 2)), (3, .int x3), (4, .long x4), (6, .int x6)] → W p l e (rmd 1) s m args below meth c H locs 0 0 (MQ below (Qi Γ r σ' s.heap.size) args s 0 0 (Rg Γ s.heap.size)) (F0 m 6 ls [])) (x3 : Int32) (x4 : Int64) (x6 : Int32) (σ : St) (H : Heap) (locs : List Loc) (ls : Array Slot) (h : f_X0_addBytes_b6 k6 x3 x4 x6 σ = some (r, σ')) (M : Mv Γ σ s H locs) (hl : lv_has ls 7 [(0, .ref (Γ.1 2)), (3, .int x3), (4, .long x4), (6, .int x6)]) : W p l e (rmd 1) s m args below meth c H locs 0 0 (MQ below (Qi Γ r σ' s.heap.size) args s 0 0 (Rg Γ s.heap.size)) (F0 m 6 ls []) := by
  unfold f_X0_addBytes_b6 at h
  refine lv_iload X.x X.b dX0_addBytes_6 (lv_at hl 3 rfl) ?_
  refine lv_iload_n X.x X.b dX0_addBytes_8 rfl (lv_at hl 1 rfl) ?_
  refine lv_icmp_ge (tgt := 60) X.x X.b dX0_addBytes_9 (by decide) (fun c5 => ?_) (fun c5 => ?_)
  · have h := it_t c5 h
    refine lv_aload_n X.x X.b dX0_addBytes_60 rfl (lv_at hl 0 rfl) ?_
    refine r_get X M hq_2 (el_2 _ _) rfl inX0 1 (by decide) q35 rfl rfl dX0_addBytes_61 ?_
    exact r_iret X M rfl h dX0_addBytes_64
  · have h := it_f c5 h
    refine lv_aload_n X.x X.b dX0_addBytes_12 rfl (lv_at hl 0 rfl) ?_
    refine r_get X M hq_2 (el_2 _ _) rfl inX0 1 (by decide) q35 rfl rfl dX0_addBytes_13 ?_
    refine lv_bipush (v := 60) X.x X.b dX0_addBytes_16 (by decide) ?_
    refine lv_icmp_ge (tgt := 60) X.x X.b dX0_addBytes_18 (by decide) (fun c4 => ?_) (fun c4 => ?_)
    · have h := it_t c4 h
      refine lv_aload_n X.x X.b dX0_addBytes_60 rfl (lv_at hl 0 rfl) ?_
      refine r_get X M hq_2 (el_2 _ _) rfl inX0 1 (by decide) q35 rfl rfl dX0_addBytes_61 ?_
      exact r_iret X M rfl h dX0_addBytes_64
    · have h := it_f c4 h
      refine lv_aload_n X.x X.b dX0_addBytes_21 rfl (lv_at hl 0 rfl) ?_
      refine r_get X M hq_2 (el_2 _ _) rfl inX0 0 (by decide) q33 rfl rfl dX0_addBytes_22 ?_
      refine lv_aload_n X.x X.b dX0_addBytes_25 rfl (lv_at hl 0 rfl) ?_
      refine r_get X M hq_2 (el_2 _ _) rfl inX0 1 (by decide) q35 rfl rfl dX0_addBytes_26 ?_
      refine lv_lload X.x X.b dX0_addBytes_29 (lv_at hl 2 rfl) ?_
      refine lv_ldc2 (v := 255) X.x X.b X.ow (X.ts _ q381) dX0_addBytes_31 ?_
      refine lv_land X.x X.b dX0_addBytes_34 ?_
      refine lv_l2i (v := ((x4 &&& 255).toInt32)) X.x X.b dX0_addBytes_35 rfl ?_
      obtain ⟨c1, h⟩ := it_n h
      obtain ⟨σ2, e2, h⟩ := ol_e h
      refine r_iast (q := 3) (n := 60) X M rfl c1 dX0_addBytes_36 (fun H locs M => ?_)
      rw [← e2] at M
      refine lv_aload_n X.x X.b dX0_addBytes_37 rfl (lv_at hl 0 rfl) ?_
      refine lv_dup X.x X.b dX0_addBytes_38 rfl ?_
      refine r_get X M hq_2 (el_2 _ _) rfl inX0 1 (by decide) q35 rfl rfl dX0_addBytes_39 ?_
      refine lv_iconst (v := 1) X.x X.b dX0_addBytes_42 (by decide) ?_
      refine lv_iadd X.x X.b dX0_addBytes_43 ?_
      obtain ⟨σ3, e3, h⟩ := ol_e h
      refine r_put (x := ((σ2 2 1) + 1)) (ty := .int) X M hq_2 (el_2 _ _) rfl inX0 tyX0_ok nmX0 1 (by decide) q35 rfl rfl rfl rfl rfl (Nat.le_of_ble_eq_true rfl) (pf_2_1 _ _ _) dX0_addBytes_44 (fun H locs M => ?_)
      rw [← e3] at M
      refine lv_lload X.x X.b dX0_addBytes_47 (lv_at hl 2 rfl) ?_
      refine lv_bipush (v := 8) X.x X.b dX0_addBytes_49 (by decide) ?_
      refine lv_lushr (v := (lushr x4 8)) X.x X.b dX0_addBytes_51 rfl ?_
      refine lv_lstore (lv' := [(4, .long (lushr x4 8)), (0, .ref (Γ.1 2)), (3, .int x3), (6, .int x6)]) X.x X.b dX0_addBytes_52 hl (by decide) rfl (fun ls hl => ?_)
      refine lv_iinc (v := (x6 + 1)) (lv' := [(6, .int (x6 + 1)), (4, .long (lushr x4 8)), (0, .ref (Γ.1 2)), (3, .int x3)]) X.x X.b dX0_addBytes_54 hl (k := 3) rfl rfl (by decide) rfl (fun ls hl => ?_)
      refine lv_goto (tgt := 6) X.x X.b dX0_addBytes_57 (by decide) ?_
      exact H6 x3 (lushr x4 8) (x6 + 1) σ3 _ _ _ h M (lv_sub hl [2, 3, 1, 0] rfl)
def f_X0_addBytes_L6 : Nat → Int32 → Int64 → Int32 → St → Rs
  | 0 => fun _ _ _ _ => none
  | n + 1 => fun x3 x4 x6 σ => f_X0_addBytes_b6 (f_X0_addBytes_L6 n) x3 x4 x6 σ
theorem u_X0_addBytes_L6 {l : Launch} {Γ : Gm} {p : Program} {e : Env} {s : State} {m : MethodId} {args : Array Value} {below : List Frame} {meth : Method} {c : Code} {r : Int32} {σ' : St} (X : Cx p s m args meth c cX0_addBytes RX0 7 (some .int) Γ) : ∀ (n : Nat) (x3 : Int32) (x4 : Int64) (x6 : Int32) (σ : St) (H : Heap) (locs : List Loc) (ls : Array Slot), f_X0_addBytes_L6 n x3 x4 x6 σ = some (r, σ') → Mv Γ σ s H locs → lv_has ls 7 [(0, .ref (Γ.1 2)), (3, .int x3), (4, .long x4), (6, .int x6)] → W p l e (rmd 1) s m args below meth c H locs 0 0 (MQ below (Qi Γ r σ' s.heap.size) args s 0 0 (Rg Γ s.heap.size)) (F0 m 6 ls []) := by
  intro n
  induction n with
  | zero => intro x3 x4 x6 σ H locs ls h; cases h
  | succ n ih => intro x3 x4 x6 σ H locs ls h; exact u_X0_addBytes_b6 X  ih x3 x4 x6 σ H locs ls h
/-- StreetNumbers$Laws.addBytes(JI)I -/
def f_X0_addBytes (x1 : Int64) (x3 : Int32) (σ : St) : Rs :=
  f_X0_addBytes_L6 LF x3 x1 0 σ
set_option maxRecDepth 100000 in
set_option maxHeartbeats 4000000 in
theorem T_X0_addBytes {l : Launch} {Γ : Gm} {x1 : Int64} {x3 : Int32} {σ : St} {r : Int32} {σ' : St} (h : f_X0_addBytes x1 x3 σ = some (r, σ')) : MetI l yX0_addBytes cX0_addBytes 7 .int 1 Γ σ [.ref (Γ.1 2), .long x1, .int x3] r σ' := by
  intro sz
  refine met_in (by decide) (Nat.le_of_ble_eq_true rfl) (fun p e s m args below meth c ls X hsz M hl => ?_)
  subst hsz
  have X : Cx p s m args meth c cX0_addBytes RX0 7 (some .int) Γ := X
  have hl : lv_has ls 7 [(0, .ref (Γ.1 2)), (1, .long x1), (3, .int x3)] := hl
  unfold f_X0_addBytes at h
  refine lv_lload_n X.x X.b dX0_addBytes_0 rfl (lv_at hl 1 rfl) ?_
  refine lv_lstore (lv' := [(4, .long x1), (0, .ref (Γ.1 2)), (1, .long x1), (3, .int x3)]) X.x X.b dX0_addBytes_1 hl (by decide) rfl (fun ls hl => ?_)
  refine lv_iconst (v := 0) X.x X.b dX0_addBytes_3 (by decide) ?_
  refine lv_istore (lv' := [(6, .int 0), (4, .long x1), (0, .ref (Γ.1 2)), (1, .long x1), (3, .int x3)]) X.x X.b dX0_addBytes_4 hl (by decide) rfl (fun ls hl => ?_)
  exact u_X0_addBytes_L6 X LF x3 x1 0 σ _ _ _ h M (lv_sub hl [2, 4, 1, 0] rfl)
/-- StreetNumbers.feed(JI)I -/
def f_X6_feed (x1 : Int64) (x3 : Int32) (σ : St) : Rs :=
  if x3 < 1 then (
    ob (f_X6_failing 1 σ) fun r1 σ1 => (
    some (r1, σ1))
  ) else (
    if x3 ≤ 8 then (
      if ((σ 2 1) + x3) ≤ 60 then (
        ob (f_X0_addBytes x1 x3 σ) fun r2 σ2 => (
        some (r2, σ2))
      ) else (
        ob (f_X6_failing 4 σ) fun r3 σ3 => (
        some (r3, σ3))
      )
    ) else (
      ob (f_X6_failing 1 σ) fun r5 σ5 => (
      some (r5, σ5))
    )
  )
set_option maxRecDepth 100000 in
set_option maxHeartbeats 4000000 in
theorem T_X6_feed {l : Launch} {Γ : Gm} {x1 : Int64} {x3 : Int32} {σ : St} {r : Int32} {σ' : St} (h : f_X6_feed x1 x3 σ = some (r, σ')) : MetI l yX6_feed cX6_feed 4 .int 2 Γ σ [.ref (Γ.1 0), .long x1, .int x3] r σ' := by
  intro sz
  refine met_in (by decide) (Nat.le_of_ble_eq_true rfl) (fun p e s m args below meth c ls X hsz M hl => ?_)
  subst hsz
  have X : Cx p s m args meth c cX6_feed RX6 4 (some .int) Γ := X
  have hl : lv_has ls 4 [(0, .ref (Γ.1 0)), (1, .long x1), (3, .int x3)] := hl
  unfold f_X6_feed at h
  refine lv_iload_n X.x X.b dX6_feed_0 rfl (lv_at hl 2 rfl) ?_
  refine lv_iconst (v := 1) X.x X.b dX6_feed_1 (by decide) ?_
  refine lv_icmp_lt (tgt := 11) X.x X.b dX6_feed_2 (by decide) (fun c7 => ?_) (fun c7 => ?_)
  · have h := it_t c7 h
    refine lv_aload_n X.x X.b dX6_feed_11 rfl (lv_at hl 0 rfl) ?_
    refine lv_iconst (v := 1) X.x X.b dX6_feed_12 (by decide) ?_
    obtain ⟨r1, σ1, h1, h⟩ := ob_e h
    refine r_runI M (r_callV (As := [.int 1]) X M (lv_sub hl [] rfl) (T_X6_failing h1 _) cal_X6_failing q223 ⟨by decide, by decide⟩ hq_0 (el_0 _ _) rfl rfl rfl (Nat.le_of_ble_eq_true rfl) ⟨Nat.le_refl _, Nat.le_refl _⟩ dX6_feed_13) (fun H locs M => ?_)
    clear h1
    exact r_iret X M rfl h dX6_feed_16
  · have h := it_f c7 h
    refine lv_iload_n X.x X.b dX6_feed_5 rfl (lv_at hl 2 rfl) ?_
    refine lv_bipush (v := 8) X.x X.b dX6_feed_6 (by decide) ?_
    refine lv_icmp_le (tgt := 17) X.x X.b dX6_feed_8 (by decide) (fun c6 => ?_) (fun c6 => ?_)
    · have h := it_t c6 h
      refine lv_aload_n X.x X.b dX6_feed_17 rfl (lv_at hl 0 rfl) ?_
      refine r_get X M hq_0 (el_0 _ _) rfl inX6 0 (by decide) q188 rfl rfl dX6_feed_18 ?_
      refine r_get X M hq_1 (el_1 _ _) rfl inX3 0 (by decide) q53 rfl rfl dX6_feed_21 ?_
      refine r_get X M hq_2 (el_2 _ _) rfl inX0 1 (by decide) q36 rfl rfl dX6_feed_24 ?_
      refine lv_iload_n X.x X.b dX6_feed_27 rfl (lv_at hl 2 rfl) ?_
      refine lv_iadd X.x X.b dX6_feed_28 ?_
      refine lv_bipush (v := 60) X.x X.b dX6_feed_29 (by decide) ?_
      refine lv_icmp_le (tgt := 40) X.x X.b dX6_feed_31 (by decide) (fun c4 => ?_) (fun c4 => ?_)
      · have h := it_t c4 h
        refine lv_aload_n X.x X.b dX6_feed_40 rfl (lv_at hl 0 rfl) ?_
        refine r_get X M hq_0 (el_0 _ _) rfl inX6 0 (by decide) q188 rfl rfl dX6_feed_41 ?_
        refine r_get X M hq_1 (el_1 _ _) rfl inX3 0 (by decide) q53 rfl rfl dX6_feed_44 ?_
        refine lv_lload_n X.x X.b dX6_feed_47 rfl (lv_at hl 1 rfl) ?_
        refine lv_iload_n X.x X.b dX6_feed_48 rfl (lv_at hl 2 rfl) ?_
        obtain ⟨r2, σ2, h2, h⟩ := ob_e h
        refine r_runI M (r_callV (As := [.long x1, .int x3]) X M (lv_sub hl [] rfl) (T_X0_addBytes h2 _) cal_X0_addBytes q377 ⟨by decide, by decide⟩ hq_2 (el_2 _ _) rfl rfl rfl (Nat.le_of_ble_eq_true rfl) ⟨Nat.le_refl _, Nat.le_refl _⟩ dX6_feed_49) (fun H locs M => ?_)
        clear h2
        exact r_iret X M rfl h dX6_feed_52
      · have h := it_f c4 h
        refine lv_aload_n X.x X.b dX6_feed_34 rfl (lv_at hl 0 rfl) ?_
        refine lv_iconst (v := 4) X.x X.b dX6_feed_35 (by decide) ?_
        obtain ⟨r3, σ3, h3, h⟩ := ob_e h
        refine r_runI M (r_callV (As := [.int 4]) X M (lv_sub hl [] rfl) (T_X6_failing h3 _) cal_X6_failing q223 ⟨by decide, by decide⟩ hq_0 (el_0 _ _) rfl rfl rfl (Nat.le_of_ble_eq_true rfl) ⟨Nat.le_refl _, Nat.le_refl _⟩ dX6_feed_36) (fun H locs M => ?_)
        clear h3
        exact r_iret X M rfl h dX6_feed_39
    · have h := it_f c6 h
      refine lv_aload_n X.x X.b dX6_feed_11 rfl (lv_at hl 0 rfl) ?_
      refine lv_iconst (v := 1) X.x X.b dX6_feed_12 (by decide) ?_
      obtain ⟨r5, σ5, h5, h⟩ := ob_e h
      refine r_runI M (r_callV (As := [.int 1]) X M (lv_sub hl [] rfl) (T_X6_failing h5 _) cal_X6_failing q223 ⟨by decide, by decide⟩ hq_0 (el_0 _ _) rfl rfl rfl (Nat.le_of_ble_eq_true rfl) ⟨Nat.le_refl _, Nat.le_refl _⟩ dX6_feed_13) (fun H locs M => ?_)
      clear h5
      exact r_iret X M rfl h dX6_feed_16
def f_X4_longestRising_b24 (k4 : (Int32 → Int32 → St → Rs)) (k24 : (Int32 → Int32 → Int32 → Int32 → St → Rs)) (x2 : Int32) (x3 : Int32) (x4 : Int32) (x5 : Int32) (σ : St) : Rs :=
  if x3 ≤ x5 then (
    if inb x3 10 then (
    ol (st σ 54 x3.toNatClampNeg x4) fun σ2 => (
    k4 (imax x2 x4) (x3 + 1) σ2)) else none
  ) else (
    ob (f_X3_plateAt x5 σ) fun r3 σ3 => (
    ob (f_X3_plateAt x3 σ3) fun r4 σ4 => (
    if r4 ≤ r3 then (
      k24 x2 x3 x4 (x5 + 1) σ4
    ) else (
      if inb x5 10 then (
      k24 x2 x3 (imax x4 ((σ4 54 x5.toNatClampNeg) + 1)) (x5 + 1) σ4) else none
    )))
  )
set_option maxRecDepth 100000 in
set_option maxHeartbeats 4000000 in
theorem u_X4_longestRising_b24 {l : Launch} {Γ : Gm} {p : Program} {e : Env} {s : State} {m : MethodId} {args : Array Value} {below : List Frame} {meth : Method} {c : Code} {r : Int32} {σ' : St} {k4 : Int32 → Int32 → St → Rs} {k24 : Int32 → Int32 → Int32 → Int32 → St → Rs} (X : Cx p s m args meth c cX4_longestRising RX4 6 (some .int) Γ) (H4 : ∀ (x2 : Int32) (x3 : Int32) (σ : St) (H : Heap) (locs : List Loc) (ls : Array Slot), k4 x2 x3 σ = some (r, σ') → Mv Γ σ s H locs → lv_has ls 6 [(0, .ref (Γ.1 30)), (1, .ref (Γ.1 1)), (2, .int x2), (3, .int x3)] → W p l e (rmd 4) s m args below meth c H locs 0 0 (MQ below (Qi Γ r σ' s.heap.size) args s 0 0 (Rg Γ s.heap.size)) (F0 m 4 ls [])) (H24 : ∀ (x2 : Int32) (x3 : Int32) (x4 : Int32) (x5 : Int32) (σ : St) (H : Heap) (locs : List Loc) (ls : Array Slot), k24 x2 x3 x4 x5 σ = some (r, σ') → Mv Γ σ s H locs → lv_has ls 6 [(0, .ref (Γ.1 30)), (1, .ref (Γ.1 1)), (2, .int x2), (3, .int x3), (4, .int x4), (5, .int x5)] → W p l e (rmd 4) s m args below meth c H locs 0 0 (MQ below (Qi Γ r σ' s.heap.size) args s 0 0 (Rg Γ s.heap.size)) (F0 m 24 ls [])) (x2 : Int32) (x3 : Int32) (x4 : Int32) (x5 : Int32) (σ : St) (H : Heap) (locs : List Loc) (ls : Array Slot) (h : f_X4_longestRising_b24 k4 k24 x2 x3 x4 x5 σ = some (r, σ')) (M : Mv Γ σ s H locs) (hl : lv_has ls 6 [(0, .ref (Γ.1 30)), (1, .ref (Γ.1 1)), (2, .int x2), (3, .int x3), (4, .int x4), (5, .int x5)]) : W p l e (rmd 4) s m args below meth c H locs 0 0 (MQ below (Qi Γ r σ' s.heap.size) args s 0 0 (Rg Γ s.heap.size)) (F0 m 24 ls []) := by
  unfold f_X4_longestRising_b24 at h
  refine lv_iload X.x X.b dX4_longestRising_24 (lv_at hl 5 rfl) ?_
  refine lv_iload_n X.x X.b dX4_longestRising_26 rfl (lv_at hl 3 rfl) ?_
  refine lv_icmp_ge (tgt := 66) X.x X.b dX4_longestRising_27 (by decide) (fun c7 => ?_) (fun c7 => ?_)
  · have h := it_t c7 h
    refine lv_aload_n X.x X.b dX4_longestRising_66 rfl (lv_at hl 0 rfl) ?_
    refine r_get X M hq_30 (el_30 _ _) rfl inX4 4 (by decide) q132 rfl rfl dX4_longestRising_67 ?_
    refine lv_iload_n X.x X.b dX4_longestRising_70 rfl (lv_at hl 3 rfl) ?_
    refine lv_iload X.x X.b dX4_longestRising_71 (lv_at hl 4 rfl) ?_
    obtain ⟨c1, h⟩ := it_n h
    obtain ⟨σ2, e2, h⟩ := ol_e h
    refine r_iast (q := 54) (n := 10) X M rfl c1 dX4_longestRising_73 (fun H locs M => ?_)
    rw [← e2] at M
    refine lv_iload_n X.x X.b dX4_longestRising_74 rfl (lv_at hl 2 rfl) ?_
    refine lv_iload X.x X.b dX4_longestRising_75 (lv_at hl 4 rfl) ?_
    refine r_mmax X (lv_sub hl [] rfl) q509 q307 q10 q308 (by decide) (Nat.le_of_ble_eq_true rfl) (by decide) ⟨Nat.le_refl _, Nat.le_refl _⟩ dX4_longestRising_77 ?_
    refine lv_istore_n (lv' := [(2, .int (imax x2 x4)), (0, .ref (Γ.1 30)), (1, .ref (Γ.1 1)), (3, .int x3), (4, .int x4), (5, .int x5)]) X.x X.b dX4_longestRising_80 rfl hl (by decide) rfl (fun ls hl => ?_)
    refine lv_iinc (v := (x3 + 1)) (lv' := [(3, .int (x3 + 1)), (2, .int (imax x2 x4)), (0, .ref (Γ.1 30)), (1, .ref (Γ.1 1)), (4, .int x4), (5, .int x5)]) X.x X.b dX4_longestRising_81 hl (k := 3) rfl rfl (by decide) rfl (fun ls hl => ?_)
    refine lv_goto (tgt := 4) X.x X.b dX4_longestRising_84 (by decide) ?_
    exact H4 (imax x2 x4) (x3 + 1) σ2 _ _ _ h M (lv_sub hl [2, 3, 1, 0] rfl)
  · have h := it_f c7 h
    refine lv_aload_n X.x X.b dX4_longestRising_30 rfl (lv_at hl 1 rfl) ?_
    refine lv_iload X.x X.b dX4_longestRising_31 (lv_at hl 5 rfl) ?_
    obtain ⟨r3, σ3, h3, h⟩ := ob_e h
    refine r_runI M (r_callV (As := [.int x5]) X M (lv_sub hl [] rfl) (T_X3_plateAt h3 _) cal_X3_plateAt q508 ⟨by decide, by decide⟩ hq_1 (el_1 _ _) rfl rfl rfl (Nat.le_of_ble_eq_true rfl) ⟨Nat.le_refl _, Nat.le_refl _⟩ dX4_longestRising_33) (fun H locs M => ?_)
    clear h3
    refine lv_aload_n X.x X.b dX4_longestRising_36 rfl (lv_at hl 1 rfl) ?_
    refine lv_iload_n X.x X.b dX4_longestRising_37 rfl (lv_at hl 3 rfl) ?_
    obtain ⟨r4, σ4, h4, h⟩ := ob_e h
    refine r_runI M (r_callV (As := [.int x3]) X M (lv_sub hl [] rfl) (T_X3_plateAt h4 _) cal_X3_plateAt q508 ⟨by decide, by decide⟩ hq_1 (el_1 _ _) rfl rfl rfl (Nat.le_of_ble_eq_true rfl) ⟨Nat.le_refl _, Nat.le_refl _⟩ dX4_longestRising_38) (fun H locs M => ?_)
    clear h4
    refine lv_icmp_ge (tgt := 60) X.x X.b dX4_longestRising_41 (by decide) (fun c6 => ?_) (fun c6 => ?_)
    · have h := it_t c6 h
      refine lv_iinc (v := (x5 + 1)) (lv' := [(5, .int (x5 + 1)), (0, .ref (Γ.1 30)), (1, .ref (Γ.1 1)), (2, .int x2), (3, .int x3), (4, .int x4)]) X.x X.b dX4_longestRising_60 hl (k := 5) rfl rfl (by decide) rfl (fun ls hl => ?_)
      refine lv_goto (tgt := 24) X.x X.b dX4_longestRising_63 (by decide) ?_
      exact H24 x2 x3 x4 (x5 + 1) σ4 _ _ _ h M (lv_sub hl [1, 2, 3, 4, 5, 0] rfl)
    · have h := it_f c6 h
      refine lv_iload X.x X.b dX4_longestRising_44 (lv_at hl 4 rfl) ?_
      refine lv_aload_n X.x X.b dX4_longestRising_46 rfl (lv_at hl 0 rfl) ?_
      refine r_get X M hq_30 (el_30 _ _) rfl inX4 4 (by decide) q132 rfl rfl dX4_longestRising_47 ?_
      refine lv_iload X.x X.b dX4_longestRising_50 (lv_at hl 5 rfl) ?_
      obtain ⟨c5, h⟩ := it_n h
      refine r_iald (q := 54) (n := 10) X M rfl c5 dX4_longestRising_52 ?_
      refine lv_iconst (v := 1) X.x X.b dX4_longestRising_53 (by decide) ?_
      refine lv_iadd X.x X.b dX4_longestRising_54 ?_
      refine r_mmax X (lv_sub hl [] rfl) q509 q307 q10 q308 (by decide) (Nat.le_of_ble_eq_true rfl) (by decide) ⟨Nat.le_refl _, Nat.le_refl _⟩ dX4_longestRising_55 ?_
      refine lv_istore (lv' := [(4, .int (imax x4 ((σ4 54 x5.toNatClampNeg) + 1))), (0, .ref (Γ.1 30)), (1, .ref (Γ.1 1)), (2, .int x2), (3, .int x3), (5, .int x5)]) X.x X.b dX4_longestRising_58 hl (by decide) rfl (fun ls hl => ?_)
      refine lv_iinc (v := (x5 + 1)) (lv' := [(5, .int (x5 + 1)), (4, .int (imax x4 ((σ4 54 x5.toNatClampNeg) + 1))), (0, .ref (Γ.1 30)), (1, .ref (Γ.1 1)), (2, .int x2), (3, .int x3)]) X.x X.b dX4_longestRising_60 hl (k := 5) rfl rfl (by decide) rfl (fun ls hl => ?_)
      refine lv_goto (tgt := 24) X.x X.b dX4_longestRising_63 (by decide) ?_
      exact H24 x2 x3 (imax x4 ((σ4 54 x5.toNatClampNeg) + 1)) (x5 + 1) σ4 _ _ _ h M (lv_sub hl [2, 3, 4, 5, 1, 0] rfl)
def f_X4_longestRising_L24 (k4 : (Int32 → Int32 → St → Rs)) : Nat → Int32 → Int32 → Int32 → Int32 → St → Rs
  | 0 => fun _ _ _ _ _ => none
  | n + 1 => fun x2 x3 x4 x5 σ => f_X4_longestRising_b24 k4 (f_X4_longestRising_L24 k4 n) x2 x3 x4 x5 σ
theorem u_X4_longestRising_L24 {l : Launch} {Γ : Gm} {p : Program} {e : Env} {s : State} {m : MethodId} {args : Array Value} {below : List Frame} {meth : Method} {c : Code} {r : Int32} {σ' : St} {k4 : Int32 → Int32 → St → Rs} (X : Cx p s m args meth c cX4_longestRising RX4 6 (some .int) Γ) (H4 : ∀ (x2 : Int32) (x3 : Int32) (σ : St) (H : Heap) (locs : List Loc) (ls : Array Slot), k4 x2 x3 σ = some (r, σ') → Mv Γ σ s H locs → lv_has ls 6 [(0, .ref (Γ.1 30)), (1, .ref (Γ.1 1)), (2, .int x2), (3, .int x3)] → W p l e (rmd 4) s m args below meth c H locs 0 0 (MQ below (Qi Γ r σ' s.heap.size) args s 0 0 (Rg Γ s.heap.size)) (F0 m 4 ls [])) : ∀ (n : Nat) (x2 : Int32) (x3 : Int32) (x4 : Int32) (x5 : Int32) (σ : St) (H : Heap) (locs : List Loc) (ls : Array Slot), f_X4_longestRising_L24 k4 n x2 x3 x4 x5 σ = some (r, σ') → Mv Γ σ s H locs → lv_has ls 6 [(0, .ref (Γ.1 30)), (1, .ref (Γ.1 1)), (2, .int x2), (3, .int x3), (4, .int x4), (5, .int x5)] → W p l e (rmd 4) s m args below meth c H locs 0 0 (MQ below (Qi Γ r σ' s.heap.size) args s 0 0 (Rg Γ s.heap.size)) (F0 m 24 ls []) := by
  intro n
  induction n with
  | zero => intro x2 x3 x4 x5 σ H locs ls h; cases h
  | succ n ih => intro x2 x3 x4 x5 σ H locs ls h; exact u_X4_longestRising_b24 X H4 ih x2 x3 x4 x5 σ H locs ls h
def f_X4_longestRising_b4 (k4 : (Int32 → Int32 → St → Rs)) (x2 : Int32) (x3 : Int32) (σ : St) : Rs :=
  if 10 ≤ x3 then (
    some (x2, σ)
  ) else (
    if (σ 1 1) ≤ x3 then (
      some (x2, σ)
    ) else (
      f_X4_longestRising_L24 k4 LF x2 x3 1 0 σ
    )
  )
set_option maxRecDepth 100000 in
set_option maxHeartbeats 4000000 in
theorem u_X4_longestRising_b4 {l : Launch} {Γ : Gm} {p : Program} {e : Env} {s : State} {m : MethodId} {args : Array Value} {below : List Frame} {meth : Method} {c : Code} {r : Int32} {σ' : St} {k4 : Int32 → Int32 → St → Rs} (X : Cx p s m args meth c cX4_longestRising RX4 6 (some .int) Γ) (H4 : ∀ (x2 : Int32) (x3 : Int32) (σ : St) (H : Heap) (locs : List Loc) (ls : Array Slot), k4 x2 x3 σ = some (r, σ') → Mv Γ σ s H locs → lv_has ls 6 [(0, .ref (Γ.1 30)), (1, .ref (Γ.1 1)), (2, .int x2), (3, .int x3)] → W p l e (rmd 4) s m args below meth c H locs 0 0 (MQ below (Qi Γ r σ' s.heap.size) args s 0 0 (Rg Γ s.heap.size)) (F0 m 4 ls [])) (x2 : Int32) (x3 : Int32) (σ : St) (H : Heap) (locs : List Loc) (ls : Array Slot) (h : f_X4_longestRising_b4 k4 x2 x3 σ = some (r, σ')) (M : Mv Γ σ s H locs) (hl : lv_has ls 6 [(0, .ref (Γ.1 30)), (1, .ref (Γ.1 1)), (2, .int x2), (3, .int x3)]) : W p l e (rmd 4) s m args below meth c H locs 0 0 (MQ below (Qi Γ r σ' s.heap.size) args s 0 0 (Rg Γ s.heap.size)) (F0 m 4 ls []) := by
  unfold f_X4_longestRising_b4 at h
  refine lv_iload_n X.x X.b dX4_longestRising_4 rfl (lv_at hl 3 rfl) ?_
  refine lv_bipush (v := 10) X.x X.b dX4_longestRising_5 (by decide) ?_
  refine lv_icmp_ge (tgt := 87) X.x X.b dX4_longestRising_7 (by decide) (fun c2 => ?_) (fun c2 => ?_)
  · have h := it_t c2 h
    refine lv_iload_n X.x X.b dX4_longestRising_87 rfl (lv_at hl 2 rfl) ?_
    exact r_iret X M rfl h dX4_longestRising_88
  · have h := it_f c2 h
    refine lv_iload_n X.x X.b dX4_longestRising_10 rfl (lv_at hl 3 rfl) ?_
    refine lv_aload_n X.x X.b dX4_longestRising_11 rfl (lv_at hl 1 rfl) ?_
    refine r_get X M hq_1 (el_1 _ _) rfl inX3 1 (by decide) q54 rfl rfl dX4_longestRising_12 ?_
    refine lv_icmp_ge (tgt := 87) X.x X.b dX4_longestRising_15 (by decide) (fun c1 => ?_) (fun c1 => ?_)
    · have h := it_t c1 h
      refine lv_iload_n X.x X.b dX4_longestRising_87 rfl (lv_at hl 2 rfl) ?_
      exact r_iret X M rfl h dX4_longestRising_88
    · have h := it_f c1 h
      refine lv_iconst (v := 1) X.x X.b dX4_longestRising_18 (by decide) ?_
      refine lv_istore (lv' := [(4, .int 1), (0, .ref (Γ.1 30)), (1, .ref (Γ.1 1)), (2, .int x2), (3, .int x3)]) X.x X.b dX4_longestRising_19 hl (by decide) rfl (fun ls hl => ?_)
      refine lv_iconst (v := 0) X.x X.b dX4_longestRising_21 (by decide) ?_
      refine lv_istore (lv' := [(5, .int 0), (4, .int 1), (0, .ref (Γ.1 30)), (1, .ref (Γ.1 1)), (2, .int x2), (3, .int x3)]) X.x X.b dX4_longestRising_22 hl (by decide) rfl (fun ls hl => ?_)
      exact u_X4_longestRising_L24 X H4 LF x2 x3 1 0 σ _ _ _ h M (lv_sub hl [2, 3, 4, 5, 1, 0] rfl)
def f_X4_longestRising_L4 : Nat → Int32 → Int32 → St → Rs
  | 0 => fun _ _ _ => none
  | n + 1 => fun x2 x3 σ => f_X4_longestRising_b4 (f_X4_longestRising_L4 n) x2 x3 σ
theorem u_X4_longestRising_L4 {l : Launch} {Γ : Gm} {p : Program} {e : Env} {s : State} {m : MethodId} {args : Array Value} {below : List Frame} {meth : Method} {c : Code} {r : Int32} {σ' : St} (X : Cx p s m args meth c cX4_longestRising RX4 6 (some .int) Γ) : ∀ (n : Nat) (x2 : Int32) (x3 : Int32) (σ : St) (H : Heap) (locs : List Loc) (ls : Array Slot), f_X4_longestRising_L4 n x2 x3 σ = some (r, σ') → Mv Γ σ s H locs → lv_has ls 6 [(0, .ref (Γ.1 30)), (1, .ref (Γ.1 1)), (2, .int x2), (3, .int x3)] → W p l e (rmd 4) s m args below meth c H locs 0 0 (MQ below (Qi Γ r σ' s.heap.size) args s 0 0 (Rg Γ s.heap.size)) (F0 m 4 ls []) := by
  intro n
  induction n with
  | zero => intro x2 x3 σ H locs ls h; cases h
  | succ n ih => intro x2 x3 σ H locs ls h; exact u_X4_longestRising_b4 X  ih x2 x3 σ H locs ls h
/-- StreetNumbers$Thoughts.longestRising(LStreetNumbers$Street;)I -/
def f_X4_longestRising (σ : St) : Rs :=
  f_X4_longestRising_L4 LF 0 0 σ
set_option maxRecDepth 100000 in
set_option maxHeartbeats 4000000 in
theorem T_X4_longestRising {l : Launch} {Γ : Gm} {σ : St} {r : Int32} {σ' : St} (h : f_X4_longestRising σ = some (r, σ')) : MetI l yX4_longestRising cX4_longestRising 6 .int 4 Γ σ [.ref (Γ.1 30), .ref (Γ.1 1)] r σ' := by
  intro sz
  refine met_in (by decide) (Nat.le_of_ble_eq_true rfl) (fun p e s m args below meth c ls X hsz M hl => ?_)
  subst hsz
  have X : Cx p s m args meth c cX4_longestRising RX4 6 (some .int) Γ := X
  have hl : lv_has ls 6 [(0, .ref (Γ.1 30)), (1, .ref (Γ.1 1))] := hl
  unfold f_X4_longestRising at h
  refine lv_iconst (v := 0) X.x X.b dX4_longestRising_0 (by decide) ?_
  refine lv_istore_n (lv' := [(2, .int 0), (0, .ref (Γ.1 30)), (1, .ref (Γ.1 1))]) X.x X.b dX4_longestRising_1 rfl hl (by decide) rfl (fun ls hl => ?_)
  refine lv_iconst (v := 0) X.x X.b dX4_longestRising_2 (by decide) ?_
  refine lv_istore_n (lv' := [(3, .int 0), (2, .int 0), (0, .ref (Γ.1 30)), (1, .ref (Γ.1 1))]) X.x X.b dX4_longestRising_3 rfl hl (by decide) rfl (fun ls hl => ?_)
  exact u_X4_longestRising_L4 X LF 0 0 σ _ _ _ h M (lv_sub hl [2, 3, 1, 0] rfl)
/-- StreetNumbers.fewest()I -/
def f_X6_fewest (σ : St) : Rs :=
  ob (f_X4_longestRising σ) fun r1 σ1 => (
  some (((σ 1 1) - r1), σ1))
set_option maxRecDepth 100000 in
set_option maxHeartbeats 4000000 in
theorem T_X6_fewest {l : Launch} {Γ : Gm} {σ : St} {r : Int32} {σ' : St} (h : f_X6_fewest σ = some (r, σ')) : MetI l yX6_fewest cX6_fewest 1 .int 5 Γ σ [.ref (Γ.1 0)] r σ' := by
  intro sz
  refine met_in (by decide) (Nat.le_of_ble_eq_true rfl) (fun p e s m args below meth c ls X hsz M hl => ?_)
  subst hsz
  have X : Cx p s m args meth c cX6_fewest RX6 1 (some .int) Γ := X
  have hl : lv_has ls 1 [(0, .ref (Γ.1 0))] := hl
  unfold f_X6_fewest at h
  refine lv_aload_n X.x X.b dX6_fewest_0 rfl (lv_at hl 0 rfl) ?_
  refine r_get X M hq_0 (el_0 _ _) rfl inX6 0 (by decide) q188 rfl rfl dX6_fewest_1 ?_
  refine r_get X M hq_1 (el_1 _ _) rfl inX3 1 (by decide) q56 rfl rfl dX6_fewest_4 ?_
  refine lv_aload_n X.x X.b dX6_fewest_7 rfl (lv_at hl 0 rfl) ?_
  refine r_get X M hq_0 (el_0 _ _) rfl inX6 3 (by decide) q191 rfl rfl dX6_fewest_8 ?_
  refine lv_aload_n X.x X.b dX6_fewest_11 rfl (lv_at hl 0 rfl) ?_
  refine r_get X M hq_0 (el_0 _ _) rfl inX6 0 (by decide) q188 rfl rfl dX6_fewest_12 ?_
  obtain ⟨r1, σ1, h1, h⟩ := ob_e h
  refine r_runI M (r_callV (As := [.ref (Γ.1 1)]) X M (lv_sub hl [] rfl) (T_X4_longestRising h1 _) cal_X4_longestRising q504 ⟨by decide, by decide⟩ hq_30 (el_30 _ _) rfl rfl rfl (Nat.le_of_ble_eq_true rfl) ⟨Nat.le_refl _, Nat.le_refl _⟩ dX6_fewest_15) (fun H locs M => ?_)
  clear h1
  refine lv_isub X.x X.b dX6_fewest_18 ?_
  exact r_iret X M rfl h dX6_fewest_19
/-- StreetNumbers.isSheet(I)Z -/
def f_X6_isSheet (x0 : Int32) (σ : St) : Rs :=
  if x0 < 0 then (
    some (0, σ)
  ) else (
    if 4 ≤ x0 then (
      some (0, σ)
    ) else (
      some (1, σ)
    )
  )
set_option maxRecDepth 100000 in
set_option maxHeartbeats 4000000 in
theorem T_X6_isSheet {l : Launch} {Γ : Gm} {x0 : Int32} {σ : St} {r : Int32} {σ' : St} (h : f_X6_isSheet x0 σ = some (r, σ')) : MetI l yX6_isSheet cX6_isSheet 1 .boolean 1 Γ σ [.int x0] r σ' := by
  intro sz
  refine met_in (by decide) (Nat.le_of_ble_eq_true rfl) (fun p e s m args below meth c ls X hsz M hl => ?_)
  subst hsz
  have X : Cx p s m args meth c cX6_isSheet RX6 1 (some .boolean) Γ := X
  have hl : lv_has ls 1 [(0, .int x0)] := hl
  unfold f_X6_isSheet at h
  refine lv_iload_n X.x X.b dX6_isSheet_0 rfl (lv_at hl 0 rfl) ?_
  refine lv_if_lt (tgt := 13) X.x X.b dX6_isSheet_1 (by decide) (fun c2 => ?_) (fun c2 => ?_)
  · have h := it_t c2 h
    refine lv_iconst (v := 0) X.x X.b dX6_isSheet_13 (by decide) ?_
    exact r_iret X M rfl h dX6_isSheet_14
  · have h := it_f c2 h
    refine lv_iload_n X.x X.b dX6_isSheet_4 rfl (lv_at hl 0 rfl) ?_
    refine lv_iconst (v := 4) X.x X.b dX6_isSheet_5 (by decide) ?_
    refine lv_icmp_ge (tgt := 13) X.x X.b dX6_isSheet_6 (by decide) (fun c1 => ?_) (fun c1 => ?_)
    · have h := it_t c1 h
      refine lv_iconst (v := 0) X.x X.b dX6_isSheet_13 (by decide) ?_
      exact r_iret X M rfl h dX6_isSheet_14
    · have h := it_f c1 h
      refine lv_iconst (v := 1) X.x X.b dX6_isSheet_9 (by decide) ?_
      refine lv_goto (tgt := 14) X.x X.b dX6_isSheet_10 (by decide) ?_
      exact r_iret X M rfl h dX6_isSheet_14
/-- StreetNumbers$Sheets.bits(I)I -/
def f_X2_bits (x1 : Int32) (σ : St) : Rs :=
  ob (f_X6_isSheet x1 σ) fun r1 σ1 => (
  if r1 = 0 then (
    some (0, σ1)
  ) else (
    if inb x1 4 then (
    some ((σ1 63 x1.toNatClampNeg), σ1)) else none
  ))
set_option maxRecDepth 100000 in
set_option maxHeartbeats 4000000 in
theorem T_X2_bits {l : Launch} {Γ : Gm} {x1 : Int32} {σ : St} {r : Int32} {σ' : St} (h : f_X2_bits x1 σ = some (r, σ')) : MetI l yX2_bits cX2_bits 2 .int 2 Γ σ [.ref (Γ.1 57), .int x1] r σ' := by
  intro sz
  refine met_in (by decide) (Nat.le_of_ble_eq_true rfl) (fun p e s m args below meth c ls X hsz M hl => ?_)
  subst hsz
  have X : Cx p s m args meth c cX2_bits RX2 2 (some .int) Γ := X
  have hl : lv_has ls 2 [(0, .ref (Γ.1 57)), (1, .int x1)] := hl
  unfold f_X2_bits at h
  refine lv_iload_n X.x X.b dX2_bits_0 rfl (lv_at hl 1 rfl) ?_
  obtain ⟨r1, σ1, h1, h⟩ := ob_e h
  refine r_runI M (r_callSN (As := [.int x1]) (host := "StreetNumbers") X M (lv_sub hl [] rfl) (T_X6_isSheet h1 _) cal_X6_isSheet nst_X2_21 ⟨by decide, by decide⟩ rfl rfl (Nat.le_of_ble_eq_true rfl) ⟨Nat.le_refl _, Nat.le_refl _⟩ dX2_bits_1) (fun H locs M => ?_)
  clear h1
  refine lv_if_eq (tgt := 16) X.x X.b dX2_bits_4 (by decide) (fun c3 => ?_) (fun c3 => ?_)
  · have h := it_t c3 h
    refine lv_iconst (v := 0) X.x X.b dX2_bits_16 (by decide) ?_
    exact r_iret X M rfl h dX2_bits_17
  · have h := it_f c3 h
    refine lv_aload_n X.x X.b dX2_bits_7 rfl (lv_at hl 0 rfl) ?_
    refine r_get X M hq_57 (el_57 _ _) rfl inX2 1 (by decide) q179 rfl rfl dX2_bits_8 ?_
    refine lv_iload_n X.x X.b dX2_bits_11 rfl (lv_at hl 1 rfl) ?_
    obtain ⟨c2, h⟩ := it_n h
    refine r_iald (q := 63) (n := 4) X M rfl c2 dX2_bits_12 ?_
    refine lv_goto (tgt := 17) X.x X.b dX2_bits_13 (by decide) ?_
    exact r_iret X M rfl h dX2_bits_17
/-- StreetNumbers$Sheets.isMissing(I)Z -/
def f_X2_isMissing (x1 : Int32) (σ : St) : Rs :=
  ob (f_X2_bits x1 σ) fun r1 σ1 => (
  if r1 = 0 then (
    some (1, σ1)
  ) else (
    some (0, σ1)
  ))
set_option maxRecDepth 100000 in
set_option maxHeartbeats 4000000 in
theorem T_X2_isMissing {l : Launch} {Γ : Gm} {x1 : Int32} {σ : St} {r : Int32} {σ' : St} (h : f_X2_isMissing x1 σ = some (r, σ')) : MetI l yX2_isMissing cX2_isMissing 2 .boolean 3 Γ σ [.ref (Γ.1 57), .int x1] r σ' := by
  intro sz
  refine met_in (by decide) (Nat.le_of_ble_eq_true rfl) (fun p e s m args below meth c ls X hsz M hl => ?_)
  subst hsz
  have X : Cx p s m args meth c cX2_isMissing RX2 2 (some .boolean) Γ := X
  have hl : lv_has ls 2 [(0, .ref (Γ.1 57)), (1, .int x1)] := hl
  unfold f_X2_isMissing at h
  refine lv_aload_n X.x X.b dX2_isMissing_0 rfl (lv_at hl 0 rfl) ?_
  refine lv_iload_n X.x X.b dX2_isMissing_1 rfl (lv_at hl 1 rfl) ?_
  obtain ⟨r1, σ1, h1, h⟩ := ob_e h
  refine r_runI M (r_callV (As := [.int x1]) X M (lv_sub hl [] rfl) (T_X2_bits h1 _) cal_X2_bits q549 ⟨by decide, by decide⟩ hq_57 (el_57 _ _) rfl rfl rfl (Nat.le_of_ble_eq_true rfl) ⟨Nat.le_refl _, Nat.le_refl _⟩ dX2_isMissing_2) (fun H locs M => ?_)
  clear h1
  refine lv_if_ne (tgt := 12) X.x X.b dX2_isMissing_5 (by decide) (fun c2 => ?_) (fun c2 => ?_)
  · have h := it_f c2 h
    refine lv_iconst (v := 0) X.x X.b dX2_isMissing_12 (by decide) ?_
    exact r_iret X M rfl h dX2_isMissing_13
  · have h := it_t c2 h
    refine lv_iconst (v := 1) X.x X.b dX2_isMissing_8 (by decide) ?_
    refine lv_goto (tgt := 13) X.x X.b dX2_isMissing_9 (by decide) ?_
    exact r_iret X M rfl h dX2_isMissing_13
/-- StreetNumbers$Sheets.size(I)I -/
def f_X2_size (x1 : Int32) (σ : St) : Rs :=
  ob (f_X6_isSheet x1 σ) fun r1 σ1 => (
  if r1 = 0 then (
    some (0, σ1)
  ) else (
    if inb x1 4 then (
    some ((σ1 64 x1.toNatClampNeg), σ1)) else none
  ))
set_option maxRecDepth 100000 in
set_option maxHeartbeats 4000000 in
theorem T_X2_size {l : Launch} {Γ : Gm} {x1 : Int32} {σ : St} {r : Int32} {σ' : St} (h : f_X2_size x1 σ = some (r, σ')) : MetI l yX2_size cX2_size 2 .int 2 Γ σ [.ref (Γ.1 57), .int x1] r σ' := by
  intro sz
  refine met_in (by decide) (Nat.le_of_ble_eq_true rfl) (fun p e s m args below meth c ls X hsz M hl => ?_)
  subst hsz
  have X : Cx p s m args meth c cX2_size RX2 2 (some .int) Γ := X
  have hl : lv_has ls 2 [(0, .ref (Γ.1 57)), (1, .int x1)] := hl
  unfold f_X2_size at h
  refine lv_iload_n X.x X.b dX2_size_0 rfl (lv_at hl 1 rfl) ?_
  obtain ⟨r1, σ1, h1, h⟩ := ob_e h
  refine r_runI M (r_callSN (As := [.int x1]) (host := "StreetNumbers") X M (lv_sub hl [] rfl) (T_X6_isSheet h1 _) cal_X6_isSheet nst_X2_21 ⟨by decide, by decide⟩ rfl rfl (Nat.le_of_ble_eq_true rfl) ⟨Nat.le_refl _, Nat.le_refl _⟩ dX2_size_1) (fun H locs M => ?_)
  clear h1
  refine lv_if_eq (tgt := 16) X.x X.b dX2_size_4 (by decide) (fun c3 => ?_) (fun c3 => ?_)
  · have h := it_t c3 h
    refine lv_iconst (v := 0) X.x X.b dX2_size_16 (by decide) ?_
    exact r_iret X M rfl h dX2_size_17
  · have h := it_f c3 h
    refine lv_aload_n X.x X.b dX2_size_7 rfl (lv_at hl 0 rfl) ?_
    refine r_get X M hq_57 (el_57 _ _) rfl inX2 2 (by decide) q180 rfl rfl dX2_size_8 ?_
    refine lv_iload_n X.x X.b dX2_size_11 rfl (lv_at hl 1 rfl) ?_
    obtain ⟨c2, h⟩ := it_n h
    refine r_iald (q := 64) (n := 4) X M rfl c2 dX2_size_12 ?_
    refine lv_goto (tgt := 17) X.x X.b dX2_size_13 (by decide) ?_
    exact r_iret X M rfl h dX2_size_17
/-- StreetNumbers$Street.shopMinds(II)I -/
def f_X3_shopMinds (x0 : Int32) (x1 : Int32) (σ : St) : Rs :=
  if (irm x1 10) = 8 then (
    some (0, σ)
  ) else (
    some ((x0 / 2), σ)
  )
set_option maxRecDepth 100000 in
set_option maxHeartbeats 4000000 in
theorem T_X3_shopMinds {l : Launch} {Γ : Gm} {x0 : Int32} {x1 : Int32} {σ : St} {r : Int32} {σ' : St} (h : f_X3_shopMinds x0 x1 σ = some (r, σ')) : MetI l yX3_shopMinds cX3_shopMinds 2 .int 1 Γ σ [.int x0, .int x1] r σ' := by
  intro sz
  refine met_in (by decide) (Nat.le_of_ble_eq_true rfl) (fun p e s m args below meth c ls X hsz M hl => ?_)
  subst hsz
  have X : Cx p s m args meth c cX3_shopMinds RX3 2 (some .int) Γ := X
  have hl : lv_has ls 2 [(0, .int x0), (1, .int x1)] := hl
  unfold f_X3_shopMinds at h
  refine lv_iload_n X.x X.b dX3_shopMinds_0 rfl (lv_at hl 1 rfl) ?_
  refine lv_bipush (v := 10) X.x X.b dX3_shopMinds_1 (by decide) ?_
  refine r_irem X dX3_shopMinds_3 (by decide) ?_
  refine lv_bipush (v := 8) X.x X.b dX3_shopMinds_4 (by decide) ?_
  refine lv_icmp_ne (tgt := 13) X.x X.b dX3_shopMinds_6 (by decide) (fun c1 => ?_) (fun c1 => ?_)
  · have h := it_f c1 h
    refine lv_iload_n X.x X.b dX3_shopMinds_13 rfl (lv_at hl 0 rfl) ?_
    refine lv_iconst (v := 2) X.x X.b dX3_shopMinds_14 (by decide) ?_
    refine lv_idiv X.x X.b dX3_shopMinds_15 (by decide) ?_
    exact r_iret X M rfl h dX3_shopMinds_16
  · have h := it_t c1 h
    refine lv_iconst (v := 0) X.x X.b dX3_shopMinds_9 (by decide) ?_
    refine lv_goto (tgt := 16) X.x X.b dX3_shopMinds_10 (by decide) ?_
    exact r_iret X M rfl h dX3_shopMinds_16
/-- StreetNumbers$Street.villaMinds(II)I -/
def f_X3_villaMinds (x0 : Int32) (x1 : Int32) (σ : St) : Rs :=
  if (irm x1 100) = 13 then (
    some ((x0 + 50), σ)
  ) else (
    some (x0, σ)
  )
set_option maxRecDepth 100000 in
set_option maxHeartbeats 4000000 in
theorem T_X3_villaMinds {l : Launch} {Γ : Gm} {x0 : Int32} {x1 : Int32} {σ : St} {r : Int32} {σ' : St} (h : f_X3_villaMinds x0 x1 σ = some (r, σ')) : MetI l yX3_villaMinds cX3_villaMinds 2 .int 1 Γ σ [.int x0, .int x1] r σ' := by
  intro sz
  refine met_in (by decide) (Nat.le_of_ble_eq_true rfl) (fun p e s m args below meth c ls X hsz M hl => ?_)
  subst hsz
  have X : Cx p s m args meth c cX3_villaMinds RX3 2 (some .int) Γ := X
  have hl : lv_has ls 2 [(0, .int x0), (1, .int x1)] := hl
  unfold f_X3_villaMinds at h
  refine lv_iload_n X.x X.b dX3_villaMinds_0 rfl (lv_at hl 1 rfl) ?_
  refine lv_bipush (v := 100) X.x X.b dX3_villaMinds_1 (by decide) ?_
  refine r_irem X dX3_villaMinds_3 (by decide) ?_
  refine lv_bipush (v := 13) X.x X.b dX3_villaMinds_4 (by decide) ?_
  refine lv_icmp_ne (tgt := 16) X.x X.b dX3_villaMinds_6 (by decide) (fun c1 => ?_) (fun c1 => ?_)
  · have h := it_f c1 h
    refine lv_iload_n X.x X.b dX3_villaMinds_16 rfl (lv_at hl 0 rfl) ?_
    exact r_iret X M rfl h dX3_villaMinds_17
  · have h := it_t c1 h
    refine lv_iload_n X.x X.b dX3_villaMinds_9 rfl (lv_at hl 0 rfl) ?_
    refine lv_bipush (v := 50) X.x X.b dX3_villaMinds_10 (by decide) ?_
    refine lv_iadd X.x X.b dX3_villaMinds_12 ?_
    refine lv_goto (tgt := 17) X.x X.b dX3_villaMinds_13 (by decide) ?_
    exact r_iret X M rfl h dX3_villaMinds_17
/-- StreetNumbers$Street.minds(II)I -/
def f_X3_minds (x1 : Int32) (x2 : Int32) (σ : St) : Rs :=
  ob (f_X3_plate x1 σ) fun r1 σ1 => (
  ob (f_X3_kind x1 σ1) fun r2 σ2 => (
  if r2 = 1 then (
    ob (f_X3_villaMinds (iabs (x2 - r1)) x2 σ2) fun r4 σ4 => (
    some (r4, σ4))
  ) else (
  if r2 = 2 then (
    ob (f_X3_shopMinds (iabs (x2 - r1)) x2 σ2) fun r6 σ6 => (
    some (r6, σ6))
  ) else (
  if r2 = 3 then (
    if (irm x2 2) = 0 then (
      some ((iabs (x2 - r1)), σ2)
    ) else (
      ob (f_X3_m x1 σ2) fun r8 σ8 => (
      some (((iabs (x2 - r1)) + r8), σ8))
    )
  ) else (
  if r2 = 4 then (
    ob (f_X3_villaMinds (iabs (x2 - r1)) x2 σ2) fun r11 σ11 => (
    some ((3 * r11), σ11))
  ) else (
  if r2 = 5 then (
    ob (f_X3_shopMinds (iabs (x2 - r1)) x2 σ2) fun r13 σ13 => (
    if (irm x2 10) = 4 then (
      some ((r13 + 20), σ13)
    ) else (
      some ((r13 + 0), σ13)
    ))
  ) else (
  if r2 = 6 then (
    some (0, σ2)
  ) else (
    some ((iabs (x2 - r1)), σ2)
  ))))))))
set_option maxRecDepth 100000 in
set_option maxHeartbeats 4000000 in
theorem T_X3_minds {l : Launch} {Γ : Gm} {x1 : Int32} {x2 : Int32} {σ : St} {r : Int32} {σ' : St} (h : f_X3_minds x1 x2 σ = some (r, σ')) : MetI l yX3_minds cX3_minds 4 .int 3 Γ σ [.ref (Γ.1 1), .int x1, .int x2] r σ' := by
  intro sz
  refine met_in (by decide) (Nat.le_of_ble_eq_true rfl) (fun p e s m args below meth c ls X hsz M hl => ?_)
  subst hsz
  have X : Cx p s m args meth c cX3_minds RX3 4 (some .int) Γ := X
  have hl : lv_has ls 4 [(0, .ref (Γ.1 1)), (1, .int x1), (2, .int x2)] := hl
  unfold f_X3_minds at h
  refine lv_iload_n X.x X.b dX3_minds_0 rfl (lv_at hl 2 rfl) ?_
  refine lv_aload_n X.x X.b dX3_minds_1 rfl (lv_at hl 0 rfl) ?_
  refine lv_iload_n X.x X.b dX3_minds_2 rfl (lv_at hl 1 rfl) ?_
  obtain ⟨r1, σ1, h1, h⟩ := ob_e h
  refine r_runI M (r_callV (As := [.int x1]) X M (lv_sub hl [] rfl) (T_X3_plate h1 _) cal_X3_plate q344 ⟨by decide, by decide⟩ hq_1 (el_1 _ _) rfl rfl rfl (Nat.le_of_ble_eq_true rfl) ⟨Nat.le_refl _, Nat.le_refl _⟩ dX3_minds_3) (fun H locs M => ?_)
  clear h1
  refine lv_isub X.x X.b dX3_minds_6 ?_
  refine r_mabs X (lv_sub hl [] rfl) q349 q350 q10 q351 (by decide) (Nat.le_of_ble_eq_true rfl) (by decide) ⟨Nat.le_refl _, Nat.le_refl _⟩ dX3_minds_7 ?_
  refine lv_istore_n (lv' := [(3, .int (iabs (x2 - r1))), (0, .ref (Γ.1 1)), (1, .int x1), (2, .int x2)]) X.x X.b dX3_minds_10 rfl hl (by decide) rfl (fun ls hl => ?_)
  refine lv_aload_n X.x X.b dX3_minds_11 rfl (lv_at hl 1 rfl) ?_
  refine lv_iload_n X.x X.b dX3_minds_12 rfl (lv_at hl 2 rfl) ?_
  obtain ⟨r2, σ2, h2, h⟩ := ob_e h
  refine r_runI M (r_callV (As := [.int x1]) X M (lv_sub hl [] rfl) (T_X3_kind h2 _) cal_X3_kind q281 ⟨by decide, by decide⟩ hq_1 (el_1 _ _) rfl rfl rfl (Nat.le_of_ble_eq_true rfl) ⟨Nat.le_refl _, Nat.le_refl _⟩ dX3_minds_13) (fun H locs M => ?_)
  clear h2
  by_cases c3 : r2 = 1
  · have h := it_t c3 h
    refine lv_tableIn (tgt := 56) X.x X.b dX3_minds_16 (by rw [c3]; decide) (by rw [c3]; decide) (by first | (rw [c3]; done) | (rw [c3]; rfl)) (by decide) ?_
    refine lv_iload_n X.x X.b dX3_minds_56 rfl (lv_at hl 0 rfl) ?_
    refine lv_iload_n X.x X.b dX3_minds_57 rfl (lv_at hl 3 rfl) ?_
    obtain ⟨r4, σ4, h4, h⟩ := ob_e h
    refine r_runI M (r_callS (As := [.int (iabs (x2 - r1)), .int x2]) X M (lv_sub hl [] rfl) (T_X3_villaMinds h4 _) cal_X3_villaMinds q352 ⟨by decide, by decide⟩ rfl rfl (Nat.le_of_ble_eq_true rfl) ⟨Nat.le_refl _, Nat.le_refl _⟩ dX3_minds_58) (fun H locs M => ?_)
    clear h4
    exact r_iret X M rfl h dX3_minds_61
  have h := it_f c3 h
  by_cases c5 : r2 = 2
  · have h := it_t c5 h
    refine lv_tableIn (tgt := 62) X.x X.b dX3_minds_16 (by rw [c5]; decide) (by rw [c5]; decide) (by first | (rw [c5]; done) | (rw [c5]; rfl)) (by decide) ?_
    refine lv_iload_n X.x X.b dX3_minds_62 rfl (lv_at hl 0 rfl) ?_
    refine lv_iload_n X.x X.b dX3_minds_63 rfl (lv_at hl 3 rfl) ?_
    obtain ⟨r6, σ6, h6, h⟩ := ob_e h
    refine r_runI M (r_callS (As := [.int (iabs (x2 - r1)), .int x2]) X M (lv_sub hl [] rfl) (T_X3_shopMinds h6 _) cal_X3_shopMinds q355 ⟨by decide, by decide⟩ rfl rfl (Nat.le_of_ble_eq_true rfl) ⟨Nat.le_refl _, Nat.le_refl _⟩ dX3_minds_64) (fun H locs M => ?_)
    clear h6
    exact r_iret X M rfl h dX3_minds_67
  have h := it_f c5 h
  by_cases c7 : r2 = 3
  · have h := it_t c7 h
    refine lv_tableIn (tgt := 68) X.x X.b dX3_minds_16 (by rw [c7]; decide) (by rw [c7]; decide) (by first | (rw [c7]; done) | (rw [c7]; rfl)) (by decide) ?_
    refine lv_iload_n X.x X.b dX3_minds_68 rfl (lv_at hl 3 rfl) ?_
    refine lv_iconst (v := 2) X.x X.b dX3_minds_69 (by decide) ?_
    refine r_irem X dX3_minds_70 (by decide) ?_
    refine lv_if_ne (tgt := 78) X.x X.b dX3_minds_71 (by decide) (fun c9 => ?_) (fun c9 => ?_)
    · have h := it_f c9 h
      refine lv_iload_n X.x X.b dX3_minds_78 rfl (lv_at hl 0 rfl) ?_
      refine lv_aload_n X.x X.b dX3_minds_79 rfl (lv_at hl 1 rfl) ?_
      refine lv_iload_n X.x X.b dX3_minds_80 rfl (lv_at hl 2 rfl) ?_
      obtain ⟨r8, σ8, h8, h⟩ := ob_e h
      refine r_runI M (r_callV (As := [.int x1]) X M (lv_sub hl [] rfl) (T_X3_m h8 _) cal_X3_m q280 ⟨by decide, by decide⟩ hq_1 (el_1 _ _) rfl rfl rfl (Nat.le_of_ble_eq_true rfl) ⟨Nat.le_refl _, Nat.le_refl _⟩ dX3_minds_81) (fun H locs M => ?_)
      clear h8
      refine lv_iadd X.x X.b dX3_minds_84 ?_
      exact r_iret X M rfl h dX3_minds_85
    · have h := it_t c9 h
      refine lv_iload_n X.x X.b dX3_minds_74 rfl (lv_at hl 0 rfl) ?_
      refine lv_goto (tgt := 85) X.x X.b dX3_minds_75 (by decide) ?_
      exact r_iret X M rfl h dX3_minds_85
  have h := it_f c7 h
  by_cases c10 : r2 = 4
  · have h := it_t c10 h
    refine lv_tableIn (tgt := 86) X.x X.b dX3_minds_16 (by rw [c10]; decide) (by rw [c10]; decide) (by first | (rw [c10]; done) | (rw [c10]; rfl)) (by decide) ?_
    refine lv_iconst (v := 3) X.x X.b dX3_minds_86 (by decide) ?_
    refine lv_iload_n X.x X.b dX3_minds_87 rfl (lv_at hl 0 rfl) ?_
    refine lv_iload_n X.x X.b dX3_minds_88 rfl (lv_at hl 3 rfl) ?_
    obtain ⟨r11, σ11, h11, h⟩ := ob_e h
    refine r_runI M (r_callS (As := [.int (iabs (x2 - r1)), .int x2]) X M (lv_sub hl [] rfl) (T_X3_villaMinds h11 _) cal_X3_villaMinds q352 ⟨by decide, by decide⟩ rfl rfl (Nat.le_of_ble_eq_true rfl) ⟨Nat.le_refl _, Nat.le_refl _⟩ dX3_minds_89) (fun H locs M => ?_)
    clear h11
    refine lv_imul X.x X.b dX3_minds_92 ?_
    exact r_iret X M rfl h dX3_minds_93
  have h := it_f c10 h
  by_cases c12 : r2 = 5
  · have h := it_t c12 h
    refine lv_tableIn (tgt := 94) X.x X.b dX3_minds_16 (by rw [c12]; decide) (by rw [c12]; decide) (by first | (rw [c12]; done) | (rw [c12]; rfl)) (by decide) ?_
    refine lv_iload_n X.x X.b dX3_minds_94 rfl (lv_at hl 0 rfl) ?_
    refine lv_iload_n X.x X.b dX3_minds_95 rfl (lv_at hl 3 rfl) ?_
    obtain ⟨r13, σ13, h13, h⟩ := ob_e h
    refine r_runI M (r_callS (As := [.int (iabs (x2 - r1)), .int x2]) X M (lv_sub hl [] rfl) (T_X3_shopMinds h13 _) cal_X3_shopMinds q355 ⟨by decide, by decide⟩ rfl rfl (Nat.le_of_ble_eq_true rfl) ⟨Nat.le_refl _, Nat.le_refl _⟩ dX3_minds_96) (fun H locs M => ?_)
    clear h13
    refine lv_iload_n X.x X.b dX3_minds_99 rfl (lv_at hl 3 rfl) ?_
    refine lv_bipush (v := 10) X.x X.b dX3_minds_100 (by decide) ?_
    refine r_irem X dX3_minds_102 (by decide) ?_
    refine lv_iconst (v := 4) X.x X.b dX3_minds_103 (by decide) ?_
    refine lv_icmp_ne (tgt := 112) X.x X.b dX3_minds_104 (by decide) (fun c14 => ?_) (fun c14 => ?_)
    · have h := it_f c14 h
      refine lv_iconst (v := 0) X.x X.b dX3_minds_112 (by decide) ?_
      refine lv_iadd X.x X.b dX3_minds_113 ?_
      exact r_iret X M rfl h dX3_minds_114
    · have h := it_t c14 h
      refine lv_bipush (v := 20) X.x X.b dX3_minds_107 (by decide) ?_
      refine lv_goto (tgt := 113) X.x X.b dX3_minds_109 (by decide) ?_
      refine lv_iadd X.x X.b dX3_minds_113 ?_
      exact r_iret X M rfl h dX3_minds_114
  have h := it_f c12 h
  by_cases c15 : r2 = 6
  · have h := it_t c15 h
    refine lv_tableIn (tgt := 115) X.x X.b dX3_minds_16 (by rw [c15]; decide) (by rw [c15]; decide) (by first | (rw [c15]; done) | (rw [c15]; rfl)) (by decide) ?_
    refine lv_iconst (v := 0) X.x X.b dX3_minds_115 (by decide) ?_
    exact r_iret X M rfl h dX3_minds_116
  have h := it_f c15 h
  have c3z := lv_neT c3 (show (1 : Int32).toInt = 1 by decide)
  have c5z := lv_neT c5 (show (2 : Int32).toInt = 2 by decide)
  have c7z := lv_neT c7 (show (3 : Int32).toInt = 3 by decide)
  have c10z := lv_neT c10 (show (4 : Int32).toInt = 4 by decide)
  have c12z := lv_neT c12 (show (5 : Int32).toInt = 5 by decide)
  have c15z := lv_neT c15 (show (6 : Int32).toInt = 6 by decide)
  refine lv_tableOut (tgt := 117) X.x X.b dX3_minds_16 (by omega) (by decide) ?_
  refine lv_iload_n X.x X.b dX3_minds_117 rfl (lv_at hl 0 rfl) ?_
  exact r_iret X M rfl h dX3_minds_118
/-- StreetNumbers.isUse(I)Z -/
def f_X6_isUse (x0 : Int32) (σ : St) : Rs :=
  if x0 < 0 then (
    some (0, σ)
  ) else (
    if 2 ≤ x0 then (
      some (0, σ)
    ) else (
      some (1, σ)
    )
  )
set_option maxRecDepth 100000 in
set_option maxHeartbeats 4000000 in
theorem T_X6_isUse {l : Launch} {Γ : Gm} {x0 : Int32} {σ : St} {r : Int32} {σ' : St} (h : f_X6_isUse x0 σ = some (r, σ')) : MetI l yX6_isUse cX6_isUse 1 .boolean 1 Γ σ [.int x0] r σ' := by
  intro sz
  refine met_in (by decide) (Nat.le_of_ble_eq_true rfl) (fun p e s m args below meth c ls X hsz M hl => ?_)
  subst hsz
  have X : Cx p s m args meth c cX6_isUse RX6 1 (some .boolean) Γ := X
  have hl : lv_has ls 1 [(0, .int x0)] := hl
  unfold f_X6_isUse at h
  refine lv_iload_n X.x X.b dX6_isUse_0 rfl (lv_at hl 0 rfl) ?_
  refine lv_if_lt (tgt := 13) X.x X.b dX6_isUse_1 (by decide) (fun c2 => ?_) (fun c2 => ?_)
  · have h := it_t c2 h
    refine lv_iconst (v := 0) X.x X.b dX6_isUse_13 (by decide) ?_
    exact r_iret X M rfl h dX6_isUse_14
  · have h := it_f c2 h
    refine lv_iload_n X.x X.b dX6_isUse_4 rfl (lv_at hl 0 rfl) ?_
    refine lv_iconst (v := 2) X.x X.b dX6_isUse_5 (by decide) ?_
    refine lv_icmp_ge (tgt := 13) X.x X.b dX6_isUse_6 (by decide) (fun c1 => ?_) (fun c1 => ?_)
    · have h := it_t c1 h
      refine lv_iconst (v := 0) X.x X.b dX6_isUse_13 (by decide) ?_
      exact r_iret X M rfl h dX6_isUse_14
    · have h := it_f c1 h
      refine lv_iconst (v := 1) X.x X.b dX6_isUse_9 (by decide) ?_
      refine lv_goto (tgt := 14) X.x X.b dX6_isUse_10 (by decide) ?_
      exact r_iret X M rfl h dX6_isUse_14
/-- StreetNumbers$Laws.joined(III)I -/
def f_X0_joined (x0 : Int32) (x1 : Int32) (x2 : Int32) (σ : St) : Rs :=
  if x0 = 38 then (
    if x1 = 0 then (
      some (0, σ)
    ) else (
      if x2 = 0 then (
        some (0, σ)
      ) else (
        some (1, σ)
      )
    )
  ) else (
  if x0 = 42 then (
    some ((x1 * x2), σ)
  ) else (
  if x0 = 43 then (
    some ((x1 + x2), σ)
  ) else (
  if x0 = 45 then (
    some ((x1 - x2), σ)
  ) else (
  if x0 = 47 then (
    if x2 = 0 then (
      some (0, σ)
    ) else (
      if ¬ x2 = 0 then (
      some ((x1 / x2), σ)) else none
    )
  ) else (
  if x0 = 60 then (
    if x2 ≤ x1 then (
      some (0, σ)
    ) else (
      some (1, σ)
    )
  ) else (
  if x0 = 61 then (
    if x1 = x2 then (
      some (1, σ)
    ) else (
      some (0, σ)
    )
  ) else (
  if x0 = 62 then (
    if x1 ≤ x2 then (
      some (0, σ)
    ) else (
      some (1, σ)
    )
  ) else (
  if x0 = 124 then (
    if x1 = 0 then (
      if x2 = 0 then (
        some (0, σ)
      ) else (
        some (1, σ)
      )
    ) else (
      some (1, σ)
    )
  ) else (
    if x2 = 0 then (
      some (0, σ)
    ) else (
      if ¬ x2 = 0 then (
      some ((irm x1 x2), σ)) else none
    )
  )))))))))
set_option maxRecDepth 100000 in
set_option maxHeartbeats 4000000 in
theorem T_X0_joined {l : Launch} {Γ : Gm} {x0 : Int32} {x1 : Int32} {x2 : Int32} {σ : St} {r : Int32} {σ' : St} (h : f_X0_joined x0 x1 x2 σ = some (r, σ')) : MetI l yX0_joined cX0_joined 3 .int 1 Γ σ [.int x0, .int x1, .int x2] r σ' := by
  intro sz
  refine met_in (by decide) (Nat.le_of_ble_eq_true rfl) (fun p e s m args below meth c ls X hsz M hl => ?_)
  subst hsz
  have X : Cx p s m args meth c cX0_joined RX0 3 (some .int) Γ := X
  have hl : lv_has ls 3 [(0, .int x0), (1, .int x1), (2, .int x2)] := hl
  unfold f_X0_joined at h
  refine lv_iload_n X.x X.b dX0_joined_0 rfl (lv_at hl 0 rfl) ?_
  by_cases c1 : x0 = 38
  · have h := it_t c1 h
    refine lv_lookup (off := 97) (tgt := 98) X.x X.b dX0_joined_1 (by decide) (by first | (rw [c1]; done) | (rw [c1]; rfl)) (by decide) ?_
    refine lv_iload_n X.x X.b dX0_joined_98 rfl (lv_at hl 1 rfl) ?_
    refine lv_if_eq (tgt := 110) X.x X.b dX0_joined_99 (by decide) (fun c3 => ?_) (fun c3 => ?_)
    · have h := it_t c3 h
      refine lv_iconst (v := 0) X.x X.b dX0_joined_110 (by decide) ?_
      exact r_iret X M rfl h dX0_joined_111
    · have h := it_f c3 h
      refine lv_iload_n X.x X.b dX0_joined_102 rfl (lv_at hl 2 rfl) ?_
      refine lv_if_eq (tgt := 110) X.x X.b dX0_joined_103 (by decide) (fun c2 => ?_) (fun c2 => ?_)
      · have h := it_t c2 h
        refine lv_iconst (v := 0) X.x X.b dX0_joined_110 (by decide) ?_
        exact r_iret X M rfl h dX0_joined_111
      · have h := it_f c2 h
        refine lv_iconst (v := 1) X.x X.b dX0_joined_106 (by decide) ?_
        refine lv_goto (tgt := 111) X.x X.b dX0_joined_107 (by decide) ?_
        exact r_iret X M rfl h dX0_joined_111
  have h := it_f c1 h
  by_cases c4 : x0 = 42
  · have h := it_t c4 h
    refine lv_lookup (off := 152) (tgt := 153) X.x X.b dX0_joined_1 (by decide) (by first | (rw [c4]; done) | (rw [c4]; rfl)) (by decide) ?_
    refine lv_iload_n X.x X.b dX0_joined_153 rfl (lv_at hl 1 rfl) ?_
    refine lv_iload_n X.x X.b dX0_joined_154 rfl (lv_at hl 2 rfl) ?_
    refine lv_imul X.x X.b dX0_joined_155 ?_
    exact r_iret X M rfl h dX0_joined_156
  have h := it_f c4 h
  by_cases c5 : x0 = 43
  · have h := it_t c5 h
    refine lv_lookup (off := 144) (tgt := 145) X.x X.b dX0_joined_1 (by decide) (by first | (rw [c5]; done) | (rw [c5]; rfl)) (by decide) ?_
    refine lv_iload_n X.x X.b dX0_joined_145 rfl (lv_at hl 1 rfl) ?_
    refine lv_iload_n X.x X.b dX0_joined_146 rfl (lv_at hl 2 rfl) ?_
    refine lv_iadd X.x X.b dX0_joined_147 ?_
    exact r_iret X M rfl h dX0_joined_148
  have h := it_f c5 h
  by_cases c6 : x0 = 45
  · have h := it_t c6 h
    refine lv_lookup (off := 148) (tgt := 149) X.x X.b dX0_joined_1 (by decide) (by first | (rw [c6]; done) | (rw [c6]; rfl)) (by decide) ?_
    refine lv_iload_n X.x X.b dX0_joined_149 rfl (lv_at hl 1 rfl) ?_
    refine lv_iload_n X.x X.b dX0_joined_150 rfl (lv_at hl 2 rfl) ?_
    refine lv_isub X.x X.b dX0_joined_151 ?_
    exact r_iret X M rfl h dX0_joined_152
  have h := it_f c6 h
  by_cases c7 : x0 = 47
  · have h := it_t c7 h
    refine lv_lookup (off := 156) (tgt := 157) X.x X.b dX0_joined_1 (by decide) (by first | (rw [c7]; done) | (rw [c7]; rfl)) (by decide) ?_
    refine lv_iload_n X.x X.b dX0_joined_157 rfl (lv_at hl 2 rfl) ?_
    refine lv_if_ne (tgt := 165) X.x X.b dX0_joined_158 (by decide) (fun c9 => ?_) (fun c9 => ?_)
    · have h := it_f c9 h
      refine lv_iload_n X.x X.b dX0_joined_165 rfl (lv_at hl 1 rfl) ?_
      refine lv_iload_n X.x X.b dX0_joined_166 rfl (lv_at hl 2 rfl) ?_
      obtain ⟨c8, h⟩ := it_n h
      refine lv_idiv X.x X.b dX0_joined_167 c8 ?_
      exact r_iret X M rfl h dX0_joined_168
    · have h := it_t c9 h
      refine lv_iconst (v := 0) X.x X.b dX0_joined_161 (by decide) ?_
      refine lv_goto (tgt := 168) X.x X.b dX0_joined_162 (by decide) ?_
      exact r_iret X M rfl h dX0_joined_168
  have h := it_f c7 h
  by_cases c10 : x0 = 60
  · have h := it_t c10 h
    refine lv_lookup (off := 111) (tgt := 112) X.x X.b dX0_joined_1 (by decide) (by first | (rw [c10]; done) | (rw [c10]; rfl)) (by decide) ?_
    refine lv_iload_n X.x X.b dX0_joined_112 rfl (lv_at hl 1 rfl) ?_
    refine lv_iload_n X.x X.b dX0_joined_113 rfl (lv_at hl 2 rfl) ?_
    refine lv_icmp_ge (tgt := 121) X.x X.b dX0_joined_114 (by decide) (fun c11 => ?_) (fun c11 => ?_)
    · have h := it_t c11 h
      refine lv_iconst (v := 0) X.x X.b dX0_joined_121 (by decide) ?_
      exact r_iret X M rfl h dX0_joined_122
    · have h := it_f c11 h
      refine lv_iconst (v := 1) X.x X.b dX0_joined_117 (by decide) ?_
      refine lv_goto (tgt := 122) X.x X.b dX0_joined_118 (by decide) ?_
      exact r_iret X M rfl h dX0_joined_122
  have h := it_f c10 h
  by_cases c12 : x0 = 61
  · have h := it_t c12 h
    refine lv_lookup (off := 122) (tgt := 123) X.x X.b dX0_joined_1 (by decide) (by first | (rw [c12]; done) | (rw [c12]; rfl)) (by decide) ?_
    refine lv_iload_n X.x X.b dX0_joined_123 rfl (lv_at hl 1 rfl) ?_
    refine lv_iload_n X.x X.b dX0_joined_124 rfl (lv_at hl 2 rfl) ?_
    refine lv_icmp_ne (tgt := 132) X.x X.b dX0_joined_125 (by decide) (fun c13 => ?_) (fun c13 => ?_)
    · have h := it_f c13 h
      refine lv_iconst (v := 0) X.x X.b dX0_joined_132 (by decide) ?_
      exact r_iret X M rfl h dX0_joined_133
    · have h := it_t c13 h
      refine lv_iconst (v := 1) X.x X.b dX0_joined_128 (by decide) ?_
      refine lv_goto (tgt := 133) X.x X.b dX0_joined_129 (by decide) ?_
      exact r_iret X M rfl h dX0_joined_133
  have h := it_f c12 h
  by_cases c14 : x0 = 62
  · have h := it_t c14 h
    refine lv_lookup (off := 133) (tgt := 134) X.x X.b dX0_joined_1 (by decide) (by first | (rw [c14]; done) | (rw [c14]; rfl)) (by decide) ?_
    refine lv_iload_n X.x X.b dX0_joined_134 rfl (lv_at hl 1 rfl) ?_
    refine lv_iload_n X.x X.b dX0_joined_135 rfl (lv_at hl 2 rfl) ?_
    refine lv_icmp_le (tgt := 143) X.x X.b dX0_joined_136 (by decide) (fun c15 => ?_) (fun c15 => ?_)
    · have h := it_t c15 h
      refine lv_iconst (v := 0) X.x X.b dX0_joined_143 (by decide) ?_
      exact r_iret X M rfl h dX0_joined_144
    · have h := it_f c15 h
      refine lv_iconst (v := 1) X.x X.b dX0_joined_139 (by decide) ?_
      refine lv_goto (tgt := 144) X.x X.b dX0_joined_140 (by decide) ?_
      exact r_iret X M rfl h dX0_joined_144
  have h := it_f c14 h
  by_cases c16 : x0 = 124
  · have h := it_t c16 h
    refine lv_lookup (off := 83) (tgt := 84) X.x X.b dX0_joined_1 (by decide) (by first | (rw [c16]; done) | (rw [c16]; rfl)) (by decide) ?_
    refine lv_iload_n X.x X.b dX0_joined_84 rfl (lv_at hl 1 rfl) ?_
    refine lv_if_ne (tgt := 92) X.x X.b dX0_joined_85 (by decide) (fun c18 => ?_) (fun c18 => ?_)
    · have h := it_f c18 h
      refine lv_iconst (v := 1) X.x X.b dX0_joined_92 (by decide) ?_
      refine lv_goto (tgt := 97) X.x X.b dX0_joined_93 (by decide) ?_
      exact r_iret X M rfl h dX0_joined_97
    · have h := it_t c18 h
      refine lv_iload_n X.x X.b dX0_joined_88 rfl (lv_at hl 2 rfl) ?_
      refine lv_if_eq (tgt := 96) X.x X.b dX0_joined_89 (by decide) (fun c17 => ?_) (fun c17 => ?_)
      · have h := it_t c17 h
        refine lv_iconst (v := 0) X.x X.b dX0_joined_96 (by decide) ?_
        exact r_iret X M rfl h dX0_joined_97
      · have h := it_f c17 h
        refine lv_iconst (v := 1) X.x X.b dX0_joined_92 (by decide) ?_
        refine lv_goto (tgt := 97) X.x X.b dX0_joined_93 (by decide) ?_
        exact r_iret X M rfl h dX0_joined_97
  have h := it_f c16 h
  refine lv_lookup (off := 168) (tgt := 169) X.x X.b dX0_joined_1 (by decide) (by show Op.lookupswitch.offset [(38, 97), (42, 152), (43, 144), (45, 148), (47, 156), (60, 111), (61, 122), (62, 133), (124, 83)] _ _ = _; first | (rw [lv_osw c1 (by decide), lv_osw c4 (by decide), lv_osw c5 (by decide), lv_osw c6 (by decide), lv_osw c7 (by decide), lv_osw c10 (by decide), lv_osw c12 (by decide), lv_osw c14 (by decide), lv_osw c16 (by decide)]; done) | (rw [lv_osw c1 (by decide), lv_osw c4 (by decide), lv_osw c5 (by decide), lv_osw c6 (by decide), lv_osw c7 (by decide), lv_osw c10 (by decide), lv_osw c12 (by decide), lv_osw c14 (by decide), lv_osw c16 (by decide)]; rfl)) (by decide) ?_
  refine lv_iload_n X.x X.b dX0_joined_169 rfl (lv_at hl 2 rfl) ?_
  refine lv_if_ne (tgt := 177) X.x X.b dX0_joined_170 (by decide) (fun c20 => ?_) (fun c20 => ?_)
  · have h := it_f c20 h
    refine lv_iload_n X.x X.b dX0_joined_177 rfl (lv_at hl 1 rfl) ?_
    refine lv_iload_n X.x X.b dX0_joined_178 rfl (lv_at hl 2 rfl) ?_
    obtain ⟨c19, h⟩ := it_n h
    refine r_irem X dX0_joined_179 c19 ?_
    exact r_iret X M rfl h dX0_joined_180
  · have h := it_t c20 h
    refine lv_iconst (v := 0) X.x X.b dX0_joined_173 (by decide) ?_
    refine lv_goto (tgt := 180) X.x X.b dX0_joined_174 (by decide) ?_
    exact r_iret X M rfl h dX0_joined_180
/-- StreetNumbers$Laws.named(IIII)I -/
def f_X0_named (x0 : Int32) (x1 : Int32) (x2 : Int32) (x3 : Int32) (σ : St) : Rs :=
  if x0 = 0 then (
    some (x1, σ)
  ) else (
    if x0 = 1 then (
      some (x2, σ)
    ) else (
      some (x3, σ)
    )
  )
set_option maxRecDepth 100000 in
set_option maxHeartbeats 4000000 in
theorem T_X0_named {l : Launch} {Γ : Gm} {x0 : Int32} {x1 : Int32} {x2 : Int32} {x3 : Int32} {σ : St} {r : Int32} {σ' : St} (h : f_X0_named x0 x1 x2 x3 σ = some (r, σ')) : MetI l yX0_named cX0_named 4 .int 1 Γ σ [.int x0, .int x1, .int x2, .int x3] r σ' := by
  intro sz
  refine met_in (by decide) (Nat.le_of_ble_eq_true rfl) (fun p e s m args below meth c ls X hsz M hl => ?_)
  subst hsz
  have X : Cx p s m args meth c cX0_named RX0 4 (some .int) Γ := X
  have hl : lv_has ls 4 [(0, .int x0), (1, .int x1), (2, .int x2), (3, .int x3)] := hl
  unfold f_X0_named at h
  refine lv_iload_n X.x X.b dX0_named_0 rfl (lv_at hl 0 rfl) ?_
  refine lv_if_ne (tgt := 6) X.x X.b dX0_named_1 (by decide) (fun c2 => ?_) (fun c2 => ?_)
  · have h := it_f c2 h
    refine lv_iload_n X.x X.b dX0_named_6 rfl (lv_at hl 0 rfl) ?_
    refine lv_iconst (v := 1) X.x X.b dX0_named_7 (by decide) ?_
    refine lv_icmp_ne (tgt := 15) X.x X.b dX0_named_8 (by decide) (fun c1 => ?_) (fun c1 => ?_)
    · have h := it_f c1 h
      refine lv_iload_n X.x X.b dX0_named_15 rfl (lv_at hl 3 rfl) ?_
      exact r_iret X M rfl h dX0_named_16
    · have h := it_t c1 h
      refine lv_iload_n X.x X.b dX0_named_11 rfl (lv_at hl 2 rfl) ?_
      refine lv_goto (tgt := 16) X.x X.b dX0_named_12 (by decide) ?_
      exact r_iret X M rfl h dX0_named_16
  · have h := it_t c2 h
    refine lv_iload_n X.x X.b dX0_named_4 rfl (lv_at hl 1 rfl) ?_
    exact r_iret X M rfl h dX0_named_5
