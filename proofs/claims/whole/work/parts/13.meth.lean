/-- StreetNumbers.renumber(I)I -/
def f_X6_renumber (x1 : Int32) (σ : St) : Rs :=
  if x1 < 1 then (
    ob (f_X6_failing 1 σ) fun r1 σ1 => (
    some (r1, σ1))
  ) else (
    if x1 ≤ 50 then (
      ob (f_X3_renumberBy x1 σ) fun r2 σ2 => (
      some (r2, σ2))
    ) else (
      ob (f_X6_failing 1 σ) fun r3 σ3 => (
      some (r3, σ3))
    )
  )
set_option maxRecDepth 100000 in
set_option maxHeartbeats 4000000 in
theorem T_X6_renumber {l : Launch} {Γ : Gm} {x1 : Int32} {σ : St} {r : Int32} {σ' : St} (h : f_X6_renumber x1 σ = some (r, σ')) : MetI l yX6_renumber cX6_renumber 2 .int 7 Γ σ [.ref (Γ.1 0), .int x1] r σ' := by
  intro sz
  refine met_in (by decide) (Nat.le_of_ble_eq_true rfl) (fun p e s m args below meth c ls X hsz M hl => ?_)
  subst hsz
  have X : Cx p s m args meth c cX6_renumber RX6 2 (some .int) Γ := X
  have hl : lv_has ls 2 [(0, .ref (Γ.1 0)), (1, .int x1)] := hl
  unfold f_X6_renumber at h
  refine lv_iload_n X.x X.b dX6_renumber_0 rfl (lv_at hl 1 rfl) ?_
  refine lv_iconst (v := 1) X.x X.b dX6_renumber_1 (by decide) ?_
  refine lv_icmp_lt (tgt := 11) X.x X.b dX6_renumber_2 (by decide) (fun c5 => ?_) (fun c5 => ?_)
  · have h := it_t c5 h
    refine lv_aload_n X.x X.b dX6_renumber_11 rfl (lv_at hl 0 rfl) ?_
    refine lv_iconst (v := 1) X.x X.b dX6_renumber_12 (by decide) ?_
    obtain ⟨r1, σ1, h1, h⟩ := ob_e h
    refine r_runI M (r_callV (As := [.int 1]) X M (lv_sub hl [] rfl) (T_X6_failing h1 _) cal_X6_failing q223 ⟨by decide, by decide⟩ hq_0 (el_0 _ _) rfl rfl rfl (Nat.le_of_ble_eq_true rfl) ⟨Nat.le_refl _, Nat.le_refl _⟩ dX6_renumber_13) (fun H locs M => ?_)
    clear h1
    exact r_iret X M rfl h dX6_renumber_16
  · have h := it_f c5 h
    refine lv_iload_n X.x X.b dX6_renumber_5 rfl (lv_at hl 1 rfl) ?_
    refine lv_bipush (v := 50) X.x X.b dX6_renumber_6 (by decide) ?_
    refine lv_icmp_le (tgt := 17) X.x X.b dX6_renumber_8 (by decide) (fun c4 => ?_) (fun c4 => ?_)
    · have h := it_t c4 h
      refine lv_aload_n X.x X.b dX6_renumber_17 rfl (lv_at hl 0 rfl) ?_
      refine r_get X M hq_0 (el_0 _ _) rfl inX6 0 (by decide) q188 rfl rfl dX6_renumber_18 ?_
      refine lv_iload_n X.x X.b dX6_renumber_21 rfl (lv_at hl 1 rfl) ?_
      obtain ⟨r2, σ2, h2, h⟩ := ob_e h
      refine r_runI M (r_callV (As := [.int x1]) X M (lv_sub hl [] rfl) (T_X3_renumberBy h2 _) cal_X3_renumberBy q451 ⟨by decide, by decide⟩ hq_1 (el_1 _ _) rfl rfl rfl (Nat.le_of_ble_eq_true rfl) ⟨Nat.le_refl _, Nat.le_refl _⟩ dX6_renumber_22) (fun H locs M => ?_)
      clear h2
      exact r_iret X M rfl h dX6_renumber_25
    · have h := it_f c4 h
      refine lv_aload_n X.x X.b dX6_renumber_11 rfl (lv_at hl 0 rfl) ?_
      refine lv_iconst (v := 1) X.x X.b dX6_renumber_12 (by decide) ?_
      obtain ⟨r3, σ3, h3, h⟩ := ob_e h
      refine r_runI M (r_callV (As := [.int 1]) X M (lv_sub hl [] rfl) (T_X6_failing h3 _) cal_X6_failing q223 ⟨by decide, by decide⟩ hq_0 (el_0 _ _) rfl rfl rfl (Nat.le_of_ble_eq_true rfl) ⟨Nat.le_refl _, Nat.le_refl _⟩ dX6_renumber_13) (fun H locs M => ?_)
      clear h3
      exact r_iret X M rfl h dX6_renumber_16
/-- StreetNumbers$Laws.takeSteps(I[II)V -/
def f_X0_takeSteps_v1 (x1 : Int32) (x2 : Nat) (x3 : Int32) (σ : St) : Rs :=
  ob (f_X6_isUse x1 σ) fun r1 σ1 => (
  if r1 = 0 then (
    some (0, σ1)
  ) else (
    if inb x1 2 then (
    if (¬ (alen x2) = 0 ∧ ¬ 60 = 0) ∧ ¬ (0 : Int32) < 0 ∧ ¬ (0 : Int32) < 0 ∧ ¬ (60 : Int32) < 0 ∧ (0 : Int32).toNatClampNeg + (60 : Int32).toNatClampNeg ≤ (alen x2) ∧ (0 : Int32).toNatClampNeg + (60 : Int32).toNatClampNeg ≤ 60 then (
    ol (sR σ1 (5 + x1.toNatClampNeg) (va_cpy (σ1 x2) (σ1 (5 + x1.toNatClampNeg)) (0 : Int32).toNatClampNeg (0 : Int32).toNatClampNeg (60 : Int32).toNatClampNeg)) fun σ4 => (
    if inb x1 2 then (
    ol (st σ4 7 x1.toNatClampNeg x3) fun σ6 => (
    some (0, σ6))) else none)) else none) else none
  ))
set_option maxRecDepth 100000 in
set_option maxHeartbeats 4000000 in
theorem T_X0_takeSteps_v1 {l : Launch} {Γ : Gm} {x1 : Int32} {x2 : Nat} {x3 : Int32} {σ : St} {r : Int32} {σ' : St} (h : f_X0_takeSteps_v1 x1 x2 x3 σ = some (r, σ')) : MetV l yX0_takeSteps cX0_takeSteps 4 2 Γ σ [.ref (Γ.1 2), .int x1, .ref (Γ.1 x2), .int x3] σ' := by
  intro sz
  refine met_in (by decide) (Nat.le_of_ble_eq_true rfl) (fun p e s m args below meth c ls X hsz M hl => ?_)
  subst hsz
  have X : Cx p s m args meth c cX0_takeSteps RX0 4 none Γ := X
  have hl : lv_has ls 4 [(0, .ref (Γ.1 2)), (1, .int x1), (2, .ref (Γ.1 x2)), (3, .int x3)] := hl
  unfold f_X0_takeSteps_v1 at h
  refine lv_iload_n X.x X.b dX0_takeSteps_0 rfl (lv_at hl 1 rfl) ?_
  obtain ⟨r1, σ1, h1, h⟩ := ob_e h
  refine r_runI M (r_callSN (As := [.int x1]) (host := "StreetNumbers") X M (lv_sub hl [] rfl) (T_X6_isUse h1 _) cal_X6_isUse nst_X0_42 ⟨by decide, by decide⟩ rfl rfl (Nat.le_of_ble_eq_true rfl) ⟨Nat.le_refl _, Nat.le_refl _⟩ dX0_takeSteps_1) (fun H locs M => ?_)
  clear h1
  refine lv_if_eq (tgt := 28) X.x X.b dX0_takeSteps_4 (by decide) (fun c7 => ?_) (fun c7 => ?_)
  · have h := it_t c7 h
    exact r_vret X M h dX0_takeSteps_28
  · have h := it_f c7 h
    refine lv_aload_n X.x X.b dX0_takeSteps_7 rfl (lv_at hl 2 rfl) ?_
    refine lv_iconst (v := 0) X.x X.b dX0_takeSteps_8 (by decide) ?_
    refine lv_aload_n X.x X.b dX0_takeSteps_9 rfl (lv_at hl 0 rfl) ?_
    refine r_get X M hq_2 (el_2 _ _) rfl inX0 2 (by decide) q37 rfl rfl dX0_takeSteps_10 ?_
    refine lv_iload_n X.x X.b dX0_takeSteps_13 rfl (lv_at hl 1 rfl) ?_
    obtain ⟨c2, h⟩ := it_n h
    refine r_aald X M hq_4 (el_4 _ _) c2 dX0_takeSteps_14 ?_
    refine lv_iconst (v := 0) X.x X.b dX0_takeSteps_15 (by decide) ?_
    refine lv_bipush (v := 60) X.x X.b dX0_takeSteps_16 (by decide) ?_
    obtain ⟨c3, h⟩ := it_n h
    obtain ⟨σ4, e4, h⟩ := ol_e h
    refine r_copy (q1 := x2) (q2 := (5 + x1.toNatClampNeg)) (n1 := (alen x2)) (n2 := 60) X M rfl (al_4 _ (in_lt c2)) (lv_sub hl [] rfl) c3.1 c3.2 q433 q234 q233 q9 (by decide) (Nat.le_of_ble_eq_true rfl) dX0_takeSteps_18 (fun H locs M => ?_)
    rw [← e4] at M
    refine lv_aload_n X.x X.b dX0_takeSteps_21 rfl (lv_at hl 0 rfl) ?_
    refine r_get X M hq_2 (el_2 _ _) rfl inX0 3 (by decide) q38 rfl rfl dX0_takeSteps_22 ?_
    refine lv_iload_n X.x X.b dX0_takeSteps_25 rfl (lv_at hl 1 rfl) ?_
    refine lv_iload_n X.x X.b dX0_takeSteps_26 rfl (lv_at hl 3 rfl) ?_
    obtain ⟨c5, h⟩ := it_n h
    obtain ⟨σ6, e6, h⟩ := ol_e h
    refine r_iast (q := 7) (n := 2) X M rfl c5 dX0_takeSteps_27 (fun H locs M => ?_)
    rw [← e6] at M
    exact r_vret X M h dX0_takeSteps_28
def f_X0_becomeLike_v1_b25 (k25 : (Int32 → St → Rs)) (x2 : Int32) (σ : St) : Rs :=
  if 2 ≤ x2 then (
    some (0, σ)
  ) else (
    if inb x2 2 then (
    if inb x2 2 then (
    ob (f_X0_takeSteps_v1 x2 (18 + x2.toNatClampNeg) (σ 20 x2.toNatClampNeg) σ) fun _ σ3 => (
    k25 (x2 + 1) σ3)) else none) else none
  )
set_option maxRecDepth 100000 in
set_option maxHeartbeats 4000000 in
theorem u_X0_becomeLike_v1_b25 {l : Launch} {Γ : Gm} {p : Program} {e : Env} {s : State} {m : MethodId} {args : Array Value} {below : List Frame} {meth : Method} {c : Code} {r : Int32} {σ' : St} {k25 : Int32 → St → Rs} (X : Cx p s m args meth c cX0_becomeLike RX0 3 none Γ) (H25 : ∀ (x2 : Int32) (σ : St) (H : Heap) (locs : List Loc) (ls : Array Slot), k25 x2 σ = some (r, σ') → Mv Γ σ s H locs → lv_has ls 3 [(0, .ref (Γ.1 2)), (1, .ref (Γ.1 15)), (2, .int x2)] → W p l e (rmd 3) s m args below meth c H locs 0 0 (MQ below (Qv Γ σ' s.heap.size) args s 0 0 (Rg Γ s.heap.size)) (F0 m 25 ls [])) (x2 : Int32) (σ : St) (H : Heap) (locs : List Loc) (ls : Array Slot) (h : f_X0_becomeLike_v1_b25 k25 x2 σ = some (r, σ')) (M : Mv Γ σ s H locs) (hl : lv_has ls 3 [(0, .ref (Γ.1 2)), (1, .ref (Γ.1 15)), (2, .int x2)]) : W p l e (rmd 3) s m args below meth c H locs 0 0 (MQ below (Qv Γ σ' s.heap.size) args s 0 0 (Rg Γ s.heap.size)) (F0 m 25 ls []) := by
  unfold f_X0_becomeLike_v1_b25 at h
  refine lv_iload_n X.x X.b dX0_becomeLike_25 rfl (lv_at hl 2 rfl) ?_
  refine lv_iconst (v := 2) X.x X.b dX0_becomeLike_26 (by decide) ?_
  refine lv_icmp_ge (tgt := 53) X.x X.b dX0_becomeLike_27 (by decide) (fun c4 => ?_) (fun c4 => ?_)
  · have h := it_t c4 h
    exact r_vret X M h dX0_becomeLike_53
  · have h := it_f c4 h
    refine lv_aload_n X.x X.b dX0_becomeLike_30 rfl (lv_at hl 0 rfl) ?_
    refine lv_iload_n X.x X.b dX0_becomeLike_31 rfl (lv_at hl 2 rfl) ?_
    refine lv_aload_n X.x X.b dX0_becomeLike_32 rfl (lv_at hl 1 rfl) ?_
    refine r_get X M hq_15 (el_15 _ _) rfl inX0 2 (by decide) q37 rfl rfl dX0_becomeLike_33 ?_
    refine lv_iload_n X.x X.b dX0_becomeLike_36 rfl (lv_at hl 2 rfl) ?_
    obtain ⟨c1, h⟩ := it_n h
    refine r_aald X M hq_17 (el_17 _ _) c1 dX0_becomeLike_37 ?_
    refine lv_aload_n X.x X.b dX0_becomeLike_38 rfl (lv_at hl 1 rfl) ?_
    refine r_get X M hq_15 (el_15 _ _) rfl inX0 3 (by decide) q38 rfl rfl dX0_becomeLike_39 ?_
    refine lv_iload_n X.x X.b dX0_becomeLike_42 rfl (lv_at hl 2 rfl) ?_
    obtain ⟨c2, h⟩ := it_n h
    refine r_iald (q := 20) (n := 2) X M rfl c2 dX0_becomeLike_43 ?_
    obtain ⟨r3, σ3, h3, h⟩ := ob_e h
    refine r_runV M (r_callV (As := [.int x2, .ref (Γ.1 (18 + x2.toNatClampNeg)), .int (σ 20 x2.toNatClampNeg)]) X M (lv_sub hl [] rfl) (T_X0_takeSteps_v1 h3 _) cal_X0_takeSteps q693 ⟨by decide, by decide⟩ hq_2 (el_2 _ _) rfl rfl rfl (Nat.le_of_ble_eq_true rfl) ⟨Nat.le_refl _, Nat.le_refl _⟩ dX0_becomeLike_44) (fun H locs M => ?_)
    clear h3
    refine lv_iinc (v := (x2 + 1)) (lv' := [(2, .int (x2 + 1)), (0, .ref (Γ.1 2)), (1, .ref (Γ.1 15))]) X.x X.b dX0_becomeLike_47 hl (k := 2) rfl rfl (by decide) rfl (fun ls hl => ?_)
    refine lv_goto (tgt := 25) X.x X.b dX0_becomeLike_50 (by decide) ?_
    exact H25 (x2 + 1) σ3 _ _ _ h M (lv_sub hl [1, 2, 0] rfl)
def f_X0_becomeLike_v1_L25 : Nat → Int32 → St → Rs
  | 0 => fun _ _ => none
  | n + 1 => fun x2 σ => f_X0_becomeLike_v1_b25 (f_X0_becomeLike_v1_L25 n) x2 σ
theorem u_X0_becomeLike_v1_L25 {l : Launch} {Γ : Gm} {p : Program} {e : Env} {s : State} {m : MethodId} {args : Array Value} {below : List Frame} {meth : Method} {c : Code} {r : Int32} {σ' : St} (X : Cx p s m args meth c cX0_becomeLike RX0 3 none Γ) : ∀ (n : Nat) (x2 : Int32) (σ : St) (H : Heap) (locs : List Loc) (ls : Array Slot), f_X0_becomeLike_v1_L25 n x2 σ = some (r, σ') → Mv Γ σ s H locs → lv_has ls 3 [(0, .ref (Γ.1 2)), (1, .ref (Γ.1 15)), (2, .int x2)] → W p l e (rmd 3) s m args below meth c H locs 0 0 (MQ below (Qv Γ σ' s.heap.size) args s 0 0 (Rg Γ s.heap.size)) (F0 m 25 ls []) := by
  intro n
  induction n with
  | zero => intro x2 σ H locs ls h; cases h
  | succ n ih => intro x2 σ H locs ls h; exact u_X0_becomeLike_v1_b25 X  ih x2 σ H locs ls h
/-- StreetNumbers$Laws.becomeLike(LStreetNumbers$Laws;)V -/
def f_X0_becomeLike_v1 (σ : St) : Rs :=
  ol (st σ 2 1 (σ 15 1)) fun σ1 => (
  if ¬ (0 : Int32) < 0 ∧ ¬ (0 : Int32) < 0 ∧ ¬ (60 : Int32) < 0 ∧ (0 : Int32).toNatClampNeg + (60 : Int32).toNatClampNeg ≤ 60 ∧ (0 : Int32).toNatClampNeg + (60 : Int32).toNatClampNeg ≤ 60 then (
  ol (sR σ1 3 (va_cpy (σ1 16) (σ1 3) (0 : Int32).toNatClampNeg (0 : Int32).toNatClampNeg (60 : Int32).toNatClampNeg)) fun σ3 => (
  f_X0_becomeLike_v1_L25 LF 0 σ3)) else none)
set_option maxRecDepth 100000 in
set_option maxHeartbeats 4000000 in
theorem T_X0_becomeLike_v1 {l : Launch} {Γ : Gm} {σ : St} {r : Int32} {σ' : St} (h : f_X0_becomeLike_v1 σ = some (r, σ')) : MetV l yX0_becomeLike cX0_becomeLike 3 3 Γ σ [.ref (Γ.1 2), .ref (Γ.1 15)] σ' := by
  intro sz
  refine met_in (by decide) (Nat.le_of_ble_eq_true rfl) (fun p e s m args below meth c ls X hsz M hl => ?_)
  subst hsz
  have X : Cx p s m args meth c cX0_becomeLike RX0 3 none Γ := X
  have hl : lv_has ls 3 [(0, .ref (Γ.1 2)), (1, .ref (Γ.1 15))] := hl
  unfold f_X0_becomeLike_v1 at h
  refine lv_aload_n X.x X.b dX0_becomeLike_0 rfl (lv_at hl 0 rfl) ?_
  refine lv_aload_n X.x X.b dX0_becomeLike_1 rfl (lv_at hl 1 rfl) ?_
  refine r_get X M hq_15 (el_15 _ _) rfl inX0 1 (by decide) q35 rfl rfl dX0_becomeLike_2 ?_
  obtain ⟨σ1, e1, h⟩ := ol_e h
  refine r_put (x := (σ 15 1)) (ty := .int) X M hq_2 (el_2 _ _) rfl inX0 tyX0_ok nmX0 1 (by decide) q35 rfl rfl rfl rfl rfl (Nat.le_of_ble_eq_true rfl) (pf_2_1 _ _ _) dX0_becomeLike_5 (fun H locs M => ?_)
  rw [← e1] at M
  refine lv_aload_n X.x X.b dX0_becomeLike_8 rfl (lv_at hl 1 rfl) ?_
  refine r_get X M hq_15 (el_15 _ _) rfl inX0 0 (by decide) q33 rfl rfl dX0_becomeLike_9 ?_
  refine lv_iconst (v := 0) X.x X.b dX0_becomeLike_12 (by decide) ?_
  refine lv_aload_n X.x X.b dX0_becomeLike_13 rfl (lv_at hl 0 rfl) ?_
  refine r_get X M hq_2 (el_2 _ _) rfl inX0 0 (by decide) q33 rfl rfl dX0_becomeLike_14 ?_
  refine lv_iconst (v := 0) X.x X.b dX0_becomeLike_17 (by decide) ?_
  refine lv_bipush (v := 60) X.x X.b dX0_becomeLike_18 (by decide) ?_
  obtain ⟨c2, h⟩ := it_n h
  obtain ⟨σ3, e3, h⟩ := ol_e h
  refine r_copy (q1 := 16) (q2 := 3) (n1 := 60) (n2 := 60) X M rfl rfl (lv_sub hl [] rfl) ⟨by decide, by decide⟩ c2 q433 q234 q233 q9 (by decide) (Nat.le_of_ble_eq_true rfl) dX0_becomeLike_20 (fun H locs M => ?_)
  rw [← e3] at M
  refine lv_iconst (v := 0) X.x X.b dX0_becomeLike_23 (by decide) ?_
  refine lv_istore_n (lv' := [(2, .int 0), (0, .ref (Γ.1 2)), (1, .ref (Γ.1 15))]) X.x X.b dX0_becomeLike_24 rfl hl (by decide) rfl (fun ls hl => ?_)
  exact u_X0_becomeLike_v1_L25 X LF 0 σ3 _ _ _ h M (lv_sub hl [1, 2, 0] rfl)
/-- StreetNumbers$Street.becomeLike(LStreetNumbers$Street;)V -/
def f_X3_becomeLike_v1 (σ : St) : Rs :=
  ol (st σ 1 1 (σ 14 1)) fun σ1 => (
  ol (st σ1 1 2 (σ1 14 2)) fun σ2 => (
  ol (st σ2 1 3 (σ2 14 3)) fun σ3 => (
  ol (st σ3 1 4 (σ3 14 4)) fun σ4 => (
  ol (st σ4 1 5 (σ4 14 5)) fun σ5 => (
  if ¬ (0 : Int32) < 0 ∧ ¬ (0 : Int32) < 0 ∧ ¬ (10 : Int32) < 0 ∧ (0 : Int32).toNatClampNeg + (10 : Int32).toNatClampNeg ≤ 10 ∧ (0 : Int32).toNatClampNeg + (10 : Int32).toNatClampNeg ≤ 10 then (
  ol (sR σ5 9 (va_cpy (σ5 22) (σ5 9) (0 : Int32).toNatClampNeg (0 : Int32).toNatClampNeg (10 : Int32).toNatClampNeg)) fun σ7 => (
  if ¬ (0 : Int32) < 0 ∧ ¬ (0 : Int32) < 0 ∧ ¬ (10 : Int32) < 0 ∧ (0 : Int32).toNatClampNeg + (10 : Int32).toNatClampNeg ≤ 10 ∧ (0 : Int32).toNatClampNeg + (10 : Int32).toNatClampNeg ≤ 10 then (
  ol (sR σ7 10 (va_cpy (σ7 23) (σ7 10) (0 : Int32).toNatClampNeg (0 : Int32).toNatClampNeg (10 : Int32).toNatClampNeg)) fun σ9 => (
  if ¬ (0 : Int32) < 0 ∧ ¬ (0 : Int32) < 0 ∧ ¬ (10 : Int32) < 0 ∧ (0 : Int32).toNatClampNeg + (10 : Int32).toNatClampNeg ≤ 10 ∧ (0 : Int32).toNatClampNeg + (10 : Int32).toNatClampNeg ≤ 10 then (
  ol (sR σ9 11 (va_cpy (σ9 24) (σ9 11) (0 : Int32).toNatClampNeg (0 : Int32).toNatClampNeg (10 : Int32).toNatClampNeg)) fun σ11 => (
  if ¬ (0 : Int32) < 0 ∧ ¬ (0 : Int32) < 0 ∧ ¬ (10 : Int32) < 0 ∧ (0 : Int32).toNatClampNeg + (10 : Int32).toNatClampNeg ≤ 10 ∧ (0 : Int32).toNatClampNeg + (10 : Int32).toNatClampNeg ≤ 10 then (
  ol (sR σ11 12 (va_cpy (σ11 25) (σ11 12) (0 : Int32).toNatClampNeg (0 : Int32).toNatClampNeg (10 : Int32).toNatClampNeg)) fun σ13 => (
  if ¬ (0 : Int32) < 0 ∧ ¬ (0 : Int32) < 0 ∧ ¬ (24 : Int32) < 0 ∧ (0 : Int32).toNatClampNeg + (24 : Int32).toNatClampNeg ≤ 24 ∧ (0 : Int32).toNatClampNeg + (24 : Int32).toNatClampNeg ≤ 24 then (
  ol (sR σ13 13 (va_cpy (σ13 26) (σ13 13) (0 : Int32).toNatClampNeg (0 : Int32).toNatClampNeg (24 : Int32).toNatClampNeg)) fun σ15 => (
  ob (f_X0_becomeLike_v1 σ15) fun _ σ16 => (
  some (0, σ16)))) else none)) else none)) else none)) else none)) else none)))))
set_option maxRecDepth 100000 in
set_option maxHeartbeats 4000000 in
theorem T_X3_becomeLike_v1 {l : Launch} {Γ : Gm} {σ : St} {r : Int32} {σ' : St} (h : f_X3_becomeLike_v1 σ = some (r, σ')) : MetV l yX3_becomeLike cX3_becomeLike 2 4 Γ σ [.ref (Γ.1 1), .ref (Γ.1 14)] σ' := by
  intro sz
  refine met_in (by decide) (Nat.le_of_ble_eq_true rfl) (fun p e s m args below meth c ls X hsz M hl => ?_)
  subst hsz
  have X : Cx p s m args meth c cX3_becomeLike RX3 2 none Γ := X
  have hl : lv_has ls 2 [(0, .ref (Γ.1 1)), (1, .ref (Γ.1 14))] := hl
  unfold f_X3_becomeLike_v1 at h
  refine lv_aload_n X.x X.b dX3_becomeLike_0 rfl (lv_at hl 0 rfl) ?_
  refine lv_aload_n X.x X.b dX3_becomeLike_1 rfl (lv_at hl 1 rfl) ?_
  refine r_get X M hq_14 (el_14 _ _) rfl inX3 1 (by decide) q55 rfl rfl dX3_becomeLike_2 ?_
  obtain ⟨σ1, e1, h⟩ := ol_e h
  refine r_put (x := (σ 14 1)) (ty := .int) X M hq_1 (el_1 _ _) rfl inX3 tyX3_ok nmX3 1 (by decide) q55 rfl rfl rfl rfl rfl (Nat.le_of_ble_eq_true rfl) (pf_1_1 _ _ _) dX3_becomeLike_5 (fun H locs M => ?_)
  rw [← e1] at M
  refine lv_aload_n X.x X.b dX3_becomeLike_8 rfl (lv_at hl 0 rfl) ?_
  refine lv_aload_n X.x X.b dX3_becomeLike_9 rfl (lv_at hl 1 rfl) ?_
  refine r_get X M hq_14 (el_14 _ _) rfl inX3 2 (by decide) q57 rfl rfl dX3_becomeLike_10 ?_
  obtain ⟨σ2, e2, h⟩ := ol_e h
  refine r_put (x := (σ1 14 2)) (ty := .int) X M hq_1 (el_1 _ _) rfl inX3 tyX3_ok nmX3 2 (by decide) q57 rfl rfl rfl rfl rfl (Nat.le_of_ble_eq_true rfl) (pf_1_2 _ _ _) dX3_becomeLike_13 (fun H locs M => ?_)
  rw [← e2] at M
  refine lv_aload_n X.x X.b dX3_becomeLike_16 rfl (lv_at hl 0 rfl) ?_
  refine lv_aload_n X.x X.b dX3_becomeLike_17 rfl (lv_at hl 1 rfl) ?_
  refine r_get X M hq_14 (el_14 _ _) rfl inX3 3 (by decide) q59 rfl rfl dX3_becomeLike_18 ?_
  obtain ⟨σ3, e3, h⟩ := ol_e h
  refine r_put (x := (σ2 14 3)) (ty := .int) X M hq_1 (el_1 _ _) rfl inX3 tyX3_ok nmX3 3 (by decide) q59 rfl rfl rfl rfl rfl (Nat.le_of_ble_eq_true rfl) (pf_1_3 _ _ _) dX3_becomeLike_21 (fun H locs M => ?_)
  rw [← e3] at M
  refine lv_aload_n X.x X.b dX3_becomeLike_24 rfl (lv_at hl 0 rfl) ?_
  refine lv_aload_n X.x X.b dX3_becomeLike_25 rfl (lv_at hl 1 rfl) ?_
  refine r_get X M hq_14 (el_14 _ _) rfl inX3 4 (by decide) q61 rfl rfl dX3_becomeLike_26 ?_
  obtain ⟨σ4, e4, h⟩ := ol_e h
  refine r_put (x := (σ3 14 4)) (ty := .int) X M hq_1 (el_1 _ _) rfl inX3 tyX3_ok nmX3 4 (by decide) q61 rfl rfl rfl rfl rfl (Nat.le_of_ble_eq_true rfl) (pf_1_4 _ _ _) dX3_becomeLike_29 (fun H locs M => ?_)
  rw [← e4] at M
  refine lv_aload_n X.x X.b dX3_becomeLike_32 rfl (lv_at hl 0 rfl) ?_
  refine lv_aload_n X.x X.b dX3_becomeLike_33 rfl (lv_at hl 1 rfl) ?_
  refine r_get X M hq_14 (el_14 _ _) rfl inX3 5 (by decide) q63 rfl rfl dX3_becomeLike_34 ?_
  obtain ⟨σ5, e5, h⟩ := ol_e h
  refine r_put (x := (σ4 14 5)) (ty := .int) X M hq_1 (el_1 _ _) rfl inX3 tyX3_ok nmX3 5 (by decide) q63 rfl rfl rfl rfl rfl (Nat.le_of_ble_eq_true rfl) (pf_1_5 _ _ _) dX3_becomeLike_37 (fun H locs M => ?_)
  rw [← e5] at M
  refine lv_aload_n X.x X.b dX3_becomeLike_40 rfl (lv_at hl 1 rfl) ?_
  refine r_get X M hq_14 (el_14 _ _) rfl inX3 6 (by decide) q65 rfl rfl dX3_becomeLike_41 ?_
  refine lv_iconst (v := 0) X.x X.b dX3_becomeLike_44 (by decide) ?_
  refine lv_aload_n X.x X.b dX3_becomeLike_45 rfl (lv_at hl 0 rfl) ?_
  refine r_get X M hq_1 (el_1 _ _) rfl inX3 6 (by decide) q65 rfl rfl dX3_becomeLike_46 ?_
  refine lv_iconst (v := 0) X.x X.b dX3_becomeLike_49 (by decide) ?_
  refine lv_bipush (v := 10) X.x X.b dX3_becomeLike_50 (by decide) ?_
  obtain ⟨c6, h⟩ := it_n h
  obtain ⟨σ7, e7, h⟩ := ol_e h
  refine r_copy (q1 := 22) (q2 := 9) (n1 := 10) (n2 := 10) X M rfl rfl (lv_sub hl [] rfl) ⟨by decide, by decide⟩ c6 q232 q234 q233 q9 (by decide) (Nat.le_of_ble_eq_true rfl) dX3_becomeLike_52 (fun H locs M => ?_)
  rw [← e7] at M
  refine lv_aload_n X.x X.b dX3_becomeLike_55 rfl (lv_at hl 1 rfl) ?_
  refine r_get X M hq_14 (el_14 _ _) rfl inX3 7 (by decide) q66 rfl rfl dX3_becomeLike_56 ?_
  refine lv_iconst (v := 0) X.x X.b dX3_becomeLike_59 (by decide) ?_
  refine lv_aload_n X.x X.b dX3_becomeLike_60 rfl (lv_at hl 0 rfl) ?_
  refine r_get X M hq_1 (el_1 _ _) rfl inX3 7 (by decide) q66 rfl rfl dX3_becomeLike_61 ?_
  refine lv_iconst (v := 0) X.x X.b dX3_becomeLike_64 (by decide) ?_
  refine lv_bipush (v := 10) X.x X.b dX3_becomeLike_65 (by decide) ?_
  obtain ⟨c8, h⟩ := it_n h
  obtain ⟨σ9, e9, h⟩ := ol_e h
  refine r_copy (q1 := 23) (q2 := 10) (n1 := 10) (n2 := 10) X M rfl rfl (lv_sub hl [] rfl) ⟨by decide, by decide⟩ c8 q232 q234 q233 q9 (by decide) (Nat.le_of_ble_eq_true rfl) dX3_becomeLike_67 (fun H locs M => ?_)
  rw [← e9] at M
  refine lv_aload_n X.x X.b dX3_becomeLike_70 rfl (lv_at hl 1 rfl) ?_
  refine r_get X M hq_14 (el_14 _ _) rfl inX3 8 (by decide) q67 rfl rfl dX3_becomeLike_71 ?_
  refine lv_iconst (v := 0) X.x X.b dX3_becomeLike_74 (by decide) ?_
  refine lv_aload_n X.x X.b dX3_becomeLike_75 rfl (lv_at hl 0 rfl) ?_
  refine r_get X M hq_1 (el_1 _ _) rfl inX3 8 (by decide) q67 rfl rfl dX3_becomeLike_76 ?_
  refine lv_iconst (v := 0) X.x X.b dX3_becomeLike_79 (by decide) ?_
  refine lv_bipush (v := 10) X.x X.b dX3_becomeLike_80 (by decide) ?_
  obtain ⟨c10, h⟩ := it_n h
  obtain ⟨σ11, e11, h⟩ := ol_e h
  refine r_copy (q1 := 24) (q2 := 11) (n1 := 10) (n2 := 10) X M rfl rfl (lv_sub hl [] rfl) ⟨by decide, by decide⟩ c10 q232 q234 q233 q9 (by decide) (Nat.le_of_ble_eq_true rfl) dX3_becomeLike_82 (fun H locs M => ?_)
  rw [← e11] at M
  refine lv_aload_n X.x X.b dX3_becomeLike_85 rfl (lv_at hl 1 rfl) ?_
  refine r_get X M hq_14 (el_14 _ _) rfl inX3 9 (by decide) q68 rfl rfl dX3_becomeLike_86 ?_
  refine lv_iconst (v := 0) X.x X.b dX3_becomeLike_89 (by decide) ?_
  refine lv_aload_n X.x X.b dX3_becomeLike_90 rfl (lv_at hl 0 rfl) ?_
  refine r_get X M hq_1 (el_1 _ _) rfl inX3 9 (by decide) q68 rfl rfl dX3_becomeLike_91 ?_
  refine lv_iconst (v := 0) X.x X.b dX3_becomeLike_94 (by decide) ?_
  refine lv_bipush (v := 10) X.x X.b dX3_becomeLike_95 (by decide) ?_
  obtain ⟨c12, h⟩ := it_n h
  obtain ⟨σ13, e13, h⟩ := ol_e h
  refine r_copy (q1 := 25) (q2 := 12) (n1 := 10) (n2 := 10) X M rfl rfl (lv_sub hl [] rfl) ⟨by decide, by decide⟩ c12 q232 q234 q233 q9 (by decide) (Nat.le_of_ble_eq_true rfl) dX3_becomeLike_97 (fun H locs M => ?_)
  rw [← e13] at M
  refine lv_aload_n X.x X.b dX3_becomeLike_100 rfl (lv_at hl 1 rfl) ?_
  refine r_get X M hq_14 (el_14 _ _) rfl inX3 10 (by decide) q69 rfl rfl dX3_becomeLike_101 ?_
  refine lv_iconst (v := 0) X.x X.b dX3_becomeLike_104 (by decide) ?_
  refine lv_aload_n X.x X.b dX3_becomeLike_105 rfl (lv_at hl 0 rfl) ?_
  refine r_get X M hq_1 (el_1 _ _) rfl inX3 10 (by decide) q69 rfl rfl dX3_becomeLike_106 ?_
  refine lv_iconst (v := 0) X.x X.b dX3_becomeLike_109 (by decide) ?_
  refine lv_bipush (v := 24) X.x X.b dX3_becomeLike_110 (by decide) ?_
  obtain ⟨c14, h⟩ := it_n h
  obtain ⟨σ15, e15, h⟩ := ol_e h
  refine r_copy (q1 := 26) (q2 := 13) (n1 := 24) (n2 := 24) X M rfl rfl (lv_sub hl [] rfl) ⟨by decide, by decide⟩ c14 q232 q234 q233 q9 (by decide) (Nat.le_of_ble_eq_true rfl) dX3_becomeLike_112 (fun H locs M => ?_)
  rw [← e15] at M
  refine lv_aload_n X.x X.b dX3_becomeLike_115 rfl (lv_at hl 0 rfl) ?_
  refine r_get X M hq_1 (el_1 _ _) rfl inX3 0 (by decide) q52 rfl rfl dX3_becomeLike_116 ?_
  refine lv_aload_n X.x X.b dX3_becomeLike_119 rfl (lv_at hl 1 rfl) ?_
  refine r_get X M hq_14 (el_14 _ _) rfl inX3 0 (by decide) q52 rfl rfl dX3_becomeLike_120 ?_
  obtain ⟨r16, σ16, h16, h⟩ := ob_e h
  refine r_runV M (r_callV (As := [.ref (Γ.1 15)]) X M (lv_sub hl [] rfl) (T_X0_becomeLike_v1 h16 _) cal_X0_becomeLike q689 ⟨by decide, by decide⟩ hq_2 (el_2 _ _) rfl rfl rfl (Nat.le_of_ble_eq_true rfl) ⟨Nat.le_refl _, Nat.le_refl _⟩ dX3_becomeLike_123) (fun H locs M => ?_)
  clear h16
  exact r_vret X M h dX3_becomeLike_126
/-- StreetNumbers.restore()I -/
def f_X6_restore (σ : St) : Rs :=
  if (σ 0 7) = 0 then (
    ob (f_X6_failing 2 σ) fun r2 σ2 => (
    some (r2, σ2))
  ) else (
    ob (f_X3_becomeLike_v1 σ) fun _ σ1 => (
    some ((σ1 1 2), σ1))
  )
set_option maxRecDepth 100000 in
set_option maxHeartbeats 4000000 in
theorem T_X6_restore {l : Launch} {Γ : Gm} {σ : St} {r : Int32} {σ' : St} (h : f_X6_restore σ = some (r, σ')) : MetI l yX6_restore cX6_restore 1 .int 5 Γ σ [.ref (Γ.1 0)] r σ' := by
  intro sz
  refine met_in (by decide) (Nat.le_of_ble_eq_true rfl) (fun p e s m args below meth c ls X hsz M hl => ?_)
  subst hsz
  have X : Cx p s m args meth c cX6_restore RX6 1 (some .int) Γ := X
  have hl : lv_has ls 1 [(0, .ref (Γ.1 0))] := hl
  unfold f_X6_restore at h
  refine lv_aload_n X.x X.b dX6_restore_0 rfl (lv_at hl 0 rfl) ?_
  refine r_get X M hq_0 (el_0 _ _) rfl inX6 7 (by decide) q195 rfl rfl dX6_restore_1 ?_
  refine lv_if_ne (tgt := 13) X.x X.b dX6_restore_4 (by decide) (fun c3 => ?_) (fun c3 => ?_)
  · have h := it_f c3 h
    refine lv_aload_n X.x X.b dX6_restore_13 rfl (lv_at hl 0 rfl) ?_
    refine r_get X M hq_0 (el_0 _ _) rfl inX6 0 (by decide) q188 rfl rfl dX6_restore_14 ?_
    refine lv_aload_n X.x X.b dX6_restore_17 rfl (lv_at hl 0 rfl) ?_
    refine r_get X M hq_0 (el_0 _ _) rfl inX6 1 (by decide) q189 rfl rfl dX6_restore_18 ?_
    obtain ⟨r1, σ1, h1, h⟩ := ob_e h
    refine r_runV M (r_callV (As := [.ref (Γ.1 14)]) X M (lv_sub hl [] rfl) (T_X3_becomeLike_v1 h1 _) cal_X3_becomeLike q685 ⟨by decide, by decide⟩ hq_1 (el_1 _ _) rfl rfl rfl (Nat.le_of_ble_eq_true rfl) ⟨Nat.le_refl _, Nat.le_refl _⟩ dX6_restore_21) (fun H locs M => ?_)
    clear h1
    refine lv_aload_n X.x X.b dX6_restore_24 rfl (lv_at hl 0 rfl) ?_
    refine r_get X M hq_0 (el_0 _ _) rfl inX6 0 (by decide) q188 rfl rfl dX6_restore_25 ?_
    refine r_get X M hq_1 (el_1 _ _) rfl inX3 2 (by decide) q58 rfl rfl dX6_restore_28 ?_
    exact r_iret X M rfl h dX6_restore_31
  · have h := it_t c3 h
    refine lv_aload_n X.x X.b dX6_restore_7 rfl (lv_at hl 0 rfl) ?_
    refine lv_iconst (v := 2) X.x X.b dX6_restore_8 (by decide) ?_
    obtain ⟨r2, σ2, h2, h⟩ := ob_e h
    refine r_runI M (r_callV (As := [.int 2]) X M (lv_sub hl [] rfl) (T_X6_failing h2 _) cal_X6_failing q223 ⟨by decide, by decide⟩ hq_0 (el_0 _ _) rfl rfl rfl (Nat.le_of_ble_eq_true rfl) ⟨Nat.le_refl _, Nat.le_refl _⟩ dX6_restore_9) (fun H locs M => ?_)
    clear h2
    exact r_iret X M rfl h dX6_restore_12
def f_X6_search_b16 (σ : St) : Rs :=
  ob (f_X6_failing 1 σ) fun r1 σ1 => (
  some (r1, σ1))
set_option maxRecDepth 100000 in
set_option maxHeartbeats 4000000 in
theorem u_X6_search_b16 {l : Launch} {Γ : Gm} {p : Program} {e : Env} {s : State} {m : MethodId} {args : Array Value} {below : List Frame} {meth : Method} {c : Code} {r : Int32} {σ' : St} (X : Cx p s m args meth c cX6_search RX6 4 (some .int) Γ) (σ : St) (H : Heap) (locs : List Loc) (ls : Array Slot) (h : f_X6_search_b16 σ = some (r, σ')) (M : Mv Γ σ s H locs) (hl : lv_has ls 4 [(0, .ref (Γ.1 0))]) : W p l e (rmd 5) s m args below meth c H locs 0 0 (MQ below (Qi Γ r σ' s.heap.size) args s 0 0 (Rg Γ s.heap.size)) (F0 m 16 ls []) := by
  unfold f_X6_search_b16 at h
  refine lv_aload_n X.x X.b dX6_search_16 rfl (lv_at hl 0 rfl) ?_
  refine lv_iconst (v := 1) X.x X.b dX6_search_17 (by decide) ?_
  obtain ⟨r1, σ1, h1, h⟩ := ob_e h
  refine r_runI M (r_callV (As := [.int 1]) X M (lv_sub hl [] rfl) (T_X6_failing h1 _) cal_X6_failing q223 ⟨by decide, by decide⟩ hq_0 (el_0 _ _) rfl rfl rfl (Nat.le_of_ble_eq_true rfl) ⟨Nat.le_refl _, Nat.le_refl _⟩ dX6_search_18) (fun H locs M => ?_)
  clear h1
  exact r_iret X M rfl h dX6_search_21
/-- StreetNumbers.search(II)I -/
def f_X6_search (x1 : Int32) (x2 : Int32) (σ : St) : Rs :=
  ob (f_X6_isPlate x1 σ) fun r1 σ1 => (
  if r1 = 0 then (
    f_X6_search_b16 σ1
  ) else (
    if x2 < 0 then (
      f_X6_search_b16 σ1
    ) else (
      if x2 ≤ 1 then (
        ob (f_X4_placeFound x1 σ1) fun r2 σ2 => (
        if x2 = 1 then (
          some ((σ2 30 0), σ2)
        ) else (
          if 0 ≤ r2 then (
            ob (f_X3_houseAt r2 σ2) fun r3 σ3 => (
            some (r3, σ3))
          ) else (
            ob (f_X6_failing 2 σ2) fun r4 σ4 => (
            some (r4, σ4))
          )
        ))
      ) else (
        f_X6_search_b16 σ1
      )
    )
  ))
set_option maxRecDepth 100000 in
set_option maxHeartbeats 4000000 in
theorem T_X6_search {l : Launch} {Γ : Gm} {x1 : Int32} {x2 : Int32} {σ : St} {r : Int32} {σ' : St} (h : f_X6_search x1 x2 σ = some (r, σ')) : MetI l yX6_search cX6_search 4 .int 5 Γ σ [.ref (Γ.1 0), .int x1, .int x2] r σ' := by
  intro sz
  refine met_in (by decide) (Nat.le_of_ble_eq_true rfl) (fun p e s m args below meth c ls X hsz M hl => ?_)
  subst hsz
  have X : Cx p s m args meth c cX6_search RX6 4 (some .int) Γ := X
  have hl : lv_has ls 4 [(0, .ref (Γ.1 0)), (1, .int x1), (2, .int x2)] := hl
  unfold f_X6_search at h
  refine lv_iload_n X.x X.b dX6_search_0 rfl (lv_at hl 1 rfl) ?_
  obtain ⟨r1, σ1, h1, h⟩ := ob_e h
  refine r_runI M (r_callS (As := [.int x1]) X M (lv_sub hl [] rfl) (T_X6_isPlate h1 _) cal_X6_isPlate q220 ⟨by decide, by decide⟩ rfl rfl (Nat.le_of_ble_eq_true rfl) ⟨Nat.le_refl _, Nat.le_refl _⟩ dX6_search_1) (fun H locs M => ?_)
  clear h1
  refine lv_if_eq (tgt := 16) X.x X.b dX6_search_4 (by decide) (fun c9 => ?_) (fun c9 => ?_)
  · have h := it_t c9 h
    exact u_X6_search_b16 X σ1 _ _ _ h M (lv_sub hl [0] rfl)
  · have h := it_f c9 h
    refine lv_iload_n X.x X.b dX6_search_7 rfl (lv_at hl 2 rfl) ?_
    refine lv_if_lt (tgt := 16) X.x X.b dX6_search_8 (by decide) (fun c8 => ?_) (fun c8 => ?_)
    · have h := it_t c8 h
      exact u_X6_search_b16 X σ1 _ _ _ h M (lv_sub hl [0] rfl)
    · have h := it_f c8 h
      refine lv_iload_n X.x X.b dX6_search_11 rfl (lv_at hl 2 rfl) ?_
      refine lv_iconst (v := 1) X.x X.b dX6_search_12 (by decide) ?_
      refine lv_icmp_le (tgt := 22) X.x X.b dX6_search_13 (by decide) (fun c7 => ?_) (fun c7 => ?_)
      · have h := it_t c7 h
        refine lv_aload_n X.x X.b dX6_search_22 rfl (lv_at hl 0 rfl) ?_
        refine r_get X M hq_0 (el_0 _ _) rfl inX6 3 (by decide) q191 rfl rfl dX6_search_23 ?_
        refine lv_aload_n X.x X.b dX6_search_26 rfl (lv_at hl 0 rfl) ?_
        refine r_get X M hq_0 (el_0 _ _) rfl inX6 0 (by decide) q188 rfl rfl dX6_search_27 ?_
        refine lv_iload_n X.x X.b dX6_search_30 rfl (lv_at hl 1 rfl) ?_
        obtain ⟨r2, σ2, h2, h⟩ := ob_e h
        refine r_runI M (r_callV (As := [.ref (Γ.1 1), .int x1]) X M (lv_sub hl [] rfl) (T_X4_placeFound h2 _) cal_X4_placeFound q514 ⟨by decide, by decide⟩ hq_30 (el_30 _ _) rfl rfl rfl (Nat.le_of_ble_eq_true rfl) ⟨Nat.le_refl _, Nat.le_refl _⟩ dX6_search_31) (fun H locs M => ?_)
        clear h2
        refine lv_istore_n (lv' := [(3, .int r2), (0, .ref (Γ.1 0)), (1, .int x1), (2, .int x2)]) X.x X.b dX6_search_34 rfl hl (by decide) rfl (fun ls hl => ?_)
        refine lv_iload_n X.x X.b dX6_search_35 rfl (lv_at hl 3 rfl) ?_
        refine lv_iconst (v := 1) X.x X.b dX6_search_36 (by decide) ?_
        refine lv_icmp_ne (tgt := 48) X.x X.b dX6_search_37 (by decide) (fun c6 => ?_) (fun c6 => ?_)
        · have h := it_f c6 h
          refine lv_iload_n X.x X.b dX6_search_48 rfl (lv_at hl 0 rfl) ?_
          refine lv_if_ge (tgt := 60) X.x X.b dX6_search_49 (by decide) (fun c5 => ?_) (fun c5 => ?_)
          · have h := it_t c5 h
            refine lv_aload_n X.x X.b dX6_search_60 rfl (lv_at hl 1 rfl) ?_
            refine r_get X M hq_0 (el_0 _ _) rfl inX6 0 (by decide) q188 rfl rfl dX6_search_61 ?_
            refine lv_iload_n X.x X.b dX6_search_64 rfl (lv_at hl 0 rfl) ?_
            obtain ⟨r3, σ3, h3, h⟩ := ob_e h
            refine r_runI M (r_callV (As := [.int r2]) X M (lv_sub hl [] rfl) (T_X3_houseAt h3 _) cal_X3_houseAt q318 ⟨by decide, by decide⟩ hq_1 (el_1 _ _) rfl rfl rfl (Nat.le_of_ble_eq_true rfl) ⟨Nat.le_refl _, Nat.le_refl _⟩ dX6_search_65) (fun H locs M => ?_)
            clear h3
            exact r_iret X M rfl h dX6_search_68
          · have h := it_f c5 h
            refine lv_aload_n X.x X.b dX6_search_52 rfl (lv_at hl 1 rfl) ?_
            refine lv_iconst (v := 2) X.x X.b dX6_search_53 (by decide) ?_
            obtain ⟨r4, σ4, h4, h⟩ := ob_e h
            refine r_runI M (r_callV (As := [.int 2]) X M (lv_sub hl [] rfl) (T_X6_failing h4 _) cal_X6_failing q223 ⟨by decide, by decide⟩ hq_0 (el_0 _ _) rfl rfl rfl (Nat.le_of_ble_eq_true rfl) ⟨Nat.le_refl _, Nat.le_refl _⟩ dX6_search_54) (fun H locs M => ?_)
            clear h4
            refine lv_goto (tgt := 68) X.x X.b dX6_search_57 (by decide) ?_
            exact r_iret X M rfl h dX6_search_68
        · have h := it_t c6 h
          refine lv_aload_n X.x X.b dX6_search_40 rfl (lv_at hl 1 rfl) ?_
          refine r_get X M hq_0 (el_0 _ _) rfl inX6 3 (by decide) q191 rfl rfl dX6_search_41 ?_
          refine r_get X M hq_30 (el_30 _ _) rfl inX4 0 (by decide) q128 rfl rfl dX6_search_44 ?_
          exact r_iret X M rfl h dX6_search_47
      · have h := it_f c7 h
        exact u_X6_search_b16 X σ1 _ _ _ h M (lv_sub hl [0] rfl)
/-- StreetNumbers.seed(I)I -/
def f_X6_seed (x1 : Int32) (σ : St) : Rs :=
  ol (st σ 1 4 x1) fun σ1 => (
  some ((σ 1 4), σ1))
set_option maxRecDepth 100000 in
set_option maxHeartbeats 4000000 in
theorem T_X6_seed {l : Launch} {Γ : Gm} {x1 : Int32} {σ : St} {r : Int32} {σ' : St} (h : f_X6_seed x1 σ = some (r, σ')) : MetI l yX6_seed cX6_seed 3 .int 1 Γ σ [.ref (Γ.1 0), .int x1] r σ' := by
  intro sz
  refine met_in (by decide) (Nat.le_of_ble_eq_true rfl) (fun p e s m args below meth c ls X hsz M hl => ?_)
  subst hsz
  have X : Cx p s m args meth c cX6_seed RX6 3 (some .int) Γ := X
  have hl : lv_has ls 3 [(0, .ref (Γ.1 0)), (1, .int x1)] := hl
  unfold f_X6_seed at h
  refine lv_aload_n X.x X.b dX6_seed_0 rfl (lv_at hl 0 rfl) ?_
  refine r_get X M hq_0 (el_0 _ _) rfl inX6 0 (by decide) q188 rfl rfl dX6_seed_1 ?_
  refine r_get X M hq_1 (el_1 _ _) rfl inX3 4 (by decide) q62 rfl rfl dX6_seed_4 ?_
  refine lv_istore_n (lv' := [(2, .int (σ 1 4)), (0, .ref (Γ.1 0)), (1, .int x1)]) X.x X.b dX6_seed_7 rfl hl (by decide) rfl (fun ls hl => ?_)
  refine lv_aload_n X.x X.b dX6_seed_8 rfl (lv_at hl 1 rfl) ?_
  refine r_get X M hq_0 (el_0 _ _) rfl inX6 0 (by decide) q188 rfl rfl dX6_seed_9 ?_
  refine lv_iload_n X.x X.b dX6_seed_12 rfl (lv_at hl 2 rfl) ?_
  obtain ⟨σ1, e1, h⟩ := ol_e h
  refine r_put (x := x1) (ty := .int) X M hq_1 (el_1 _ _) rfl inX3 tyX3_ok nmX3 4 (by decide) q62 rfl rfl rfl rfl rfl (Nat.le_of_ble_eq_true rfl) (pf_1_4 _ _ _) dX6_seed_13 (fun H locs M => ?_)
  rw [← e1] at M
  refine lv_iload_n X.x X.b dX6_seed_16 rfl (lv_at hl 0 rfl) ?_
  exact r_iret X M rfl h dX6_seed_17
def f_X2_renew_b31 (k31 : (Int32 → Int32 → St → Rs)) (x1 : Int32) (x4 : Int32) (σ : St) : Rs :=
  if 24 ≤ x4 then (
    some (0, σ)
  ) else (
    if inb x1 4 then (
    if inb x4 24 then (
    ol (st σ (59 + x1.toNatClampNeg) x4.toNatClampNeg 0) fun σ3 => (
    k31 x1 (x4 + 1) σ3)) else none) else none
  )
set_option maxRecDepth 100000 in
set_option maxHeartbeats 4000000 in
theorem u_X2_renew_b31 {l : Launch} {Γ : Gm} {p : Program} {e : Env} {s : State} {m : MethodId} {args : Array Value} {below : List Frame} {meth : Method} {c : Code} {r : Int32} {σ' : St} {k31 : Int32 → Int32 → St → Rs} (X : Cx p s m args meth c cX2_renew RX2 5 none Γ) (H31 : ∀ (x1 : Int32) (x4 : Int32) (σ : St) (H : Heap) (locs : List Loc) (ls : Array Slot), k31 x1 x4 σ = some (r, σ') → Mv Γ σ s H locs → lv_has ls 5 [(0, .ref (Γ.1 57)), (1, .int x1), (4, .int x4)] → W p l e (rmd 3) s m args below meth c H locs 0 0 (MQ below (Qv Γ σ' s.heap.size) args s 0 0 (Rg Γ s.heap.size)) (F0 m 31 ls [])) (x1 : Int32) (x4 : Int32) (σ : St) (H : Heap) (locs : List Loc) (ls : Array Slot) (h : f_X2_renew_b31 k31 x1 x4 σ = some (r, σ')) (M : Mv Γ σ s H locs) (hl : lv_has ls 5 [(0, .ref (Γ.1 57)), (1, .int x1), (4, .int x4)]) : W p l e (rmd 3) s m args below meth c H locs 0 0 (MQ below (Qv Γ σ' s.heap.size) args s 0 0 (Rg Γ s.heap.size)) (F0 m 31 ls []) := by
  unfold f_X2_renew_b31 at h
  refine lv_iload X.x X.b dX2_renew_31 (lv_at hl 2 rfl) ?_
  refine lv_bipush (v := 24) X.x X.b dX2_renew_33 (by decide) ?_
  refine lv_icmp_ge (tgt := 54) X.x X.b dX2_renew_35 (by decide) (fun c4 => ?_) (fun c4 => ?_)
  · have h := it_t c4 h
    exact r_vret X M h dX2_renew_54
  · have h := it_f c4 h
    refine lv_aload_n X.x X.b dX2_renew_38 rfl (lv_at hl 0 rfl) ?_
    refine r_get X M hq_57 (el_57 _ _) rfl inX2 0 (by decide) q178 rfl rfl dX2_renew_39 ?_
    refine lv_iload_n X.x X.b dX2_renew_42 rfl (lv_at hl 1 rfl) ?_
    obtain ⟨c1, h⟩ := it_n h
    refine r_aald X M hq_58 (el_58 _ _) c1 dX2_renew_43 ?_
    refine lv_iload X.x X.b dX2_renew_44 (lv_at hl 2 rfl) ?_
    refine lv_iconst (v := 0) X.x X.b dX2_renew_46 (by decide) ?_
    obtain ⟨c2, h⟩ := it_n h
    obtain ⟨σ3, e3, h⟩ := ol_e h
    refine r_iast (q := (59 + x1.toNatClampNeg)) (n := 24) X M (al_58 _ (in_lt c1)) c2 dX2_renew_47 (fun H locs M => ?_)
    rw [← e3] at M
    refine lv_iinc (v := (x4 + 1)) (lv' := [(4, .int (x4 + 1)), (0, .ref (Γ.1 57)), (1, .int x1)]) X.x X.b dX2_renew_48 hl (k := 2) rfl rfl (by decide) rfl (fun ls hl => ?_)
    refine lv_goto (tgt := 31) X.x X.b dX2_renew_51 (by decide) ?_
    exact H31 x1 (x4 + 1) σ3 _ _ _ h M (lv_sub hl [1, 2, 0] rfl)
def f_X2_renew_L31 : Nat → Int32 → Int32 → St → Rs
  | 0 => fun _ _ _ => none
  | n + 1 => fun x1 x4 σ => f_X2_renew_b31 (f_X2_renew_L31 n) x1 x4 σ
theorem u_X2_renew_L31 {l : Launch} {Γ : Gm} {p : Program} {e : Env} {s : State} {m : MethodId} {args : Array Value} {below : List Frame} {meth : Method} {c : Code} {r : Int32} {σ' : St} (X : Cx p s m args meth c cX2_renew RX2 5 none Γ) : ∀ (n : Nat) (x1 : Int32) (x4 : Int32) (σ : St) (H : Heap) (locs : List Loc) (ls : Array Slot), f_X2_renew_L31 n x1 x4 σ = some (r, σ') → Mv Γ σ s H locs → lv_has ls 5 [(0, .ref (Γ.1 57)), (1, .int x1), (4, .int x4)] → W p l e (rmd 3) s m args below meth c H locs 0 0 (MQ below (Qv Γ σ' s.heap.size) args s 0 0 (Rg Γ s.heap.size)) (F0 m 31 ls []) := by
  intro n
  induction n with
  | zero => intro x1 x4 σ H locs ls h; cases h
  | succ n ih => intro x1 x4 σ H locs ls h; exact u_X2_renew_b31 X  ih x1 x4 σ H locs ls h
/-- StreetNumbers$Sheets.renew(III)V -/
def f_X2_renew (x1 : Int32) (x2 : Int32) (x3 : Int32) (σ : St) : Rs :=
  ob (f_X6_isSheet x1 σ) fun r1 σ1 => (
  if r1 = 0 then (
    some (0, σ1)
  ) else (
    if inb x1 4 then (
    ol (st σ1 63 x1.toNatClampNeg x2) fun σ3 => (
    ob (f_X6_held x3 0 24 σ3) fun r4 σ4 => (
    if inb x1 4 then (
    ol (st σ4 64 x1.toNatClampNeg r4) fun σ6 => (
    f_X2_renew_L31 LF x1 0 σ6)) else none))) else none
  ))
set_option maxRecDepth 100000 in
set_option maxHeartbeats 4000000 in
theorem T_X2_renew {l : Launch} {Γ : Gm} {x1 : Int32} {x2 : Int32} {x3 : Int32} {σ : St} {r : Int32} {σ' : St} (h : f_X2_renew x1 x2 x3 σ = some (r, σ')) : MetV l yX2_renew cX2_renew 5 3 Γ σ [.ref (Γ.1 57), .int x1, .int x2, .int x3] σ' := by
  intro sz
  refine met_in (by decide) (Nat.le_of_ble_eq_true rfl) (fun p e s m args below meth c ls X hsz M hl => ?_)
  subst hsz
  have X : Cx p s m args meth c cX2_renew RX2 5 none Γ := X
  have hl : lv_has ls 5 [(0, .ref (Γ.1 57)), (1, .int x1), (2, .int x2), (3, .int x3)] := hl
  unfold f_X2_renew at h
  refine lv_iload_n X.x X.b dX2_renew_0 rfl (lv_at hl 1 rfl) ?_
  obtain ⟨r1, σ1, h1, h⟩ := ob_e h
  refine r_runI M (r_callSN (As := [.int x1]) (host := "StreetNumbers") X M (lv_sub hl [] rfl) (T_X6_isSheet h1 _) cal_X6_isSheet nst_X2_21 ⟨by decide, by decide⟩ rfl rfl (Nat.le_of_ble_eq_true rfl) ⟨Nat.le_refl _, Nat.le_refl _⟩ dX2_renew_1) (fun H locs M => ?_)
  clear h1
  refine lv_if_ne (tgt := 8) X.x X.b dX2_renew_4 (by decide) (fun c7 => ?_) (fun c7 => ?_)
  · have h := it_f c7 h
    refine lv_aload_n X.x X.b dX2_renew_8 rfl (lv_at hl 0 rfl) ?_
    refine r_get X M hq_57 (el_57 _ _) rfl inX2 1 (by decide) q179 rfl rfl dX2_renew_9 ?_
    refine lv_iload_n X.x X.b dX2_renew_12 rfl (lv_at hl 1 rfl) ?_
    refine lv_iload_n X.x X.b dX2_renew_13 rfl (lv_at hl 2 rfl) ?_
    obtain ⟨c2, h⟩ := it_n h
    obtain ⟨σ3, e3, h⟩ := ol_e h
    refine r_iast (q := 63) (n := 4) X M rfl c2 dX2_renew_14 (fun H locs M => ?_)
    rw [← e3] at M
    refine lv_aload_n X.x X.b dX2_renew_15 rfl (lv_at hl 0 rfl) ?_
    refine r_get X M hq_57 (el_57 _ _) rfl inX2 2 (by decide) q180 rfl rfl dX2_renew_16 ?_
    refine lv_iload_n X.x X.b dX2_renew_19 rfl (lv_at hl 1 rfl) ?_
    refine lv_iload_n X.x X.b dX2_renew_20 rfl (lv_at hl 3 rfl) ?_
    refine lv_iconst (v := 0) X.x X.b dX2_renew_21 (by decide) ?_
    refine lv_bipush (v := 24) X.x X.b dX2_renew_22 (by decide) ?_
    obtain ⟨r4, σ4, h4, h⟩ := ob_e h
    refine r_runI M (r_callSN (As := [.int x3, .int 0, .int 24]) (host := "StreetNumbers") X M (lv_sub hl [] rfl) (T_X6_held h4 _) cal_X6_held nst_X2_38 ⟨by decide, by decide⟩ rfl rfl (Nat.le_of_ble_eq_true rfl) ⟨Nat.le_refl _, Nat.le_refl _⟩ dX2_renew_24) (fun H locs M => ?_)
    clear h4
    obtain ⟨c5, h⟩ := it_n h
    obtain ⟨σ6, e6, h⟩ := ol_e h
    refine r_iast (q := 64) (n := 4) X M rfl c5 dX2_renew_27 (fun H locs M => ?_)
    rw [← e6] at M
    refine lv_iconst (v := 0) X.x X.b dX2_renew_28 (by decide) ?_
    refine lv_istore (lv' := [(4, .int 0), (0, .ref (Γ.1 57)), (1, .int x1), (2, .int x2), (3, .int x3)]) X.x X.b dX2_renew_29 hl (by decide) rfl (fun ls hl => ?_)
    exact u_X2_renew_L31 X LF x1 0 σ6 _ _ _ h M (lv_sub hl [1, 2, 0] rfl)
  · have h := it_t c7 h
    exact r_vret X M h dX2_renew_7
def f_X6_sheet_b35 (x1 : Int32) (x2 : Int32) (x3 : Int32) (σ : St) : Rs :=
  if x2 = 0 then (
    ob (f_X2_renew x1 0 0 σ) fun _ σ6 => (
    some (1, σ6))
  ) else (
    if 0 ≤ x3 then (
      if x3 ≤ 24 then (
        ob (f_X2_renew x1 x2 x3 σ) fun _ σ1 => (
        some (1, σ1))
      ) else (
        ob (f_X6_failing 1 σ) fun r2 σ2 => (
        some (r2, σ2))
      )
    ) else (
      ob (f_X6_failing 3 σ) fun r4 σ4 => (
      some (r4, σ4))
    )
  )
set_option maxRecDepth 100000 in
set_option maxHeartbeats 4000000 in
theorem u_X6_sheet_b35 {l : Launch} {Γ : Gm} {p : Program} {e : Env} {s : State} {m : MethodId} {args : Array Value} {below : List Frame} {meth : Method} {c : Code} {r : Int32} {σ' : St} (X : Cx p s m args meth c cX6_sheet RX6 4 (some .int) Γ) (x1 : Int32) (x2 : Int32) (x3 : Int32) (σ : St) (H : Heap) (locs : List Loc) (ls : Array Slot) (h : f_X6_sheet_b35 x1 x2 x3 σ = some (r, σ')) (M : Mv Γ σ s H locs) (hl : lv_has ls 4 [(0, .ref (Γ.1 0)), (1, .int x1), (2, .int x2), (3, .int x3)]) : W p l e (rmd 4) s m args below meth c H locs 0 0 (MQ below (Qi Γ r σ' s.heap.size) args s 0 0 (Rg Γ s.heap.size)) (F0 m 35 ls []) := by
  unfold f_X6_sheet_b35 at h
  refine lv_iload_n X.x X.b dX6_sheet_35 rfl (lv_at hl 2 rfl) ?_
  refine lv_if_ne (tgt := 51) X.x X.b dX6_sheet_36 (by decide) (fun c7 => ?_) (fun c7 => ?_)
  · have h := it_f c7 h
    refine lv_iload_n X.x X.b dX6_sheet_51 rfl (lv_at hl 3 rfl) ?_
    refine lv_if_ge (tgt := 61) X.x X.b dX6_sheet_52 (by decide) (fun c5 => ?_) (fun c5 => ?_)
    · have h := it_t c5 h
      refine lv_iload_n X.x X.b dX6_sheet_61 rfl (lv_at hl 3 rfl) ?_
      refine lv_bipush (v := 24) X.x X.b dX6_sheet_62 (by decide) ?_
      refine lv_icmp_le (tgt := 73) X.x X.b dX6_sheet_64 (by decide) (fun c3 => ?_) (fun c3 => ?_)
      · have h := it_t c3 h
        refine lv_aload_n X.x X.b dX6_sheet_73 rfl (lv_at hl 0 rfl) ?_
        refine r_get X M hq_0 (el_0 _ _) rfl inX6 5 (by decide) q193 rfl rfl dX6_sheet_74 ?_
        refine lv_iload_n X.x X.b dX6_sheet_77 rfl (lv_at hl 1 rfl) ?_
        refine lv_iload_n X.x X.b dX6_sheet_78 rfl (lv_at hl 2 rfl) ?_
        refine lv_iload_n X.x X.b dX6_sheet_79 rfl (lv_at hl 3 rfl) ?_
        obtain ⟨r1, σ1, h1, h⟩ := ob_e h
        refine r_runV M (r_callV (As := [.int x1, .int x2, .int x3]) X M (lv_sub hl [] rfl) (T_X2_renew h1 _) cal_X2_renew q645 ⟨by decide, by decide⟩ hq_57 (el_57 _ _) rfl rfl rfl (Nat.le_of_ble_eq_true rfl) ⟨Nat.le_refl _, Nat.le_refl _⟩ dX6_sheet_80) (fun H locs M => ?_)
        clear h1
        refine lv_iconst (v := 1) X.x X.b dX6_sheet_83 (by decide) ?_
        exact r_iret X M rfl h dX6_sheet_84
      · have h := it_f c3 h
        refine lv_aload_n X.x X.b dX6_sheet_67 rfl (lv_at hl 0 rfl) ?_
        refine lv_iconst (v := 1) X.x X.b dX6_sheet_68 (by decide) ?_
        obtain ⟨r2, σ2, h2, h⟩ := ob_e h
        refine r_runI M (r_callV (As := [.int 1]) X M (lv_sub hl [] rfl) (T_X6_failing h2 _) cal_X6_failing q223 ⟨by decide, by decide⟩ hq_0 (el_0 _ _) rfl rfl rfl (Nat.le_of_ble_eq_true rfl) ⟨Nat.le_refl _, Nat.le_refl _⟩ dX6_sheet_69) (fun H locs M => ?_)
        clear h2
        exact r_iret X M rfl h dX6_sheet_72
    · have h := it_f c5 h
      refine lv_aload_n X.x X.b dX6_sheet_55 rfl (lv_at hl 0 rfl) ?_
      refine lv_iconst (v := 3) X.x X.b dX6_sheet_56 (by decide) ?_
      obtain ⟨r4, σ4, h4, h⟩ := ob_e h
      refine r_runI M (r_callV (As := [.int 3]) X M (lv_sub hl [] rfl) (T_X6_failing h4 _) cal_X6_failing q223 ⟨by decide, by decide⟩ hq_0 (el_0 _ _) rfl rfl rfl (Nat.le_of_ble_eq_true rfl) ⟨Nat.le_refl _, Nat.le_refl _⟩ dX6_sheet_57) (fun H locs M => ?_)
      clear h4
      exact r_iret X M rfl h dX6_sheet_60
  · have h := it_t c7 h
    refine lv_aload_n X.x X.b dX6_sheet_39 rfl (lv_at hl 0 rfl) ?_
    refine r_get X M hq_0 (el_0 _ _) rfl inX6 5 (by decide) q193 rfl rfl dX6_sheet_40 ?_
    refine lv_iload_n X.x X.b dX6_sheet_43 rfl (lv_at hl 1 rfl) ?_
    refine lv_iconst (v := 0) X.x X.b dX6_sheet_44 (by decide) ?_
    refine lv_iconst (v := 0) X.x X.b dX6_sheet_45 (by decide) ?_
    obtain ⟨r6, σ6, h6, h⟩ := ob_e h
    refine r_runV M (r_callV (As := [.int x1, .int 0, .int 0]) X M (lv_sub hl [] rfl) (T_X2_renew h6 _) cal_X2_renew q645 ⟨by decide, by decide⟩ hq_57 (el_57 _ _) rfl rfl rfl (Nat.le_of_ble_eq_true rfl) ⟨Nat.le_refl _, Nat.le_refl _⟩ dX6_sheet_46) (fun H locs M => ?_)
    clear h6
    refine lv_iconst (v := 1) X.x X.b dX6_sheet_49 (by decide) ?_
    exact r_iret X M rfl h dX6_sheet_50
/-- StreetNumbers.sheet(III)I -/
def f_X6_sheet (x1 : Int32) (x2 : Int32) (x3 : Int32) (σ : St) : Rs :=
  ob (f_X6_isSheet x1 σ) fun r1 σ1 => (
  if r1 = 0 then (
    ob (f_X6_failing 1 σ1) fun r2 σ2 => (
    some (r2, σ2))
  ) else (
    if x2 = 0 then (
      f_X6_sheet_b35 x1 x2 x3 σ1
    ) else (
      if x2 = 8 then (
        f_X6_sheet_b35 x1 x2 x3 σ1
      ) else (
        if x2 = 16 then (
          f_X6_sheet_b35 x1 x2 x3 σ1
        ) else (
          if x2 = 32 then (
            f_X6_sheet_b35 x1 x2 x3 σ1
          ) else (
            ob (f_X6_failing 1 σ1) fun r3 σ3 => (
            some (r3, σ3))
          )
        )
      )
    )
  ))
set_option maxRecDepth 100000 in
set_option maxHeartbeats 4000000 in
theorem T_X6_sheet {l : Launch} {Γ : Gm} {x1 : Int32} {x2 : Int32} {x3 : Int32} {σ : St} {r : Int32} {σ' : St} (h : f_X6_sheet x1 x2 x3 σ = some (r, σ')) : MetI l yX6_sheet cX6_sheet 4 .int 4 Γ σ [.ref (Γ.1 0), .int x1, .int x2, .int x3] r σ' := by
  intro sz
  refine met_in (by decide) (Nat.le_of_ble_eq_true rfl) (fun p e s m args below meth c ls X hsz M hl => ?_)
  subst hsz
  have X : Cx p s m args meth c cX6_sheet RX6 4 (some .int) Γ := X
  have hl : lv_has ls 4 [(0, .ref (Γ.1 0)), (1, .int x1), (2, .int x2), (3, .int x3)] := hl
  unfold f_X6_sheet at h
  refine lv_iload_n X.x X.b dX6_sheet_0 rfl (lv_at hl 1 rfl) ?_
  obtain ⟨r1, σ1, h1, h⟩ := ob_e h
  refine r_runI M (r_callS (As := [.int x1]) X M (lv_sub hl [] rfl) (T_X6_isSheet h1 _) cal_X6_isSheet q542 ⟨by decide, by decide⟩ rfl rfl (Nat.le_of_ble_eq_true rfl) ⟨Nat.le_refl _, Nat.le_refl _⟩ dX6_sheet_1) (fun H locs M => ?_)
  clear h1
  refine lv_if_eq (tgt := 29) X.x X.b dX6_sheet_4 (by decide) (fun c8 => ?_) (fun c8 => ?_)
  · have h := it_t c8 h
    refine lv_aload_n X.x X.b dX6_sheet_29 rfl (lv_at hl 0 rfl) ?_
    refine lv_iconst (v := 1) X.x X.b dX6_sheet_30 (by decide) ?_
    obtain ⟨r2, σ2, h2, h⟩ := ob_e h
    refine r_runI M (r_callV (As := [.int 1]) X M (lv_sub hl [] rfl) (T_X6_failing h2 _) cal_X6_failing q223 ⟨by decide, by decide⟩ hq_0 (el_0 _ _) rfl rfl rfl (Nat.le_of_ble_eq_true rfl) ⟨Nat.le_refl _, Nat.le_refl _⟩ dX6_sheet_31) (fun H locs M => ?_)
    clear h2
    exact r_iret X M rfl h dX6_sheet_34
  · have h := it_f c8 h
    refine lv_iload_n X.x X.b dX6_sheet_7 rfl (lv_at hl 2 rfl) ?_
    refine lv_if_eq (tgt := 35) X.x X.b dX6_sheet_8 (by decide) (fun c7 => ?_) (fun c7 => ?_)
    · have h := it_t c7 h
      exact u_X6_sheet_b35 X x1 x2 x3 σ1 _ _ _ h M (lv_sub hl [0, 1, 2, 3] rfl)
    · have h := it_f c7 h
      refine lv_iload_n X.x X.b dX6_sheet_11 rfl (lv_at hl 2 rfl) ?_
      refine lv_bipush (v := 8) X.x X.b dX6_sheet_12 (by decide) ?_
      refine lv_icmp_eq (tgt := 35) X.x X.b dX6_sheet_14 (by decide) (fun c6 => ?_) (fun c6 => ?_)
      · have h := it_t c6 h
        exact u_X6_sheet_b35 X x1 x2 x3 σ1 _ _ _ h M (lv_sub hl [0, 1, 2, 3] rfl)
      · have h := it_f c6 h
        refine lv_iload_n X.x X.b dX6_sheet_17 rfl (lv_at hl 2 rfl) ?_
        refine lv_bipush (v := 16) X.x X.b dX6_sheet_18 (by decide) ?_
        refine lv_icmp_eq (tgt := 35) X.x X.b dX6_sheet_20 (by decide) (fun c5 => ?_) (fun c5 => ?_)
        · have h := it_t c5 h
          exact u_X6_sheet_b35 X x1 x2 x3 σ1 _ _ _ h M (lv_sub hl [0, 1, 2, 3] rfl)
        · have h := it_f c5 h
          refine lv_iload_n X.x X.b dX6_sheet_23 rfl (lv_at hl 2 rfl) ?_
          refine lv_bipush (v := 32) X.x X.b dX6_sheet_24 (by decide) ?_
          refine lv_icmp_eq (tgt := 35) X.x X.b dX6_sheet_26 (by decide) (fun c4 => ?_) (fun c4 => ?_)
          · have h := it_t c4 h
            exact u_X6_sheet_b35 X x1 x2 x3 σ1 _ _ _ h M (lv_sub hl [0, 1, 2, 3] rfl)
          · have h := it_f c4 h
            refine lv_aload_n X.x X.b dX6_sheet_29 rfl (lv_at hl 0 rfl) ?_
            refine lv_iconst (v := 1) X.x X.b dX6_sheet_30 (by decide) ?_
            obtain ⟨r3, σ3, h3, h⟩ := ob_e h
            refine r_runI M (r_callV (As := [.int 1]) X M (lv_sub hl [] rfl) (T_X6_failing h3 _) cal_X6_failing q223 ⟨by decide, by decide⟩ hq_0 (el_0 _ _) rfl rfl rfl (Nat.le_of_ble_eq_true rfl) ⟨Nat.le_refl _, Nat.le_refl _⟩ dX6_sheet_31) (fun H locs M => ?_)
            clear h3
            exact r_iret X M rfl h dX6_sheet_34
/-- StreetNumbers.standing(I)I -/
def f_X6_standing (x1 : Int32) (σ : St) : Rs :=
  if x1 < 0 then (
    ob (f_X6_failing 1 σ) fun r1 σ1 => (
    some (r1, σ1))
  ) else (
    if x1 < (σ 1 1) then (
      ob (f_X3_houseAt x1 σ) fun r2 σ2 => (
      some (r2, σ2))
    ) else (
      ob (f_X6_failing 1 σ) fun r3 σ3 => (
      some (r3, σ3))
    )
  )
set_option maxRecDepth 100000 in
set_option maxHeartbeats 4000000 in
theorem T_X6_standing {l : Launch} {Γ : Gm} {x1 : Int32} {σ : St} {r : Int32} {σ' : St} (h : f_X6_standing x1 σ = some (r, σ')) : MetI l yX6_standing cX6_standing 2 .int 3 Γ σ [.ref (Γ.1 0), .int x1] r σ' := by
  intro sz
  refine met_in (by decide) (Nat.le_of_ble_eq_true rfl) (fun p e s m args below meth c ls X hsz M hl => ?_)
  subst hsz
  have X : Cx p s m args meth c cX6_standing RX6 2 (some .int) Γ := X
  have hl : lv_has ls 2 [(0, .ref (Γ.1 0)), (1, .int x1)] := hl
  unfold f_X6_standing at h
  refine lv_iload_n X.x X.b dX6_standing_0 rfl (lv_at hl 1 rfl) ?_
  refine lv_if_lt (tgt := 15) X.x X.b dX6_standing_1 (by decide) (fun c5 => ?_) (fun c5 => ?_)
  · have h := it_t c5 h
    refine lv_aload_n X.x X.b dX6_standing_15 rfl (lv_at hl 0 rfl) ?_
    refine lv_iconst (v := 1) X.x X.b dX6_standing_16 (by decide) ?_
    obtain ⟨r1, σ1, h1, h⟩ := ob_e h
    refine r_runI M (r_callV (As := [.int 1]) X M (lv_sub hl [] rfl) (T_X6_failing h1 _) cal_X6_failing q223 ⟨by decide, by decide⟩ hq_0 (el_0 _ _) rfl rfl rfl (Nat.le_of_ble_eq_true rfl) ⟨Nat.le_refl _, Nat.le_refl _⟩ dX6_standing_17) (fun H locs M => ?_)
    clear h1
    exact r_iret X M rfl h dX6_standing_20
  · have h := it_f c5 h
    refine lv_iload_n X.x X.b dX6_standing_4 rfl (lv_at hl 1 rfl) ?_
    refine lv_aload_n X.x X.b dX6_standing_5 rfl (lv_at hl 0 rfl) ?_
    refine r_get X M hq_0 (el_0 _ _) rfl inX6 0 (by decide) q188 rfl rfl dX6_standing_6 ?_
    refine r_get X M hq_1 (el_1 _ _) rfl inX3 1 (by decide) q56 rfl rfl dX6_standing_9 ?_
    refine lv_icmp_lt (tgt := 21) X.x X.b dX6_standing_12 (by decide) (fun c4 => ?_) (fun c4 => ?_)
    · have h := it_t c4 h
      refine lv_aload_n X.x X.b dX6_standing_21 rfl (lv_at hl 0 rfl) ?_
      refine r_get X M hq_0 (el_0 _ _) rfl inX6 0 (by decide) q188 rfl rfl dX6_standing_22 ?_
      refine lv_iload_n X.x X.b dX6_standing_25 rfl (lv_at hl 1 rfl) ?_
      obtain ⟨r2, σ2, h2, h⟩ := ob_e h
      refine r_runI M (r_callV (As := [.int x1]) X M (lv_sub hl [] rfl) (T_X3_houseAt h2 _) cal_X3_houseAt q318 ⟨by decide, by decide⟩ hq_1 (el_1 _ _) rfl rfl rfl (Nat.le_of_ble_eq_true rfl) ⟨Nat.le_refl _, Nat.le_refl _⟩ dX6_standing_26) (fun H locs M => ?_)
      clear h2
      exact r_iret X M rfl h dX6_standing_29
    · have h := it_f c4 h
      refine lv_aload_n X.x X.b dX6_standing_15 rfl (lv_at hl 0 rfl) ?_
      refine lv_iconst (v := 1) X.x X.b dX6_standing_16 (by decide) ?_
      obtain ⟨r3, σ3, h3, h⟩ := ob_e h
      refine r_runI M (r_callV (As := [.int 1]) X M (lv_sub hl [] rfl) (T_X6_failing h3 _) cal_X6_failing q223 ⟨by decide, by decide⟩ hq_0 (el_0 _ _) rfl rfl rfl (Nat.le_of_ble_eq_true rfl) ⟨Nat.le_refl _, Nat.le_refl _⟩ dX6_standing_17) (fun H locs M => ?_)
      clear h3
      exact r_iret X M rfl h dX6_standing_20
/-- StreetNumbers$Street.addWaiting(I)I -/
def f_X3_addWaiting (x1 : Int32) (σ : St) : Rs :=
  if (σ 1 5) < 0 then (
    some ((σ 1 5), σ)
  ) else (
    if 24 ≤ (σ 1 5) then (
      some ((σ 1 5), σ)
    ) else (
      if inb (σ 1 5) 24 then (
      ol (st σ 13 (σ 1 5).toNatClampNeg x1) fun σ2 => (
      ol (st σ2 1 5 ((σ2 1 5) + 1)) fun σ3 => (
      some ((σ3 1 5), σ3)))) else none
    )
  )
set_option maxRecDepth 100000 in
set_option maxHeartbeats 4000000 in
theorem T_X3_addWaiting {l : Launch} {Γ : Gm} {x1 : Int32} {σ : St} {r : Int32} {σ' : St} (h : f_X3_addWaiting x1 σ = some (r, σ')) : MetI l yX3_addWaiting cX3_addWaiting 2 .int 1 Γ σ [.ref (Γ.1 1), .int x1] r σ' := by
  intro sz
  refine met_in (by decide) (Nat.le_of_ble_eq_true rfl) (fun p e s m args below meth c ls X hsz M hl => ?_)
  subst hsz
  have X : Cx p s m args meth c cX3_addWaiting RX3 2 (some .int) Γ := X
  have hl : lv_has ls 2 [(0, .ref (Γ.1 1)), (1, .int x1)] := hl
  unfold f_X3_addWaiting at h
  refine lv_aload_n X.x X.b dX3_addWaiting_0 rfl (lv_at hl 0 rfl) ?_
  refine r_get X M hq_1 (el_1 _ _) rfl inX3 5 (by decide) q63 rfl rfl dX3_addWaiting_1 ?_
  refine lv_if_lt (tgt := 36) X.x X.b dX3_addWaiting_4 (by decide) (fun c5 => ?_) (fun c5 => ?_)
  · have h := it_t c5 h
    refine lv_aload_n X.x X.b dX3_addWaiting_36 rfl (lv_at hl 0 rfl) ?_
    refine r_get X M hq_1 (el_1 _ _) rfl inX3 5 (by decide) q63 rfl rfl dX3_addWaiting_37 ?_
    exact r_iret X M rfl h dX3_addWaiting_40
  · have h := it_f c5 h
    refine lv_aload_n X.x X.b dX3_addWaiting_7 rfl (lv_at hl 0 rfl) ?_
    refine r_get X M hq_1 (el_1 _ _) rfl inX3 5 (by decide) q63 rfl rfl dX3_addWaiting_8 ?_
    refine lv_bipush (v := 24) X.x X.b dX3_addWaiting_11 (by decide) ?_
    refine lv_icmp_ge (tgt := 36) X.x X.b dX3_addWaiting_13 (by decide) (fun c4 => ?_) (fun c4 => ?_)
    · have h := it_t c4 h
      refine lv_aload_n X.x X.b dX3_addWaiting_36 rfl (lv_at hl 0 rfl) ?_
      refine r_get X M hq_1 (el_1 _ _) rfl inX3 5 (by decide) q63 rfl rfl dX3_addWaiting_37 ?_
      exact r_iret X M rfl h dX3_addWaiting_40
    · have h := it_f c4 h
      refine lv_aload_n X.x X.b dX3_addWaiting_16 rfl (lv_at hl 0 rfl) ?_
      refine r_get X M hq_1 (el_1 _ _) rfl inX3 10 (by decide) q69 rfl rfl dX3_addWaiting_17 ?_
      refine lv_aload_n X.x X.b dX3_addWaiting_20 rfl (lv_at hl 0 rfl) ?_
      refine r_get X M hq_1 (el_1 _ _) rfl inX3 5 (by decide) q63 rfl rfl dX3_addWaiting_21 ?_
      refine lv_iload_n X.x X.b dX3_addWaiting_24 rfl (lv_at hl 1 rfl) ?_
      obtain ⟨c1, h⟩ := it_n h
      obtain ⟨σ2, e2, h⟩ := ol_e h
      refine r_iast (q := 13) (n := 24) X M rfl c1 dX3_addWaiting_25 (fun H locs M => ?_)
      rw [← e2] at M
      refine lv_aload_n X.x X.b dX3_addWaiting_26 rfl (lv_at hl 0 rfl) ?_
      refine lv_dup X.x X.b dX3_addWaiting_27 rfl ?_
      refine r_get X M hq_1 (el_1 _ _) rfl inX3 5 (by decide) q63 rfl rfl dX3_addWaiting_28 ?_
      refine lv_iconst (v := 1) X.x X.b dX3_addWaiting_31 (by decide) ?_
      refine lv_iadd X.x X.b dX3_addWaiting_32 ?_
      obtain ⟨σ3, e3, h⟩ := ol_e h
      refine r_put (x := ((σ2 1 5) + 1)) (ty := .int) X M hq_1 (el_1 _ _) rfl inX3 tyX3_ok nmX3 5 (by decide) q63 rfl rfl rfl rfl rfl (Nat.le_of_ble_eq_true rfl) (pf_1_5 _ _ _) dX3_addWaiting_33 (fun H locs M => ?_)
      rw [← e3] at M
      refine lv_aload_n X.x X.b dX3_addWaiting_36 rfl (lv_at hl 0 rfl) ?_
      refine r_get X M hq_1 (el_1 _ _) rfl inX3 5 (by decide) q63 rfl rfl dX3_addWaiting_37 ?_
      exact r_iret X M rfl h dX3_addWaiting_40
/-- StreetNumbers.tell(I)I -/
def f_X6_tell (x1 : Int32) (σ : St) : Rs :=
  if (σ 1 5) < 24 then (
    ob (f_X3_addWaiting x1 σ) fun r1 σ1 => (
    some (r1, σ1))
  ) else (
    ob (f_X6_failing 4 σ) fun r2 σ2 => (
    some (r2, σ2))
  )
set_option maxRecDepth 100000 in
set_option maxHeartbeats 4000000 in
theorem T_X6_tell {l : Launch} {Γ : Gm} {x1 : Int32} {σ : St} {r : Int32} {σ' : St} (h : f_X6_tell x1 σ = some (r, σ')) : MetI l yX6_tell cX6_tell 2 .int 2 Γ σ [.ref (Γ.1 0), .int x1] r σ' := by
  intro sz
  refine met_in (by decide) (Nat.le_of_ble_eq_true rfl) (fun p e s m args below meth c ls X hsz M hl => ?_)
  subst hsz
  have X : Cx p s m args meth c cX6_tell RX6 2 (some .int) Γ := X
  have hl : lv_has ls 2 [(0, .ref (Γ.1 0)), (1, .int x1)] := hl
  unfold f_X6_tell at h
  refine lv_aload_n X.x X.b dX6_tell_0 rfl (lv_at hl 0 rfl) ?_
  refine r_get X M hq_0 (el_0 _ _) rfl inX6 0 (by decide) q188 rfl rfl dX6_tell_1 ?_
  refine r_get X M hq_1 (el_1 _ _) rfl inX3 5 (by decide) q64 rfl rfl dX6_tell_4 ?_
  refine lv_bipush (v := 24) X.x X.b dX6_tell_7 (by decide) ?_
  refine lv_icmp_lt (tgt := 20) X.x X.b dX6_tell_9 (by decide) (fun c3 => ?_) (fun c3 => ?_)
  · have h := it_t c3 h
    refine lv_aload_n X.x X.b dX6_tell_20 rfl (lv_at hl 0 rfl) ?_
    refine r_get X M hq_0 (el_0 _ _) rfl inX6 0 (by decide) q188 rfl rfl dX6_tell_21 ?_
    refine lv_iload_n X.x X.b dX6_tell_24 rfl (lv_at hl 1 rfl) ?_
    obtain ⟨r1, σ1, h1, h⟩ := ob_e h
    refine r_runI M (r_callV (As := [.int x1]) X M (lv_sub hl [] rfl) (T_X3_addWaiting h1 _) cal_X3_addWaiting q702 ⟨by decide, by decide⟩ hq_1 (el_1 _ _) rfl rfl rfl (Nat.le_of_ble_eq_true rfl) ⟨Nat.le_refl _, Nat.le_refl _⟩ dX6_tell_25) (fun H locs M => ?_)
    clear h1
    exact r_iret X M rfl h dX6_tell_28
  · have h := it_f c3 h
    refine lv_aload_n X.x X.b dX6_tell_12 rfl (lv_at hl 0 rfl) ?_
    refine lv_iconst (v := 4) X.x X.b dX6_tell_13 (by decide) ?_
    obtain ⟨r2, σ2, h2, h⟩ := ob_e h
    refine r_runI M (r_callV (As := [.int 4]) X M (lv_sub hl [] rfl) (T_X6_failing h2 _) cal_X6_failing q223 ⟨by decide, by decide⟩ hq_0 (el_0 _ _) rfl rfl rfl (Nat.le_of_ble_eq_true rfl) ⟨Nat.le_refl _, Nat.le_refl _⟩ dX6_tell_14) (fun H locs M => ?_)
    clear h2
    refine lv_goto (tgt := 28) X.x X.b dX6_tell_17 (by decide) ?_
    exact r_iret X M rfl h dX6_tell_28
/-- StreetNumbers$Reader.sign()I -/
def f_X1_sign (σ : St) : Rs :=
  if (σ 27 4) < 0 then (
    some ((-1), σ)
  ) else (
    if (σ 27 3) ≤ (σ 27 4) then (
      some ((-1), σ)
    ) else (
      if 60 ≤ (σ 27 4) then (
        some ((-1), σ)
      ) else (
        if inb (σ 27 4) 60 then (
        some ((σ 29 (σ 27 4).toNatClampNeg), σ)) else none
      )
    )
  )
set_option maxRecDepth 100000 in
set_option maxHeartbeats 4000000 in
theorem T_X1_sign {l : Launch} {Γ : Gm} {σ : St} {r : Int32} {σ' : St} (h : f_X1_sign σ = some (r, σ')) : MetI l yX1_sign cX1_sign 1 .int 1 Γ σ [.ref (Γ.1 27)] r σ' := by
  intro sz
  refine met_in (by decide) (Nat.le_of_ble_eq_true rfl) (fun p e s m args below meth c ls X hsz M hl => ?_)
  subst hsz
  have X : Cx p s m args meth c cX1_sign RX1 1 (some .int) Γ := X
  have hl : lv_has ls 1 [(0, .ref (Γ.1 27))] := hl
  unfold f_X1_sign at h
  refine lv_aload_n X.x X.b dX1_sign_0 rfl (lv_at hl 0 rfl) ?_
  refine r_get X M hq_27 (el_27 _ _) rfl inX1 4 (by decide) q105 rfl rfl dX1_sign_1 ?_
  refine lv_if_lt (tgt := 42) X.x X.b dX1_sign_4 (by decide) (fun c4 => ?_) (fun c4 => ?_)
  · have h := it_t c4 h
    refine lv_iconst (v := (-1)) X.x X.b dX1_sign_42 (by decide) ?_
    exact r_iret X M rfl h dX1_sign_43
  · have h := it_f c4 h
    refine lv_aload_n X.x X.b dX1_sign_7 rfl (lv_at hl 0 rfl) ?_
    refine r_get X M hq_27 (el_27 _ _) rfl inX1 4 (by decide) q105 rfl rfl dX1_sign_8 ?_
    refine lv_aload_n X.x X.b dX1_sign_11 rfl (lv_at hl 0 rfl) ?_
    refine r_get X M hq_27 (el_27 _ _) rfl inX1 3 (by decide) q104 rfl rfl dX1_sign_12 ?_
    refine lv_icmp_ge (tgt := 42) X.x X.b dX1_sign_15 (by decide) (fun c3 => ?_) (fun c3 => ?_)
    · have h := it_t c3 h
      refine lv_iconst (v := (-1)) X.x X.b dX1_sign_42 (by decide) ?_
      exact r_iret X M rfl h dX1_sign_43
    · have h := it_f c3 h
      refine lv_aload_n X.x X.b dX1_sign_18 rfl (lv_at hl 0 rfl) ?_
      refine r_get X M hq_27 (el_27 _ _) rfl inX1 4 (by decide) q105 rfl rfl dX1_sign_19 ?_
      refine lv_aload_n X.x X.b dX1_sign_22 rfl (lv_at hl 0 rfl) ?_
      refine r_get X M hq_27 (el_27 _ _) rfl inX1 2 (by decide) q103 rfl rfl dX1_sign_23 ?_
      refine r_alen (q := 29) (n := 60) (v := 60) X M rfl (by decide) rfl dX1_sign_26 ?_
      refine lv_icmp_ge (tgt := 42) X.x X.b dX1_sign_27 (by decide) (fun c2 => ?_) (fun c2 => ?_)
      · have h := it_t c2 h
        refine lv_iconst (v := (-1)) X.x X.b dX1_sign_42 (by decide) ?_
        exact r_iret X M rfl h dX1_sign_43
      · have h := it_f c2 h
        refine lv_aload_n X.x X.b dX1_sign_30 rfl (lv_at hl 0 rfl) ?_
        refine r_get X M hq_27 (el_27 _ _) rfl inX1 2 (by decide) q103 rfl rfl dX1_sign_31 ?_
        refine lv_aload_n X.x X.b dX1_sign_34 rfl (lv_at hl 0 rfl) ?_
        refine r_get X M hq_27 (el_27 _ _) rfl inX1 4 (by decide) q105 rfl rfl dX1_sign_35 ?_
        obtain ⟨c1, h⟩ := it_n h
        refine r_iald (q := 29) (n := 60) X M rfl c1 dX1_sign_38 ?_
        refine lv_goto (tgt := 43) X.x X.b dX1_sign_39 (by decide) ?_
        exact r_iret X M rfl h dX1_sign_43
/-- StreetNumbers$Reader.joins(II)Z -/
def f_X1_joins (x0 : Int32) (x1 : Int32) (σ : St) : Rs :=
  if x0 = 0 then (
    if x1 = 124 then (
      some (1, σ)
    ) else (
      some (0, σ)
    )
  ) else (
  if x0 = 1 then (
    if x1 = 38 then (
      some (1, σ)
    ) else (
      some (0, σ)
    )
  ) else (
  if x0 = 2 then (
    if x1 = 60 then (
      some (1, σ)
    ) else (
      if x1 = 61 then (
        some (1, σ)
      ) else (
        if x1 = 62 then (
          some (1, σ)
        ) else (
          some (0, σ)
        )
      )
    )
  ) else (
  if x0 = 3 then (
    if x1 = 43 then (
      some (1, σ)
    ) else (
      if x1 = 45 then (
        some (1, σ)
      ) else (
        some (0, σ)
      )
    )
  ) else (
    if x1 = 42 then (
      some (1, σ)
    ) else (
      if x1 = 47 then (
        some (1, σ)
      ) else (
        if x1 = 37 then (
          some (1, σ)
        ) else (
          some (0, σ)
        )
      )
    )
  ))))
set_option maxRecDepth 100000 in
set_option maxHeartbeats 4000000 in
theorem T_X1_joins {l : Launch} {Γ : Gm} {x0 : Int32} {x1 : Int32} {σ : St} {r : Int32} {σ' : St} (h : f_X1_joins x0 x1 σ = some (r, σ')) : MetI l yX1_joins cX1_joins 2 .boolean 1 Γ σ [.int x0, .int x1] r σ' := by
  intro sz
  refine met_in (by decide) (Nat.le_of_ble_eq_true rfl) (fun p e s m args below meth c ls X hsz M hl => ?_)
  subst hsz
  have X : Cx p s m args meth c cX1_joins RX1 2 (some .boolean) Γ := X
  have hl : lv_has ls 2 [(0, .int x0), (1, .int x1)] := hl
  unfold f_X1_joins at h
  refine lv_iload_n X.x X.b dX1_joins_0 rfl (lv_at hl 0 rfl) ?_
  by_cases c1 : x0 = 0
  · have h := it_t c1 h
    refine lv_tableIn (tgt := 32) X.x X.b dX1_joins_1 (by rw [c1]; decide) (by rw [c1]; decide) (by first | (rw [c1]; done) | (rw [c1]; rfl)) (by decide) ?_
    refine lv_iload_n X.x X.b dX1_joins_32 rfl (lv_at hl 1 rfl) ?_
    refine lv_bipush (v := 124) X.x X.b dX1_joins_33 (by decide) ?_
    refine lv_icmp_ne (tgt := 42) X.x X.b dX1_joins_35 (by decide) (fun c2 => ?_) (fun c2 => ?_)
    · have h := it_f c2 h
      refine lv_iconst (v := 0) X.x X.b dX1_joins_42 (by decide) ?_
      exact r_iret X M rfl h dX1_joins_43
    · have h := it_t c2 h
      refine lv_iconst (v := 1) X.x X.b dX1_joins_38 (by decide) ?_
      refine lv_goto (tgt := 43) X.x X.b dX1_joins_39 (by decide) ?_
      exact r_iret X M rfl h dX1_joins_43
  have h := it_f c1 h
  by_cases c3 : x0 = 1
  · have h := it_t c3 h
    refine lv_tableIn (tgt := 44) X.x X.b dX1_joins_1 (by rw [c3]; decide) (by rw [c3]; decide) (by first | (rw [c3]; done) | (rw [c3]; rfl)) (by decide) ?_
    refine lv_iload_n X.x X.b dX1_joins_44 rfl (lv_at hl 1 rfl) ?_
    refine lv_bipush (v := 38) X.x X.b dX1_joins_45 (by decide) ?_
    refine lv_icmp_ne (tgt := 54) X.x X.b dX1_joins_47 (by decide) (fun c4 => ?_) (fun c4 => ?_)
    · have h := it_f c4 h
      refine lv_iconst (v := 0) X.x X.b dX1_joins_54 (by decide) ?_
      exact r_iret X M rfl h dX1_joins_55
    · have h := it_t c4 h
      refine lv_iconst (v := 1) X.x X.b dX1_joins_50 (by decide) ?_
      refine lv_goto (tgt := 55) X.x X.b dX1_joins_51 (by decide) ?_
      exact r_iret X M rfl h dX1_joins_55
  have h := it_f c3 h
  by_cases c5 : x0 = 2
  · have h := it_t c5 h
    refine lv_tableIn (tgt := 56) X.x X.b dX1_joins_1 (by rw [c5]; decide) (by rw [c5]; decide) (by first | (rw [c5]; done) | (rw [c5]; rfl)) (by decide) ?_
    refine lv_iload_n X.x X.b dX1_joins_56 rfl (lv_at hl 1 rfl) ?_
    refine lv_bipush (v := 60) X.x X.b dX1_joins_57 (by decide) ?_
    refine lv_icmp_eq (tgt := 74) X.x X.b dX1_joins_59 (by decide) (fun c8 => ?_) (fun c8 => ?_)
    · have h := it_t c8 h
      refine lv_iconst (v := 1) X.x X.b dX1_joins_74 (by decide) ?_
      refine lv_goto (tgt := 79) X.x X.b dX1_joins_75 (by decide) ?_
      exact r_iret X M rfl h dX1_joins_79
    · have h := it_f c8 h
      refine lv_iload_n X.x X.b dX1_joins_62 rfl (lv_at hl 1 rfl) ?_
      refine lv_bipush (v := 61) X.x X.b dX1_joins_63 (by decide) ?_
      refine lv_icmp_eq (tgt := 74) X.x X.b dX1_joins_65 (by decide) (fun c7 => ?_) (fun c7 => ?_)
      · have h := it_t c7 h
        refine lv_iconst (v := 1) X.x X.b dX1_joins_74 (by decide) ?_
        refine lv_goto (tgt := 79) X.x X.b dX1_joins_75 (by decide) ?_
        exact r_iret X M rfl h dX1_joins_79
      · have h := it_f c7 h
        refine lv_iload_n X.x X.b dX1_joins_68 rfl (lv_at hl 1 rfl) ?_
        refine lv_bipush (v := 62) X.x X.b dX1_joins_69 (by decide) ?_
        refine lv_icmp_ne (tgt := 78) X.x X.b dX1_joins_71 (by decide) (fun c6 => ?_) (fun c6 => ?_)
        · have h := it_f c6 h
          refine lv_iconst (v := 0) X.x X.b dX1_joins_78 (by decide) ?_
          exact r_iret X M rfl h dX1_joins_79
        · have h := it_t c6 h
          refine lv_iconst (v := 1) X.x X.b dX1_joins_74 (by decide) ?_
          refine lv_goto (tgt := 79) X.x X.b dX1_joins_75 (by decide) ?_
          exact r_iret X M rfl h dX1_joins_79
  have h := it_f c5 h
  by_cases c9 : x0 = 3
  · have h := it_t c9 h
    refine lv_tableIn (tgt := 80) X.x X.b dX1_joins_1 (by rw [c9]; decide) (by rw [c9]; decide) (by first | (rw [c9]; done) | (rw [c9]; rfl)) (by decide) ?_
    refine lv_iload_n X.x X.b dX1_joins_80 rfl (lv_at hl 1 rfl) ?_
    refine lv_bipush (v := 43) X.x X.b dX1_joins_81 (by decide) ?_
    refine lv_icmp_eq (tgt := 92) X.x X.b dX1_joins_83 (by decide) (fun c11 => ?_) (fun c11 => ?_)
    · have h := it_t c11 h
      refine lv_iconst (v := 1) X.x X.b dX1_joins_92 (by decide) ?_
      refine lv_goto (tgt := 97) X.x X.b dX1_joins_93 (by decide) ?_
      exact r_iret X M rfl h dX1_joins_97
    · have h := it_f c11 h
      refine lv_iload_n X.x X.b dX1_joins_86 rfl (lv_at hl 1 rfl) ?_
      refine lv_bipush (v := 45) X.x X.b dX1_joins_87 (by decide) ?_
      refine lv_icmp_ne (tgt := 96) X.x X.b dX1_joins_89 (by decide) (fun c10 => ?_) (fun c10 => ?_)
      · have h := it_f c10 h
        refine lv_iconst (v := 0) X.x X.b dX1_joins_96 (by decide) ?_
        exact r_iret X M rfl h dX1_joins_97
      · have h := it_t c10 h
        refine lv_iconst (v := 1) X.x X.b dX1_joins_92 (by decide) ?_
        refine lv_goto (tgt := 97) X.x X.b dX1_joins_93 (by decide) ?_
        exact r_iret X M rfl h dX1_joins_97
  have h := it_f c9 h
  have c1z := lv_neT c1 (show (0 : Int32).toInt = 0 by decide)
  have c3z := lv_neT c3 (show (1 : Int32).toInt = 1 by decide)
  have c5z := lv_neT c5 (show (2 : Int32).toInt = 2 by decide)
  have c9z := lv_neT c9 (show (3 : Int32).toInt = 3 by decide)
  refine lv_tableOut (tgt := 98) X.x X.b dX1_joins_1 (by omega) (by decide) ?_
  refine lv_iload_n X.x X.b dX1_joins_98 rfl (lv_at hl 1 rfl) ?_
  refine lv_bipush (v := 42) X.x X.b dX1_joins_99 (by decide) ?_
  refine lv_icmp_eq (tgt := 116) X.x X.b dX1_joins_101 (by decide) (fun c14 => ?_) (fun c14 => ?_)
  · have h := it_t c14 h
    refine lv_iconst (v := 1) X.x X.b dX1_joins_116 (by decide) ?_
    refine lv_goto (tgt := 121) X.x X.b dX1_joins_117 (by decide) ?_
    exact r_iret X M rfl h dX1_joins_121
  · have h := it_f c14 h
    refine lv_iload_n X.x X.b dX1_joins_104 rfl (lv_at hl 1 rfl) ?_
    refine lv_bipush (v := 47) X.x X.b dX1_joins_105 (by decide) ?_
    refine lv_icmp_eq (tgt := 116) X.x X.b dX1_joins_107 (by decide) (fun c13 => ?_) (fun c13 => ?_)
    · have h := it_t c13 h
      refine lv_iconst (v := 1) X.x X.b dX1_joins_116 (by decide) ?_
      refine lv_goto (tgt := 121) X.x X.b dX1_joins_117 (by decide) ?_
      exact r_iret X M rfl h dX1_joins_121
    · have h := it_f c13 h
      refine lv_iload_n X.x X.b dX1_joins_110 rfl (lv_at hl 1 rfl) ?_
      refine lv_bipush (v := 37) X.x X.b dX1_joins_111 (by decide) ?_
      refine lv_icmp_ne (tgt := 120) X.x X.b dX1_joins_113 (by decide) (fun c12 => ?_) (fun c12 => ?_)
      · have h := it_f c12 h
        refine lv_iconst (v := 0) X.x X.b dX1_joins_120 (by decide) ?_
        exact r_iret X M rfl h dX1_joins_121
      · have h := it_t c12 h
        refine lv_iconst (v := 1) X.x X.b dX1_joins_116 (by decide) ?_
        refine lv_goto (tgt := 121) X.x X.b dX1_joins_117 (by decide) ?_
        exact r_iret X M rfl h dX1_joins_121
/-- StreetNumbers$Reader.write(I)V -/
def f_X1_write (x1 : Int32) (σ : St) : Rs :=
  if (σ 27 1) < 0 then (
    some (0, σ)
  ) else (
    if 60 ≤ (σ 27 1) then (
      some (0, σ)
    ) else (
      if inb (σ 27 1) 60 then (
      ol (st σ 28 (σ 27 1).toNatClampNeg x1) fun σ2 => (
      ol (st σ2 27 1 ((σ2 27 1) + 1)) fun σ3 => (
      some (0, σ3)))) else none
    )
  )
set_option maxRecDepth 100000 in
set_option maxHeartbeats 4000000 in
theorem T_X1_write {l : Launch} {Γ : Gm} {x1 : Int32} {σ : St} {r : Int32} {σ' : St} (h : f_X1_write x1 σ = some (r, σ')) : MetV l yX1_write cX1_write 2 1 Γ σ [.ref (Γ.1 27), .int x1] σ' := by
  intro sz
  refine met_in (by decide) (Nat.le_of_ble_eq_true rfl) (fun p e s m args below meth c ls X hsz M hl => ?_)
  subst hsz
  have X : Cx p s m args meth c cX1_write RX1 2 none Γ := X
  have hl : lv_has ls 2 [(0, .ref (Γ.1 27)), (1, .int x1)] := hl
  unfold f_X1_write at h
  refine lv_aload_n X.x X.b dX1_write_0 rfl (lv_at hl 0 rfl) ?_
  refine r_get X M hq_27 (el_27 _ _) rfl inX1 1 (by decide) q101 rfl rfl dX1_write_1 ?_
  refine lv_if_lt (tgt := 39) X.x X.b dX1_write_4 (by decide) (fun c5 => ?_) (fun c5 => ?_)
  · have h := it_t c5 h
    exact r_vret X M h dX1_write_39
  · have h := it_f c5 h
    refine lv_aload_n X.x X.b dX1_write_7 rfl (lv_at hl 0 rfl) ?_
    refine r_get X M hq_27 (el_27 _ _) rfl inX1 1 (by decide) q101 rfl rfl dX1_write_8 ?_
    refine lv_aload_n X.x X.b dX1_write_11 rfl (lv_at hl 0 rfl) ?_
    refine r_get X M hq_27 (el_27 _ _) rfl inX1 0 (by decide) q99 rfl rfl dX1_write_12 ?_
    refine r_alen (q := 28) (n := 60) (v := 60) X M rfl (by decide) rfl dX1_write_15 ?_
    refine lv_icmp_ge (tgt := 39) X.x X.b dX1_write_16 (by decide) (fun c4 => ?_) (fun c4 => ?_)
    · have h := it_t c4 h
      exact r_vret X M h dX1_write_39
    · have h := it_f c4 h
      refine lv_aload_n X.x X.b dX1_write_19 rfl (lv_at hl 0 rfl) ?_
      refine r_get X M hq_27 (el_27 _ _) rfl inX1 0 (by decide) q99 rfl rfl dX1_write_20 ?_
      refine lv_aload_n X.x X.b dX1_write_23 rfl (lv_at hl 0 rfl) ?_
      refine r_get X M hq_27 (el_27 _ _) rfl inX1 1 (by decide) q101 rfl rfl dX1_write_24 ?_
      refine lv_iload_n X.x X.b dX1_write_27 rfl (lv_at hl 1 rfl) ?_
      obtain ⟨c1, h⟩ := it_n h
      obtain ⟨σ2, e2, h⟩ := ol_e h
      refine r_iast (q := 28) (n := 60) X M rfl c1 dX1_write_28 (fun H locs M => ?_)
      rw [← e2] at M
      refine lv_aload_n X.x X.b dX1_write_29 rfl (lv_at hl 0 rfl) ?_
      refine lv_dup X.x X.b dX1_write_30 rfl ?_
      refine r_get X M hq_27 (el_27 _ _) rfl inX1 1 (by decide) q101 rfl rfl dX1_write_31 ?_
      refine lv_iconst (v := 1) X.x X.b dX1_write_34 (by decide) ?_
      refine lv_iadd X.x X.b dX1_write_35 ?_
      obtain ⟨σ3, e3, h⟩ := ol_e h
      refine r_put (x := ((σ2 27 1) + 1)) (ty := .int) X M hq_27 (el_27 _ _) rfl inX1 tyX1_ok nmX1 1 (by decide) q101 rfl rfl rfl rfl rfl (Nat.le_of_ble_eq_true rfl) (pf_27_1 _ _ _) dX1_write_36 (fun H locs M => ?_)
      rw [← e3] at M
      exact r_vret X M h dX1_write_39
/-- StreetNumbers$Reader.isDigit(I)Z -/
def f_X1_isDigit (x0 : Int32) (σ : St) : Rs :=
  if x0 < 48 then (
    some (0, σ)
  ) else (
    if 57 < x0 then (
      some (0, σ)
    ) else (
      some (1, σ)
    )
  )
set_option maxRecDepth 100000 in
set_option maxHeartbeats 4000000 in
theorem T_X1_isDigit {l : Launch} {Γ : Gm} {x0 : Int32} {σ : St} {r : Int32} {σ' : St} (h : f_X1_isDigit x0 σ = some (r, σ')) : MetI l yX1_isDigit cX1_isDigit 1 .boolean 1 Γ σ [.int x0] r σ' := by
  intro sz
  refine met_in (by decide) (Nat.le_of_ble_eq_true rfl) (fun p e s m args below meth c ls X hsz M hl => ?_)
  subst hsz
  have X : Cx p s m args meth c cX1_isDigit RX1 1 (some .boolean) Γ := X
  have hl : lv_has ls 1 [(0, .int x0)] := hl
  unfold f_X1_isDigit at h
  refine lv_iload_n X.x X.b dX1_isDigit_0 rfl (lv_at hl 0 rfl) ?_
  refine lv_bipush (v := 48) X.x X.b dX1_isDigit_1 (by decide) ?_
  refine lv_icmp_lt (tgt := 16) X.x X.b dX1_isDigit_3 (by decide) (fun c2 => ?_) (fun c2 => ?_)
  · have h := it_t c2 h
    refine lv_iconst (v := 0) X.x X.b dX1_isDigit_16 (by decide) ?_
    exact r_iret X M rfl h dX1_isDigit_17
  · have h := it_f c2 h
    refine lv_iload_n X.x X.b dX1_isDigit_6 rfl (lv_at hl 0 rfl) ?_
    refine lv_bipush (v := 57) X.x X.b dX1_isDigit_7 (by decide) ?_
    refine lv_icmp_gt (tgt := 16) X.x X.b dX1_isDigit_9 (by decide) (fun c1 => ?_) (fun c1 => ?_)
    · have h := it_t c1 h
      refine lv_iconst (v := 0) X.x X.b dX1_isDigit_16 (by decide) ?_
      exact r_iret X M rfl h dX1_isDigit_17
    · have h := it_f c1 h
      refine lv_iconst (v := 1) X.x X.b dX1_isDigit_12 (by decide) ?_
      refine lv_goto (tgt := 17) X.x X.b dX1_isDigit_13 (by decide) ?_
      exact r_iret X M rfl h dX1_isDigit_17
def f_X1_readsName_b2 (k2 : (Int32 → Int32 → St → Rs)) (x1 : Int32) (x2 : Int32) (σ : St) : Rs :=
  if 3 ≤ x2 then (
    some (0, σ)
  ) else (
    if ((σ 27 5) + x2) < 0 then (
      k2 x1 (x2 + 1) σ
    ) else (
      if 6 ≤ ((σ 27 5) + x2) then (
        k2 x1 (x2 + 1) σ
      ) else (
        if inb ((σ 27 5) + x2) 6 then (
        if (tNA ((σ 27 5) + x2).toNatClampNeg) = x1 then (
          ol (st σ 27 4 ((σ 27 4) + 1)) fun σ2 => (
          ob (f_X1_write (10000 + x2) σ2) fun _ σ3 => (
          some (1, σ3)))
        ) else (
          k2 x1 (x2 + 1) σ
        )) else none
      )
    )
  )
set_option maxRecDepth 100000 in
set_option maxHeartbeats 4000000 in
theorem u_X1_readsName_b2 {l : Launch} {Γ : Gm} {p : Program} {e : Env} {s : State} {m : MethodId} {args : Array Value} {below : List Frame} {meth : Method} {c : Code} {r : Int32} {σ' : St} {k2 : Int32 → Int32 → St → Rs} (X : Cx p s m args meth c cX1_readsName RX1 4 (some .boolean) Γ) (H2 : ∀ (x1 : Int32) (x2 : Int32) (σ : St) (H : Heap) (locs : List Loc) (ls : Array Slot), k2 x1 x2 σ = some (r, σ') → Mv Γ σ s H locs → lv_has ls 4 [(0, .ref (Γ.1 27)), (1, .int x1), (2, .int x2)] → W p l e (rmd 2) s m args below meth c H locs 0 0 (MQ below (Qi Γ r σ' s.heap.size) args s 0 0 (Rg Γ s.heap.size)) (F0 m 2 ls [])) (x1 : Int32) (x2 : Int32) (σ : St) (H : Heap) (locs : List Loc) (ls : Array Slot) (h : f_X1_readsName_b2 k2 x1 x2 σ = some (r, σ')) (M : Mv Γ σ s H locs) (hl : lv_has ls 4 [(0, .ref (Γ.1 27)), (1, .int x1), (2, .int x2)]) : W p l e (rmd 2) s m args below meth c H locs 0 0 (MQ below (Qi Γ r σ' s.heap.size) args s 0 0 (Rg Γ s.heap.size)) (F0 m 2 ls []) := by
  unfold f_X1_readsName_b2 at h
  refine lv_iload_n X.x X.b dX1_readsName_2 rfl (lv_at hl 2 rfl) ?_
  refine lv_iconst (v := 3) X.x X.b dX1_readsName_3 (by decide) ?_
  refine lv_icmp_ge (tgt := 62) X.x X.b dX1_readsName_4 (by decide) (fun c7 => ?_) (fun c7 => ?_)
  · have h := it_t c7 h
    refine lv_iconst (v := 0) X.x X.b dX1_readsName_62 (by decide) ?_
    exact r_iret X M rfl h dX1_readsName_63
  · have h := it_f c7 h
    refine lv_aload_n X.x X.b dX1_readsName_7 rfl (lv_at hl 0 rfl) ?_
    refine r_get X M hq_27 (el_27 _ _) rfl inX1 5 (by decide) q106 rfl rfl dX1_readsName_8 ?_
    refine lv_iload_n X.x X.b dX1_readsName_11 rfl (lv_at hl 2 rfl) ?_
    refine lv_iadd X.x X.b dX1_readsName_12 ?_
    refine lv_istore_n (lv' := [(3, .int ((σ 27 5) + x2)), (0, .ref (Γ.1 27)), (1, .int x1), (2, .int x2)]) X.x X.b dX1_readsName_13 rfl hl (by decide) rfl (fun ls hl => ?_)
    refine lv_iload_n X.x X.b dX1_readsName_14 rfl (lv_at hl 0 rfl) ?_
    refine lv_if_lt (tgt := 56) X.x X.b dX1_readsName_15 (by decide) (fun c6 => ?_) (fun c6 => ?_)
    · have h := it_t c6 h
      refine lv_iinc (v := (x2 + 1)) (lv' := [(2, .int (x2 + 1)), (3, .int ((σ 27 5) + x2)), (0, .ref (Γ.1 27)), (1, .int x1)]) X.x X.b dX1_readsName_56 hl (k := 3) rfl rfl (by decide) rfl (fun ls hl => ?_)
      refine lv_goto (tgt := 2) X.x X.b dX1_readsName_59 (by decide) ?_
      exact H2 x1 (x2 + 1) σ _ _ _ h M (lv_sub hl [2, 3, 0] rfl)
    · have h := it_f c6 h
      refine lv_iload_n X.x X.b dX1_readsName_18 rfl (lv_at hl 0 rfl) ?_
      refine r_getsN (host := "StreetNumbers") X M X.F.2.2.2.2.1 nst_X1_72 dX1_readsName_19 ?_
      refine r_tlen (v := 6) X M X.F.2.2.2.2.1 rfl dX1_readsName_22 ?_
      refine lv_icmp_ge (tgt := 56) X.x X.b dX1_readsName_23 (by decide) (fun c5 => ?_) (fun c5 => ?_)
      · have h := it_t c5 h
        refine lv_iinc (v := (x2 + 1)) (lv' := [(2, .int (x2 + 1)), (3, .int ((σ 27 5) + x2)), (0, .ref (Γ.1 27)), (1, .int x1)]) X.x X.b dX1_readsName_56 hl (k := 3) rfl rfl (by decide) rfl (fun ls hl => ?_)
        refine lv_goto (tgt := 2) X.x X.b dX1_readsName_59 (by decide) ?_
        exact H2 x1 (x2 + 1) σ _ _ _ h M (lv_sub hl [2, 3, 0] rfl)
      · have h := it_f c5 h
        refine r_getsN (host := "StreetNumbers") X M X.F.2.2.2.2.1 nst_X1_72 dX1_readsName_26 ?_
        refine lv_iload_n X.x X.b dX1_readsName_29 rfl (lv_at hl 0 rfl) ?_
        obtain ⟨c1, h⟩ := it_n h
        refine r_tc X M X.F.2.2.2.2.1 c1 dX1_readsName_30 ?_
        refine lv_iload_n X.x X.b dX1_readsName_31 rfl (lv_at hl 2 rfl) ?_
        refine lv_icmp_ne (tgt := 56) X.x X.b dX1_readsName_32 (by decide) (fun c4 => ?_) (fun c4 => ?_)
        · have h := it_f c4 h
          refine lv_iinc (v := (x2 + 1)) (lv' := [(2, .int (x2 + 1)), (3, .int ((σ 27 5) + x2)), (0, .ref (Γ.1 27)), (1, .int x1)]) X.x X.b dX1_readsName_56 hl (k := 3) rfl rfl (by decide) rfl (fun ls hl => ?_)
          refine lv_goto (tgt := 2) X.x X.b dX1_readsName_59 (by decide) ?_
          exact H2 x1 (x2 + 1) σ _ _ _ h M (lv_sub hl [2, 3, 0] rfl)
        · have h := it_t c4 h
          refine lv_aload_n X.x X.b dX1_readsName_35 rfl (lv_at hl 1 rfl) ?_
          refine lv_dup X.x X.b dX1_readsName_36 rfl ?_
          refine r_get X M hq_27 (el_27 _ _) rfl inX1 4 (by decide) q105 rfl rfl dX1_readsName_37 ?_
          refine lv_iconst (v := 1) X.x X.b dX1_readsName_40 (by decide) ?_
          refine lv_iadd X.x X.b dX1_readsName_41 ?_
          obtain ⟨σ2, e2, h⟩ := ol_e h
          refine r_put (x := ((σ 27 4) + 1)) (ty := .int) X M hq_27 (el_27 _ _) rfl inX1 tyX1_ok nmX1 4 (by decide) q105 rfl rfl rfl rfl rfl (Nat.le_of_ble_eq_true rfl) (pf_27_4 _ _ _) dX1_readsName_42 (fun H locs M => ?_)
          rw [← e2] at M
          refine lv_aload_n X.x X.b dX1_readsName_45 rfl (lv_at hl 1 rfl) ?_
          refine lv_sipush (v := 10000) X.x X.b dX1_readsName_46 (by decide) ?_
          refine lv_iload_n X.x X.b dX1_readsName_49 rfl (lv_at hl 3 rfl) ?_
          refine lv_iadd X.x X.b dX1_readsName_50 ?_
          obtain ⟨r3, σ3, h3, h⟩ := ob_e h
          refine r_runV M (r_callV (As := [.int (10000 + x2)]) X M (lv_sub hl [] rfl) (T_X1_write h3 _) cal_X1_write q412 ⟨by decide, by decide⟩ hq_27 (el_27 _ _) rfl rfl rfl (Nat.le_of_ble_eq_true rfl) ⟨Nat.le_refl _, Nat.le_refl _⟩ dX1_readsName_51) (fun H locs M => ?_)
          clear h3
          refine lv_iconst (v := 1) X.x X.b dX1_readsName_54 (by decide) ?_
          exact r_iret X M rfl h dX1_readsName_55
def f_X1_readsName_L2 : Nat → Int32 → Int32 → St → Rs
  | 0 => fun _ _ _ => none
  | n + 1 => fun x1 x2 σ => f_X1_readsName_b2 (f_X1_readsName_L2 n) x1 x2 σ
theorem u_X1_readsName_L2 {l : Launch} {Γ : Gm} {p : Program} {e : Env} {s : State} {m : MethodId} {args : Array Value} {below : List Frame} {meth : Method} {c : Code} {r : Int32} {σ' : St} (X : Cx p s m args meth c cX1_readsName RX1 4 (some .boolean) Γ) : ∀ (n : Nat) (x1 : Int32) (x2 : Int32) (σ : St) (H : Heap) (locs : List Loc) (ls : Array Slot), f_X1_readsName_L2 n x1 x2 σ = some (r, σ') → Mv Γ σ s H locs → lv_has ls 4 [(0, .ref (Γ.1 27)), (1, .int x1), (2, .int x2)] → W p l e (rmd 2) s m args below meth c H locs 0 0 (MQ below (Qi Γ r σ' s.heap.size) args s 0 0 (Rg Γ s.heap.size)) (F0 m 2 ls []) := by
  intro n
  induction n with
  | zero => intro x1 x2 σ H locs ls h; cases h
  | succ n ih => intro x1 x2 σ H locs ls h; exact u_X1_readsName_b2 X  ih x1 x2 σ H locs ls h
/-- StreetNumbers$Reader.readsName(I)Z -/
def f_X1_readsName (x1 : Int32) (σ : St) : Rs :=
  f_X1_readsName_L2 LF x1 0 σ
set_option maxRecDepth 100000 in
set_option maxHeartbeats 4000000 in
theorem T_X1_readsName {l : Launch} {Γ : Gm} {x1 : Int32} {σ : St} {r : Int32} {σ' : St} (h : f_X1_readsName x1 σ = some (r, σ')) : MetI l yX1_readsName cX1_readsName 4 .boolean 2 Γ σ [.ref (Γ.1 27), .int x1] r σ' := by
  intro sz
  refine met_in (by decide) (Nat.le_of_ble_eq_true rfl) (fun p e s m args below meth c ls X hsz M hl => ?_)
  subst hsz
  have X : Cx p s m args meth c cX1_readsName RX1 4 (some .boolean) Γ := X
  have hl : lv_has ls 4 [(0, .ref (Γ.1 27)), (1, .int x1)] := hl
  unfold f_X1_readsName at h
  refine lv_iconst (v := 0) X.x X.b dX1_readsName_0 (by decide) ?_
  refine lv_istore_n (lv' := [(2, .int 0), (0, .ref (Γ.1 27)), (1, .int x1)]) X.x X.b dX1_readsName_1 rfl hl (by decide) rfl (fun ls hl => ?_)
  exact u_X1_readsName_L2 X LF x1 0 σ _ _ _ h M (lv_sub hl [1, 2, 0] rfl)
def f_X1_readNumber_b4 (k4 : (Int32 → Int32 → St → Rs)) (x1 : Int32) (x2 : Int32) (σ : St) : Rs :=
  if 4 ≤ x2 then (
    ob (f_X1_write x1 σ) fun _ σ1 => (
    some (0, σ1))
  ) else (
    ob (f_X1_sign σ) fun r2 σ2 => (
    ob (f_X1_isDigit r2 σ2) fun r3 σ3 => (
    if r3 = 0 then (
      ob (f_X1_write x1 σ3) fun _ σ4 => (
      some (0, σ4))
    ) else (
      ob (f_X1_sign σ3) fun r5 σ5 => (
      ol (st σ5 27 4 ((σ5 27 4) + 1)) fun σ6 => (
      k4 ((x1 * 10) + (r5 - 48)) (x2 + 1) σ6))
    )))
  )
set_option maxRecDepth 100000 in
set_option maxHeartbeats 4000000 in
theorem u_X1_readNumber_b4 {l : Launch} {Γ : Gm} {p : Program} {e : Env} {s : State} {m : MethodId} {args : Array Value} {below : List Frame} {meth : Method} {c : Code} {r : Int32} {σ' : St} {k4 : Int32 → Int32 → St → Rs} (X : Cx p s m args meth c cX1_readNumber RX1 3 none Γ) (H4 : ∀ (x1 : Int32) (x2 : Int32) (σ : St) (H : Heap) (locs : List Loc) (ls : Array Slot), k4 x1 x2 σ = some (r, σ') → Mv Γ σ s H locs → lv_has ls 3 [(0, .ref (Γ.1 27)), (1, .int x1), (2, .int x2)] → W p l e (rmd 2) s m args below meth c H locs 0 0 (MQ below (Qv Γ σ' s.heap.size) args s 0 0 (Rg Γ s.heap.size)) (F0 m 4 ls [])) (x1 : Int32) (x2 : Int32) (σ : St) (H : Heap) (locs : List Loc) (ls : Array Slot) (h : f_X1_readNumber_b4 k4 x1 x2 σ = some (r, σ')) (M : Mv Γ σ s H locs) (hl : lv_has ls 3 [(0, .ref (Γ.1 27)), (1, .int x1), (2, .int x2)]) : W p l e (rmd 2) s m args below meth c H locs 0 0 (MQ below (Qv Γ σ' s.heap.size) args s 0 0 (Rg Γ s.heap.size)) (F0 m 4 ls []) := by
  unfold f_X1_readNumber_b4 at h
  refine lv_iload_n X.x X.b dX1_readNumber_4 rfl (lv_at hl 2 rfl) ?_
  refine lv_iconst (v := 4) X.x X.b dX1_readNumber_5 (by decide) ?_
  refine lv_icmp_ge (tgt := 48) X.x X.b dX1_readNumber_6 (by decide) (fun c8 => ?_) (fun c8 => ?_)
  · have h := it_t c8 h
    refine lv_aload_n X.x X.b dX1_readNumber_48 rfl (lv_at hl 0 rfl) ?_
    refine lv_iload_n X.x X.b dX1_readNumber_49 rfl (lv_at hl 1 rfl) ?_
    obtain ⟨r1, σ1, h1, h⟩ := ob_e h
    refine r_runV M (r_callV (As := [.int x1]) X M (lv_sub hl [] rfl) (T_X1_write h1 _) cal_X1_write q412 ⟨by decide, by decide⟩ hq_27 (el_27 _ _) rfl rfl rfl (Nat.le_of_ble_eq_true rfl) ⟨Nat.le_refl _, Nat.le_refl _⟩ dX1_readNumber_50) (fun H locs M => ?_)
    clear h1
    exact r_vret X M h dX1_readNumber_53
  · have h := it_f c8 h
    refine lv_aload_n X.x X.b dX1_readNumber_9 rfl (lv_at hl 0 rfl) ?_
    obtain ⟨r2, σ2, h2, h⟩ := ob_e h
    refine r_runI M (r_callV (As := []) X M (lv_sub hl [] rfl) (T_X1_sign h2 _) cal_X1_sign q401 ⟨by decide, by decide⟩ hq_27 (el_27 _ _) rfl rfl rfl (Nat.le_of_ble_eq_true rfl) ⟨Nat.le_refl _, Nat.le_refl _⟩ dX1_readNumber_10) (fun H locs M => ?_)
    clear h2
    obtain ⟨r3, σ3, h3, h⟩ := ob_e h
    refine r_runI M (r_callS (As := [.int r2]) X M (lv_sub hl [] rfl) (T_X1_isDigit h3 _) cal_X1_isDigit q405 ⟨by decide, by decide⟩ rfl rfl (Nat.le_of_ble_eq_true rfl) ⟨Nat.le_refl _, Nat.le_refl _⟩ dX1_readNumber_13) (fun H locs M => ?_)
    clear h3
    refine lv_if_eq (tgt := 48) X.x X.b dX1_readNumber_16 (by decide) (fun c7 => ?_) (fun c7 => ?_)
    · have h := it_t c7 h
      refine lv_aload_n X.x X.b dX1_readNumber_48 rfl (lv_at hl 0 rfl) ?_
      refine lv_iload_n X.x X.b dX1_readNumber_49 rfl (lv_at hl 1 rfl) ?_
      obtain ⟨r4, σ4, h4, h⟩ := ob_e h
      refine r_runV M (r_callV (As := [.int x1]) X M (lv_sub hl [] rfl) (T_X1_write h4 _) cal_X1_write q412 ⟨by decide, by decide⟩ hq_27 (el_27 _ _) rfl rfl rfl (Nat.le_of_ble_eq_true rfl) ⟨Nat.le_refl _, Nat.le_refl _⟩ dX1_readNumber_50) (fun H locs M => ?_)
      clear h4
      exact r_vret X M h dX1_readNumber_53
    · have h := it_f c7 h
      refine lv_iload_n X.x X.b dX1_readNumber_19 rfl (lv_at hl 1 rfl) ?_
      refine lv_bipush (v := 10) X.x X.b dX1_readNumber_20 (by decide) ?_
      refine lv_imul X.x X.b dX1_readNumber_22 ?_
      refine lv_aload_n X.x X.b dX1_readNumber_23 rfl (lv_at hl 0 rfl) ?_
      obtain ⟨r5, σ5, h5, h⟩ := ob_e h
      refine r_runI M (r_callV (As := []) X M (lv_sub hl [] rfl) (T_X1_sign h5 _) cal_X1_sign q401 ⟨by decide, by decide⟩ hq_27 (el_27 _ _) rfl rfl rfl (Nat.le_of_ble_eq_true rfl) ⟨Nat.le_refl _, Nat.le_refl _⟩ dX1_readNumber_24) (fun H locs M => ?_)
      clear h5
      refine lv_bipush (v := 48) X.x X.b dX1_readNumber_27 (by decide) ?_
      refine lv_isub X.x X.b dX1_readNumber_29 ?_
      refine lv_iadd X.x X.b dX1_readNumber_30 ?_
      refine lv_istore_n (lv' := [(1, .int ((x1 * 10) + (r5 - 48))), (0, .ref (Γ.1 27)), (2, .int x2)]) X.x X.b dX1_readNumber_31 rfl hl (by decide) rfl (fun ls hl => ?_)
      refine lv_aload_n X.x X.b dX1_readNumber_32 rfl (lv_at hl 1 rfl) ?_
      refine lv_dup X.x X.b dX1_readNumber_33 rfl ?_
      refine r_get X M hq_27 (el_27 _ _) rfl inX1 4 (by decide) q105 rfl rfl dX1_readNumber_34 ?_
      refine lv_iconst (v := 1) X.x X.b dX1_readNumber_37 (by decide) ?_
      refine lv_iadd X.x X.b dX1_readNumber_38 ?_
      obtain ⟨σ6, e6, h⟩ := ol_e h
      refine r_put (x := ((σ5 27 4) + 1)) (ty := .int) X M hq_27 (el_27 _ _) rfl inX1 tyX1_ok nmX1 4 (by decide) q105 rfl rfl rfl rfl rfl (Nat.le_of_ble_eq_true rfl) (pf_27_4 _ _ _) dX1_readNumber_39 (fun H locs M => ?_)
      rw [← e6] at M
      refine lv_iinc (v := (x2 + 1)) (lv' := [(2, .int (x2 + 1)), (1, .int ((x1 * 10) + (r5 - 48))), (0, .ref (Γ.1 27))]) X.x X.b dX1_readNumber_42 hl (k := 2) rfl rfl (by decide) rfl (fun ls hl => ?_)
      refine lv_goto (tgt := 4) X.x X.b dX1_readNumber_45 (by decide) ?_
      exact H4 ((x1 * 10) + (r5 - 48)) (x2 + 1) σ6 _ _ _ h M (lv_sub hl [2, 1, 0] rfl)
def f_X1_readNumber_L4 : Nat → Int32 → Int32 → St → Rs
  | 0 => fun _ _ _ => none
  | n + 1 => fun x1 x2 σ => f_X1_readNumber_b4 (f_X1_readNumber_L4 n) x1 x2 σ
theorem u_X1_readNumber_L4 {l : Launch} {Γ : Gm} {p : Program} {e : Env} {s : State} {m : MethodId} {args : Array Value} {below : List Frame} {meth : Method} {c : Code} {r : Int32} {σ' : St} (X : Cx p s m args meth c cX1_readNumber RX1 3 none Γ) : ∀ (n : Nat) (x1 : Int32) (x2 : Int32) (σ : St) (H : Heap) (locs : List Loc) (ls : Array Slot), f_X1_readNumber_L4 n x1 x2 σ = some (r, σ') → Mv Γ σ s H locs → lv_has ls 3 [(0, .ref (Γ.1 27)), (1, .int x1), (2, .int x2)] → W p l e (rmd 2) s m args below meth c H locs 0 0 (MQ below (Qv Γ σ' s.heap.size) args s 0 0 (Rg Γ s.heap.size)) (F0 m 4 ls []) := by
  intro n
  induction n with
  | zero => intro x1 x2 σ H locs ls h; cases h
  | succ n ih => intro x1 x2 σ H locs ls h; exact u_X1_readNumber_b4 X  ih x1 x2 σ H locs ls h
/-- StreetNumbers$Reader.readNumber()V -/
def f_X1_readNumber (σ : St) : Rs :=
  f_X1_readNumber_L4 LF 0 0 σ
set_option maxRecDepth 100000 in
set_option maxHeartbeats 4000000 in
theorem T_X1_readNumber {l : Launch} {Γ : Gm} {σ : St} {r : Int32} {σ' : St} (h : f_X1_readNumber σ = some (r, σ')) : MetV l yX1_readNumber cX1_readNumber 3 2 Γ σ [.ref (Γ.1 27)] σ' := by
  intro sz
  refine met_in (by decide) (Nat.le_of_ble_eq_true rfl) (fun p e s m args below meth c ls X hsz M hl => ?_)
  subst hsz
  have X : Cx p s m args meth c cX1_readNumber RX1 3 none Γ := X
  have hl : lv_has ls 3 [(0, .ref (Γ.1 27))] := hl
  unfold f_X1_readNumber at h
  refine lv_iconst (v := 0) X.x X.b dX1_readNumber_0 (by decide) ?_
  refine lv_istore_n (lv' := [(1, .int 0), (0, .ref (Γ.1 27))]) X.x X.b dX1_readNumber_1 rfl hl (by decide) rfl (fun ls hl => ?_)
  refine lv_iconst (v := 0) X.x X.b dX1_readNumber_2 (by decide) ?_
  refine lv_istore_n (lv' := [(2, .int 0), (1, .int 0), (0, .ref (Γ.1 27))]) X.x X.b dX1_readNumber_3 rfl hl (by decide) rfl (fun ls hl => ?_)
  exact u_X1_readNumber_L4 X LF 0 0 σ _ _ _ h M (lv_sub hl [2, 1, 0] rfl)
def GC_X1_reads (l : Launch) (Γ : Gm) (d : Nat) (rec : Nat → Int32 → Int32 → St → Rs) : Prop := (∀ (x1 : Int32) (x2 : Int32) (σ : St) (r : Int32) (σ' : St), rec 0 x1 x2 σ = some (r, σ') → MetI l yX1_reads cX1_reads 6 .boolean d Γ σ [.ref (Γ.1 27), .int x1, .int x2] r σ') ∧ (∀ (x1 : Int32) (x2 : Int32) (σ : St) (r : Int32) (σ' : St), rec 1 x1 x2 σ = some (r, σ') → MetI l yX1_readsOpened cX1_readsOpened 3 .boolean d Γ σ [.ref (Γ.1 27), .int x1, .int x2] r σ') ∧ (∀ (x1 : Int32) (σ : St) (r : Int32) (σ' : St), rec 2 x1 0 σ = some (r, σ') → MetI l yX1_readsSmallest cX1_readsSmallest 3 .boolean d Γ σ [.ref (Γ.1 27), .int x1] r σ')
def f_X1_reads_b39 (rec : Nat → Int32 → Int32 → St → Rs) (k39 : (Int32 → Int32 → Int32 → Int32 → St → Rs)) (x1 : Int32) (x2 : Int32) (x3 : Int32) (x4 : Int32) (σ : St) : Rs :=
  if x3 ≤ x4 then (
    some (1, σ)
  ) else (
    ob (f_X1_sign σ) fun r1 σ1 => (
    ob (f_X1_joins x1 r1 σ1) fun r2 σ2 => (
    if r2 = 0 then (
      some (1, σ2)
    ) else (
      ob (f_X1_sign σ2) fun r3 σ3 => (
      ol (st σ3 27 4 ((σ3 27 4) + 1)) fun σ4 => (
      ob (rec 0 (x1 + 1) x2 σ4) fun r5 σ5 => (
      if r5 = 0 then (
        some (0, σ5)
      ) else (
        ob (f_X1_write (-r3) σ5) fun _ σ6 => (
        k39 x1 x2 x3 (x4 + 1) σ6)
      ))))
    )))
  )
set_option maxRecDepth 100000 in
set_option maxHeartbeats 4000000 in
theorem u_X1_reads_b39 {l : Launch} {Γ : Gm} {p : Program} {e : Env} {s : State} {m : MethodId} {args : Array Value} {below : List Frame} {meth : Method} {c : Code} {r : Int32} {σ' : St} {d : Nat} {rec : Nat → Int32 → Int32 → St → Rs} {k39 : Int32 → Int32 → Int32 → Int32 → St → Rs} (X : Cx p s m args meth c cX1_reads RX1 6 (some .boolean) Γ) (HR : GC_X1_reads l Γ d rec) (hd : 3 ≤ d) (H39 : ∀ (x1 : Int32) (x2 : Int32) (x3 : Int32) (x4 : Int32) (σ : St) (H : Heap) (locs : List Loc) (ls : Array Slot), k39 x1 x2 x3 x4 σ = some (r, σ') → Mv Γ σ s H locs → lv_has ls 6 [(0, .ref (Γ.1 27)), (1, .int x1), (2, .int x2), (3, .int x3), (4, .int x4)] → W p l e (rmd (d + 1)) s m args below meth c H locs 0 0 (MQ below (Qi Γ r σ' s.heap.size) args s 0 0 (Rg Γ s.heap.size)) (F0 m 39 ls [])) (x1 : Int32) (x2 : Int32) (x3 : Int32) (x4 : Int32) (σ : St) (H : Heap) (locs : List Loc) (ls : Array Slot) (h : f_X1_reads_b39 rec k39 x1 x2 x3 x4 σ = some (r, σ')) (M : Mv Γ σ s H locs) (hl : lv_has ls 6 [(0, .ref (Γ.1 27)), (1, .int x1), (2, .int x2), (3, .int x3), (4, .int x4)]) : W p l e (rmd (d + 1)) s m args below meth c H locs 0 0 (MQ below (Qi Γ r σ' s.heap.size) args s 0 0 (Rg Γ s.heap.size)) (F0 m 39 ls []) := by
  unfold f_X1_reads_b39 at h
  refine lv_iload X.x X.b dX1_reads_39 (lv_at hl 4 rfl) ?_
  refine lv_iload_n X.x X.b dX1_reads_41 rfl (lv_at hl 3 rfl) ?_
  refine lv_icmp_ge (tgt := 98) X.x X.b dX1_reads_42 (by decide) (fun c9 => ?_) (fun c9 => ?_)
  · have h := it_t c9 h
    refine lv_iconst (v := 1) X.x X.b dX1_reads_98 (by decide) ?_
    exact r_iret X M rfl h dX1_reads_99
  · have h := it_f c9 h
    refine lv_iload_n X.x X.b dX1_reads_45 rfl (lv_at hl 1 rfl) ?_
    refine lv_aload_n X.x X.b dX1_reads_46 rfl (lv_at hl 0 rfl) ?_
    obtain ⟨r1, σ1, h1, h⟩ := ob_e h
    refine r_runI M (r_callV (As := []) X M (lv_sub hl [] rfl) (T_X1_sign h1 _) cal_X1_sign q401 ⟨by show 1 + 1 ≤ d + 1; omega, by show 8 + (1 + 11) + 48 * 1 ≤ 48 * (d + 1); omega⟩ hq_27 (el_27 _ _) rfl rfl rfl (Nat.le_of_ble_eq_true rfl) ⟨Nat.le_refl _, Nat.le_refl _⟩ dX1_reads_47) (fun H locs M => ?_)
    clear h1
    obtain ⟨r2, σ2, h2, h⟩ := ob_e h
    refine r_runI M (r_callS (As := [.int x1, .int r1]) X M (lv_sub hl [] rfl) (T_X1_joins h2 _) cal_X1_joins q426 ⟨by show 1 + 1 ≤ d + 1; omega, by show 8 + (2 + 11) + 48 * 1 ≤ 48 * (d + 1); omega⟩ rfl rfl (Nat.le_of_ble_eq_true rfl) ⟨Nat.le_refl _, Nat.le_refl _⟩ dX1_reads_50) (fun H locs M => ?_)
    clear h2
    refine lv_if_eq (tgt := 98) X.x X.b dX1_reads_53 (by decide) (fun c8 => ?_) (fun c8 => ?_)
    · have h := it_t c8 h
      refine lv_iconst (v := 1) X.x X.b dX1_reads_98 (by decide) ?_
      exact r_iret X M rfl h dX1_reads_99
    · have h := it_f c8 h
      refine lv_aload_n X.x X.b dX1_reads_56 rfl (lv_at hl 0 rfl) ?_
      obtain ⟨r3, σ3, h3, h⟩ := ob_e h
      refine r_runI M (r_callV (As := []) X M (lv_sub hl [] rfl) (T_X1_sign h3 _) cal_X1_sign q401 ⟨by show 1 + 1 ≤ d + 1; omega, by show 8 + (1 + 11) + 48 * 1 ≤ 48 * (d + 1); omega⟩ hq_27 (el_27 _ _) rfl rfl rfl (Nat.le_of_ble_eq_true rfl) ⟨Nat.le_refl _, Nat.le_refl _⟩ dX1_reads_57) (fun H locs M => ?_)
      clear h3
      refine lv_istore (lv' := [(5, .int r3), (0, .ref (Γ.1 27)), (1, .int x1), (2, .int x2), (3, .int x3), (4, .int x4)]) X.x X.b dX1_reads_60 hl (by decide) rfl (fun ls hl => ?_)
      refine lv_aload_n X.x X.b dX1_reads_62 rfl (lv_at hl 1 rfl) ?_
      refine lv_dup X.x X.b dX1_reads_63 rfl ?_
      refine r_get X M hq_27 (el_27 _ _) rfl inX1 4 (by decide) q105 rfl rfl dX1_reads_64 ?_
      refine lv_iconst (v := 1) X.x X.b dX1_reads_67 (by decide) ?_
      refine lv_iadd X.x X.b dX1_reads_68 ?_
      obtain ⟨σ4, e4, h⟩ := ol_e h
      refine r_put (x := ((σ3 27 4) + 1)) (ty := .int) X M hq_27 (el_27 _ _) rfl inX1 tyX1_ok nmX1 4 (by decide) q105 rfl rfl rfl rfl rfl (Nat.le_of_ble_eq_true rfl) (pf_27_4 _ _ _) dX1_reads_69 (fun H locs M => ?_)
      rw [← e4] at M
      refine lv_aload_n X.x X.b dX1_reads_72 rfl (lv_at hl 1 rfl) ?_
      refine lv_iload_n X.x X.b dX1_reads_73 rfl (lv_at hl 2 rfl) ?_
      refine lv_iconst (v := 1) X.x X.b dX1_reads_74 (by decide) ?_
      refine lv_iadd X.x X.b dX1_reads_75 ?_
      refine lv_iload_n X.x X.b dX1_reads_76 rfl (lv_at hl 3 rfl) ?_
      obtain ⟨r5, σ5, h5, h⟩ := ob_e h
      refine r_runI M (r_callV (As := [.int (x1 + 1), .int x2]) X M (lv_sub hl [] rfl) (HR.1 _ _ _ _ _ h5 _) cal_X1_reads q393 ⟨Nat.le_refl _, (by show 8 + (6 + 11) + 48 * d ≤ 48 * (d + 1); omega)⟩ hq_27 (el_27 _ _) rfl rfl rfl (Nat.le_of_ble_eq_true rfl) ⟨Nat.le_refl _, Nat.le_refl _⟩ dX1_reads_77) (fun H locs M => ?_)
      clear h5
      refine lv_if_ne (tgt := 85) X.x X.b dX1_reads_80 (by decide) (fun c7 => ?_) (fun c7 => ?_)
      · have h := it_f c7 h
        refine lv_aload_n X.x X.b dX1_reads_85 rfl (lv_at hl 1 rfl) ?_
        refine lv_iload X.x X.b dX1_reads_86 (lv_at hl 0 rfl) ?_
        refine lv_ineg X.x X.b dX1_reads_88 ?_
        obtain ⟨r6, σ6, h6, h⟩ := ob_e h
        refine r_runV M (r_callV (As := [.int (-r3)]) X M (lv_sub hl [] rfl) (T_X1_write h6 _) cal_X1_write q412 ⟨by show 1 + 1 ≤ d + 1; omega, by show 8 + (2 + 11) + 48 * 1 ≤ 48 * (d + 1); omega⟩ hq_27 (el_27 _ _) rfl rfl rfl (Nat.le_of_ble_eq_true rfl) ⟨Nat.le_refl _, Nat.le_refl _⟩ dX1_reads_89) (fun H locs M => ?_)
        clear h6
        refine lv_iinc (v := (x4 + 1)) (lv' := [(4, .int (x4 + 1)), (5, .int r3), (0, .ref (Γ.1 27)), (1, .int x1), (2, .int x2), (3, .int x3)]) X.x X.b dX1_reads_92 hl (k := 5) rfl rfl (by decide) rfl (fun ls hl => ?_)
        refine lv_goto (tgt := 39) X.x X.b dX1_reads_95 (by decide) ?_
        exact H39 x1 x2 x3 (x4 + 1) σ6 _ _ _ h M (lv_sub hl [2, 3, 4, 5, 0] rfl)
      · have h := it_t c7 h
        refine lv_iconst (v := 0) X.x X.b dX1_reads_83 (by decide) ?_
        exact r_iret X M rfl h dX1_reads_84
def f_X1_reads_L39 (rec : Nat → Int32 → Int32 → St → Rs) : Nat → Int32 → Int32 → Int32 → Int32 → St → Rs
  | 0 => fun _ _ _ _ _ => none
  | n + 1 => fun x1 x2 x3 x4 σ => f_X1_reads_b39 rec (f_X1_reads_L39 rec n) x1 x2 x3 x4 σ
theorem u_X1_reads_L39 {l : Launch} {Γ : Gm} {p : Program} {e : Env} {s : State} {m : MethodId} {args : Array Value} {below : List Frame} {meth : Method} {c : Code} {r : Int32} {σ' : St} {d : Nat} {rec : Nat → Int32 → Int32 → St → Rs} (X : Cx p s m args meth c cX1_reads RX1 6 (some .boolean) Γ) (HR : GC_X1_reads l Γ d rec) (hd : 3 ≤ d) : ∀ (n : Nat) (x1 : Int32) (x2 : Int32) (x3 : Int32) (x4 : Int32) (σ : St) (H : Heap) (locs : List Loc) (ls : Array Slot), f_X1_reads_L39 rec n x1 x2 x3 x4 σ = some (r, σ') → Mv Γ σ s H locs → lv_has ls 6 [(0, .ref (Γ.1 27)), (1, .int x1), (2, .int x2), (3, .int x3), (4, .int x4)] → W p l e (rmd (d + 1)) s m args below meth c H locs 0 0 (MQ below (Qi Γ r σ' s.heap.size) args s 0 0 (Rg Γ s.heap.size)) (F0 m 39 ls []) := by
  intro n
  induction n with
  | zero => intro x1 x2 x3 x4 σ H locs ls h; cases h
  | succ n ih => intro x1 x2 x3 x4 σ H locs ls h; exact u_X1_reads_b39 X HR hd  ih x1 x2 x3 x4 σ H locs ls h
/-- StreetNumbers$Reader.reads(II)Z -/
def f_X1_reads (rec : Nat → Int32 → Int32 → St → Rs) (x1 : Int32) (x2 : Int32) (σ : St) : Rs :=
  if x1 < 5 then (
    ob (rec 0 (x1 + 1) x2 σ) fun r1 σ1 => (
    if r1 = 0 then (
      some (0, σ1)
    ) else (
      if x1 = 2 then (
        f_X1_reads_L39 rec LF x1 x2 1 0 σ1
      ) else (
        f_X1_reads_L39 rec LF x1 x2 60 0 σ1
      )
    ))
  ) else (
    ob (rec 2 x2 0 σ) fun r4 σ4 => (
    if r4 = 0 ∨ r4 = 1 then some (r4, σ4) else none)
  )
set_option maxRecDepth 100000 in
set_option maxHeartbeats 4000000 in
theorem T_X1_reads {l : Launch} {Γ : Gm} {d : Nat} {rec : Nat → Int32 → Int32 → St → Rs} (HR : GC_X1_reads l Γ d rec) (hd : 3 ≤ d) {x1 : Int32} {x2 : Int32} {σ : St} {r : Int32} {σ' : St} (h : f_X1_reads rec x1 x2 σ = some (r, σ')) : MetI l yX1_reads cX1_reads 6 .boolean (d + 1) Γ σ [.ref (Γ.1 27), .int x1, .int x2] r σ' := by
  intro sz
  refine met_in (by decide) (Nat.le_of_ble_eq_true rfl) (fun p e s m args below meth c ls X hsz M hl => ?_)
  subst hsz
  have X : Cx p s m args meth c cX1_reads RX1 6 (some .boolean) Γ := X
  have hl : lv_has ls 6 [(0, .ref (Γ.1 27)), (1, .int x1), (2, .int x2)] := hl
  unfold f_X1_reads at h
  refine lv_iload_n X.x X.b dX1_reads_0 rfl (lv_at hl 1 rfl) ?_
  refine lv_iconst (v := 5) X.x X.b dX1_reads_1 (by decide) ?_
  refine lv_icmp_lt (tgt := 11) X.x X.b dX1_reads_2 (by decide) (fun c6 => ?_) (fun c6 => ?_)
  · have h := it_t c6 h
    refine lv_aload_n X.x X.b dX1_reads_11 rfl (lv_at hl 0 rfl) ?_
    refine lv_iload_n X.x X.b dX1_reads_12 rfl (lv_at hl 1 rfl) ?_
    refine lv_iconst (v := 1) X.x X.b dX1_reads_13 (by decide) ?_
    refine lv_iadd X.x X.b dX1_reads_14 ?_
    refine lv_iload_n X.x X.b dX1_reads_15 rfl (lv_at hl 2 rfl) ?_
    obtain ⟨r1, σ1, h1, h⟩ := ob_e h
    refine r_runI M (r_callV (As := [.int (x1 + 1), .int x2]) X M (lv_sub hl [] rfl) (HR.1 _ _ _ _ _ h1 _) cal_X1_reads q393 ⟨Nat.le_refl _, (by show 8 + (6 + 11) + 48 * d ≤ 48 * (d + 1); omega)⟩ hq_27 (el_27 _ _) rfl rfl rfl (Nat.le_of_ble_eq_true rfl) ⟨Nat.le_refl _, Nat.le_refl _⟩ dX1_reads_16) (fun H locs M => ?_)
    clear h1
    refine lv_if_ne (tgt := 24) X.x X.b dX1_reads_19 (by decide) (fun c3 => ?_) (fun c3 => ?_)
    · have h := it_f c3 h
      refine lv_iload_n X.x X.b dX1_reads_24 rfl (lv_at hl 1 rfl) ?_
      refine lv_iconst (v := 2) X.x X.b dX1_reads_25 (by decide) ?_
      refine lv_icmp_ne (tgt := 33) X.x X.b dX1_reads_26 (by decide) (fun c2 => ?_) (fun c2 => ?_)
      · have h := it_f c2 h
        refine lv_bipush (v := 60) X.x X.b dX1_reads_33 (by decide) ?_
        refine lv_istore_n (lv' := [(3, .int 60), (0, .ref (Γ.1 27)), (1, .int x1), (2, .int x2)]) X.x X.b dX1_reads_35 rfl hl (by decide) rfl (fun ls hl => ?_)
        refine lv_iconst (v := 0) X.x X.b dX1_reads_36 (by decide) ?_
        refine lv_istore (lv' := [(4, .int 0), (3, .int 60), (0, .ref (Γ.1 27)), (1, .int x1), (2, .int x2)]) X.x X.b dX1_reads_37 hl (by decide) rfl (fun ls hl => ?_)
        exact u_X1_reads_L39 X HR hd LF x1 x2 60 0 σ1 _ _ _ h M (lv_sub hl [2, 3, 4, 1, 0] rfl)
      · have h := it_t c2 h
        refine lv_iconst (v := 1) X.x X.b dX1_reads_29 (by decide) ?_
        refine lv_goto (tgt := 35) X.x X.b dX1_reads_30 (by decide) ?_
        refine lv_istore_n (lv' := [(3, .int 1), (0, .ref (Γ.1 27)), (1, .int x1), (2, .int x2)]) X.x X.b dX1_reads_35 rfl hl (by decide) rfl (fun ls hl => ?_)
        refine lv_iconst (v := 0) X.x X.b dX1_reads_36 (by decide) ?_
        refine lv_istore (lv' := [(4, .int 0), (3, .int 1), (0, .ref (Γ.1 27)), (1, .int x1), (2, .int x2)]) X.x X.b dX1_reads_37 hl (by decide) rfl (fun ls hl => ?_)
        exact u_X1_reads_L39 X HR hd LF x1 x2 1 0 σ1 _ _ _ h M (lv_sub hl [2, 3, 4, 1, 0] rfl)
    · have h := it_t c3 h
      refine lv_iconst (v := 0) X.x X.b dX1_reads_22 (by decide) ?_
      exact r_iret X M rfl h dX1_reads_23
  · have h := it_f c6 h
    refine lv_aload_n X.x X.b dX1_reads_5 rfl (lv_at hl 0 rfl) ?_
    refine lv_iload_n X.x X.b dX1_reads_6 rfl (lv_at hl 2 rfl) ?_
    obtain ⟨r4, σ4, h4, h⟩ := ob_e h
    refine r_runI M (r_callV (As := [.int x2]) X M (lv_sub hl [] rfl) (HR.2.2 _ _ _ _ h4 _) cal_X1_readsSmallest q397 ⟨Nat.le_refl _, (by show 8 + (3 + 11) + 48 * d ≤ 48 * (d + 1); omega)⟩ hq_27 (el_27 _ _) rfl rfl rfl (Nat.le_of_ble_eq_true rfl) ⟨Nat.le_refl _, Nat.le_refl _⟩ dX1_reads_7) (fun H locs M => ?_)
    clear h4
    obtain ⟨c5, h⟩ := it_n h
    exact r_iret X M (nar_b c5) h dX1_reads_10
/-- StreetNumbers$Reader.readsOpened(II)Z -/
def f_X1_readsOpened (rec : Nat → Int32 → Int32 → St → Rs) (x1 : Int32) (x2 : Int32) (σ : St) : Rs :=
  ol (st σ 27 4 ((σ 27 4) + 1)) fun σ1 => (
  if x1 = 33 then (
    ob (rec 2 x2 0 σ1) fun r7 σ7 => (
    if r7 = 0 then (
      some (0, σ7)
    ) else (
      ob (f_X1_write (-33) σ7) fun _ σ8 => (
      some (1, σ8))
    ))
  ) else (
    ob (rec 0 0 x2 σ1) fun r2 σ2 => (
    if r2 = 0 then (
      some (0, σ2)
    ) else (
      ob (f_X1_sign σ2) fun r3 σ3 => (
      if r3 = 41 then (
        ol (st σ3 27 4 ((σ3 27 4) + 1)) fun σ4 => (
        some (1, σ4))
      ) else (
        some (0, σ3)
      ))
    ))
  ))
set_option maxRecDepth 100000 in
set_option maxHeartbeats 4000000 in
theorem T_X1_readsOpened {l : Launch} {Γ : Gm} {d : Nat} {rec : Nat → Int32 → Int32 → St → Rs} (HR : GC_X1_reads l Γ d rec) (hd : 3 ≤ d) {x1 : Int32} {x2 : Int32} {σ : St} {r : Int32} {σ' : St} (h : f_X1_readsOpened rec x1 x2 σ = some (r, σ')) : MetI l yX1_readsOpened cX1_readsOpened 3 .boolean (d + 1) Γ σ [.ref (Γ.1 27), .int x1, .int x2] r σ' := by
  intro sz
  refine met_in (by decide) (Nat.le_of_ble_eq_true rfl) (fun p e s m args below meth c ls X hsz M hl => ?_)
  subst hsz
  have X : Cx p s m args meth c cX1_readsOpened RX1 3 (some .boolean) Γ := X
  have hl : lv_has ls 3 [(0, .ref (Γ.1 27)), (1, .int x1), (2, .int x2)] := hl
  unfold f_X1_readsOpened at h
  refine lv_aload_n X.x X.b dX1_readsOpened_0 rfl (lv_at hl 0 rfl) ?_
  refine lv_dup X.x X.b dX1_readsOpened_1 rfl ?_
  refine r_get X M hq_27 (el_27 _ _) rfl inX1 4 (by decide) q105 rfl rfl dX1_readsOpened_2 ?_
  refine lv_iconst (v := 1) X.x X.b dX1_readsOpened_5 (by decide) ?_
  refine lv_iadd X.x X.b dX1_readsOpened_6 ?_
  obtain ⟨σ1, e1, h⟩ := ol_e h
  refine r_put (x := ((σ 27 4) + 1)) (ty := .int) X M hq_27 (el_27 _ _) rfl inX1 tyX1_ok nmX1 4 (by decide) q105 rfl rfl rfl rfl rfl (Nat.le_of_ble_eq_true rfl) (pf_27_4 _ _ _) dX1_readsOpened_7 (fun H locs M => ?_)
  rw [← e1] at M
  refine lv_iload_n X.x X.b dX1_readsOpened_10 rfl (lv_at hl 1 rfl) ?_
  refine lv_bipush (v := 33) X.x X.b dX1_readsOpened_11 (by decide) ?_
  refine lv_icmp_ne (tgt := 34) X.x X.b dX1_readsOpened_13 (by decide) (fun c10 => ?_) (fun c10 => ?_)
  · have h := it_f c10 h
    refine lv_aload_n X.x X.b dX1_readsOpened_34 rfl (lv_at hl 0 rfl) ?_
    refine lv_iconst (v := 0) X.x X.b dX1_readsOpened_35 (by decide) ?_
    refine lv_iload_n X.x X.b dX1_readsOpened_36 rfl (lv_at hl 2 rfl) ?_
    obtain ⟨r2, σ2, h2, h⟩ := ob_e h
    refine r_runI M (r_callV (As := [.int 0, .int x2]) X M (lv_sub hl [] rfl) (HR.1 _ _ _ _ _ h2 _) cal_X1_reads q393 ⟨Nat.le_refl _, (by show 8 + (6 + 11) + 48 * d ≤ 48 * (d + 1); omega)⟩ hq_27 (el_27 _ _) rfl rfl rfl (Nat.le_of_ble_eq_true rfl) ⟨Nat.le_refl _, Nat.le_refl _⟩ dX1_readsOpened_37) (fun H locs M => ?_)
    clear h2
    refine lv_if_eq (tgt := 52) X.x X.b dX1_readsOpened_40 (by decide) (fun c6 => ?_) (fun c6 => ?_)
    · have h := it_t c6 h
      refine lv_iconst (v := 0) X.x X.b dX1_readsOpened_52 (by decide) ?_
      exact r_iret X M rfl h dX1_readsOpened_53
    · have h := it_f c6 h
      refine lv_aload_n X.x X.b dX1_readsOpened_43 rfl (lv_at hl 0 rfl) ?_
      obtain ⟨r3, σ3, h3, h⟩ := ob_e h
      refine r_runI M (r_callV (As := []) X M (lv_sub hl [] rfl) (T_X1_sign h3 _) cal_X1_sign q401 ⟨by show 1 + 1 ≤ d + 1; omega, by show 8 + (1 + 11) + 48 * 1 ≤ 48 * (d + 1); omega⟩ hq_27 (el_27 _ _) rfl rfl rfl (Nat.le_of_ble_eq_true rfl) ⟨Nat.le_refl _, Nat.le_refl _⟩ dX1_readsOpened_44) (fun H locs M => ?_)
      clear h3
      refine lv_bipush (v := 41) X.x X.b dX1_readsOpened_47 (by decide) ?_
      refine lv_icmp_eq (tgt := 54) X.x X.b dX1_readsOpened_49 (by decide) (fun c5 => ?_) (fun c5 => ?_)
      · have h := it_t c5 h
        refine lv_aload_n X.x X.b dX1_readsOpened_54 rfl (lv_at hl 0 rfl) ?_
        refine lv_dup X.x X.b dX1_readsOpened_55 rfl ?_
        refine r_get X M hq_27 (el_27 _ _) rfl inX1 4 (by decide) q105 rfl rfl dX1_readsOpened_56 ?_
        refine lv_iconst (v := 1) X.x X.b dX1_readsOpened_59 (by decide) ?_
        refine lv_iadd X.x X.b dX1_readsOpened_60 ?_
        obtain ⟨σ4, e4, h⟩ := ol_e h
        refine r_put (x := ((σ3 27 4) + 1)) (ty := .int) X M hq_27 (el_27 _ _) rfl inX1 tyX1_ok nmX1 4 (by decide) q105 rfl rfl rfl rfl rfl (Nat.le_of_ble_eq_true rfl) (pf_27_4 _ _ _) dX1_readsOpened_61 (fun H locs M => ?_)
        rw [← e4] at M
        refine lv_iconst (v := 1) X.x X.b dX1_readsOpened_64 (by decide) ?_
        exact r_iret X M rfl h dX1_readsOpened_65
      · have h := it_f c5 h
        refine lv_iconst (v := 0) X.x X.b dX1_readsOpened_52 (by decide) ?_
        exact r_iret X M rfl h dX1_readsOpened_53
  · have h := it_t c10 h
    refine lv_aload_n X.x X.b dX1_readsOpened_16 rfl (lv_at hl 0 rfl) ?_
    refine lv_iload_n X.x X.b dX1_readsOpened_17 rfl (lv_at hl 2 rfl) ?_
    obtain ⟨r7, σ7, h7, h⟩ := ob_e h
    refine r_runI M (r_callV (As := [.int x2]) X M (lv_sub hl [] rfl) (HR.2.2 _ _ _ _ h7 _) cal_X1_readsSmallest q397 ⟨Nat.le_refl _, (by show 8 + (3 + 11) + 48 * d ≤ 48 * (d + 1); omega)⟩ hq_27 (el_27 _ _) rfl rfl rfl (Nat.le_of_ble_eq_true rfl) ⟨Nat.le_refl _, Nat.le_refl _⟩ dX1_readsOpened_18) (fun H locs M => ?_)
    clear h7
    refine lv_if_ne (tgt := 26) X.x X.b dX1_readsOpened_21 (by decide) (fun c9 => ?_) (fun c9 => ?_)
    · have h := it_f c9 h
      refine lv_aload_n X.x X.b dX1_readsOpened_26 rfl (lv_at hl 0 rfl) ?_
      refine lv_bipush (v := (-33)) X.x X.b dX1_readsOpened_27 (by decide) ?_
      obtain ⟨r8, σ8, h8, h⟩ := ob_e h
      refine r_runV M (r_callV (As := [.int (-33)]) X M (lv_sub hl [] rfl) (T_X1_write h8 _) cal_X1_write q412 ⟨by show 1 + 1 ≤ d + 1; omega, by show 8 + (2 + 11) + 48 * 1 ≤ 48 * (d + 1); omega⟩ hq_27 (el_27 _ _) rfl rfl rfl (Nat.le_of_ble_eq_true rfl) ⟨Nat.le_refl _, Nat.le_refl _⟩ dX1_readsOpened_29) (fun H locs M => ?_)
      clear h8
      refine lv_iconst (v := 1) X.x X.b dX1_readsOpened_32 (by decide) ?_
      exact r_iret X M rfl h dX1_readsOpened_33
    · have h := it_t c9 h
      refine lv_iconst (v := 0) X.x X.b dX1_readsOpened_24 (by decide) ?_
      exact r_iret X M rfl h dX1_readsOpened_25
def f_X1_readsSmallest_b30 (rec : Nat → Int32 → Int32 → St → Rs) (x1 : Int32) (x2 : Int32) (σ : St) : Rs :=
  if 5 ≤ x1 then (
    some (0, σ)
  ) else (
    ob (rec 1 x2 (x1 + 1) σ) fun r1 σ1 => (
    if r1 = 0 then (
      some (0, σ1)
    ) else (
      some (1, σ1)
    ))
  )
set_option maxRecDepth 100000 in
set_option maxHeartbeats 4000000 in
theorem u_X1_readsSmallest_b30 {l : Launch} {Γ : Gm} {p : Program} {e : Env} {s : State} {m : MethodId} {args : Array Value} {below : List Frame} {meth : Method} {c : Code} {r : Int32} {σ' : St} {d : Nat} {rec : Nat → Int32 → Int32 → St → Rs} (X : Cx p s m args meth c cX1_readsSmallest RX1 3 (some .boolean) Γ) (HR : GC_X1_reads l Γ d rec) (hd : 3 ≤ d) (x1 : Int32) (x2 : Int32) (σ : St) (H : Heap) (locs : List Loc) (ls : Array Slot) (h : f_X1_readsSmallest_b30 rec x1 x2 σ = some (r, σ')) (M : Mv Γ σ s H locs) (hl : lv_has ls 3 [(0, .ref (Γ.1 27)), (1, .int x1), (2, .int x2)]) : W p l e (rmd (d + 1)) s m args below meth c H locs 0 0 (MQ below (Qi Γ r σ' s.heap.size) args s 0 0 (Rg Γ s.heap.size)) (F0 m 30 ls []) := by
  unfold f_X1_readsSmallest_b30 at h
  refine lv_iload_n X.x X.b dX1_readsSmallest_30 rfl (lv_at hl 1 rfl) ?_
  refine lv_iconst (v := 5) X.x X.b dX1_readsSmallest_31 (by decide) ?_
  refine lv_icmp_ge (tgt := 50) X.x X.b dX1_readsSmallest_32 (by decide) (fun c3 => ?_) (fun c3 => ?_)
  · have h := it_t c3 h
    refine lv_iconst (v := 0) X.x X.b dX1_readsSmallest_50 (by decide) ?_
    exact r_iret X M rfl h dX1_readsSmallest_51
  · have h := it_f c3 h
    refine lv_aload_n X.x X.b dX1_readsSmallest_35 rfl (lv_at hl 0 rfl) ?_
    refine lv_iload_n X.x X.b dX1_readsSmallest_36 rfl (lv_at hl 2 rfl) ?_
    refine lv_iload_n X.x X.b dX1_readsSmallest_37 rfl (lv_at hl 1 rfl) ?_
    refine lv_iconst (v := 1) X.x X.b dX1_readsSmallest_38 (by decide) ?_
    refine lv_iadd X.x X.b dX1_readsSmallest_39 ?_
    obtain ⟨r1, σ1, h1, h⟩ := ob_e h
    refine r_runI M (r_callV (As := [.int x2, .int (x1 + 1)]) X M (lv_sub hl [] rfl) (HR.2.1 _ _ _ _ _ h1 _) cal_X1_readsOpened q416 ⟨Nat.le_refl _, (by show 8 + (3 + 11) + 48 * d ≤ 48 * (d + 1); omega)⟩ hq_27 (el_27 _ _) rfl rfl rfl (Nat.le_of_ble_eq_true rfl) ⟨Nat.le_refl _, Nat.le_refl _⟩ dX1_readsSmallest_40) (fun H locs M => ?_)
    clear h1
    refine lv_if_eq (tgt := 50) X.x X.b dX1_readsSmallest_43 (by decide) (fun c2 => ?_) (fun c2 => ?_)
    · have h := it_t c2 h
      refine lv_iconst (v := 0) X.x X.b dX1_readsSmallest_50 (by decide) ?_
      exact r_iret X M rfl h dX1_readsSmallest_51
    · have h := it_f c2 h
      refine lv_iconst (v := 1) X.x X.b dX1_readsSmallest_46 (by decide) ?_
      refine lv_goto (tgt := 51) X.x X.b dX1_readsSmallest_47 (by decide) ?_
      exact r_iret X M rfl h dX1_readsSmallest_51
/-- StreetNumbers$Reader.readsSmallest(I)Z -/
def f_X1_readsSmallest (rec : Nat → Int32 → Int32 → St → Rs) (x1 : Int32) (σ : St) : Rs :=
  ob (f_X1_sign σ) fun r1 σ1 => (
  ob (f_X1_isDigit r1 σ1) fun r2 σ2 => (
  if r2 = 0 then (
    if r1 = 33 then (
      f_X1_readsSmallest_b30 rec x1 r1 σ2
    ) else (
      if r1 = 40 then (
        f_X1_readsSmallest_b30 rec x1 r1 σ2
      ) else (
        ob (f_X1_readsName r1 σ2) fun r3 σ3 => (
        if r3 = 0 ∨ r3 = 1 then some (r3, σ3) else none)
      )
    )
  ) else (
    ob (f_X1_readNumber σ2) fun _ σ7 => (
    some (1, σ7))
  )))
set_option maxRecDepth 100000 in
set_option maxHeartbeats 4000000 in
theorem T_X1_readsSmallest {l : Launch} {Γ : Gm} {d : Nat} {rec : Nat → Int32 → Int32 → St → Rs} (HR : GC_X1_reads l Γ d rec) (hd : 3 ≤ d) {x1 : Int32} {σ : St} {r : Int32} {σ' : St} (h : f_X1_readsSmallest rec x1 σ = some (r, σ')) : MetI l yX1_readsSmallest cX1_readsSmallest 3 .boolean (d + 1) Γ σ [.ref (Γ.1 27), .int x1] r σ' := by
  intro sz
  refine met_in (by decide) (Nat.le_of_ble_eq_true rfl) (fun p e s m args below meth c ls X hsz M hl => ?_)
  subst hsz
  have X : Cx p s m args meth c cX1_readsSmallest RX1 3 (some .boolean) Γ := X
  have hl : lv_has ls 3 [(0, .ref (Γ.1 27)), (1, .int x1)] := hl
  unfold f_X1_readsSmallest at h
  refine lv_aload_n X.x X.b dX1_readsSmallest_0 rfl (lv_at hl 0 rfl) ?_
  obtain ⟨r1, σ1, h1, h⟩ := ob_e h
  refine r_runI M (r_callV (As := []) X M (lv_sub hl [] rfl) (T_X1_sign h1 _) cal_X1_sign q401 ⟨by show 1 + 1 ≤ d + 1; omega, by show 8 + (1 + 11) + 48 * 1 ≤ 48 * (d + 1); omega⟩ hq_27 (el_27 _ _) rfl rfl rfl (Nat.le_of_ble_eq_true rfl) ⟨Nat.le_refl _, Nat.le_refl _⟩ dX1_readsSmallest_1) (fun H locs M => ?_)
  clear h1
  refine lv_istore_n (lv' := [(2, .int r1), (0, .ref (Γ.1 27)), (1, .int x1)]) X.x X.b dX1_readsSmallest_4 rfl hl (by decide) rfl (fun ls hl => ?_)
  refine lv_iload_n X.x X.b dX1_readsSmallest_5 rfl (lv_at hl 0 rfl) ?_
  obtain ⟨r2, σ2, h2, h⟩ := ob_e h
  refine r_runI M (r_callS (As := [.int r1]) X M (lv_sub hl [] rfl) (T_X1_isDigit h2 _) cal_X1_isDigit q405 ⟨by show 1 + 1 ≤ d + 1; omega, by show 8 + (1 + 11) + 48 * 1 ≤ 48 * (d + 1); omega⟩ rfl rfl (Nat.le_of_ble_eq_true rfl) ⟨Nat.le_refl _, Nat.le_refl _⟩ dX1_readsSmallest_6) (fun H locs M => ?_)
  clear h2
  refine lv_if_eq (tgt := 18) X.x X.b dX1_readsSmallest_9 (by decide) (fun c8 => ?_) (fun c8 => ?_)
  · have h := it_t c8 h
    refine lv_iload_n X.x X.b dX1_readsSmallest_18 rfl (lv_at hl 0 rfl) ?_
    refine lv_bipush (v := 33) X.x X.b dX1_readsSmallest_19 (by decide) ?_
    refine lv_icmp_eq (tgt := 30) X.x X.b dX1_readsSmallest_21 (by decide) (fun c6 => ?_) (fun c6 => ?_)
    · have h := it_t c6 h
      exact u_X1_readsSmallest_b30 X HR hd x1 r1 σ2 _ _ _ h M (lv_sub hl [1, 2, 0] rfl)
    · have h := it_f c6 h
      refine lv_iload_n X.x X.b dX1_readsSmallest_24 rfl (lv_at hl 0 rfl) ?_
      refine lv_bipush (v := 40) X.x X.b dX1_readsSmallest_25 (by decide) ?_
      refine lv_icmp_ne (tgt := 52) X.x X.b dX1_readsSmallest_27 (by decide) (fun c5 => ?_) (fun c5 => ?_)
      · have h := it_f c5 h
        refine lv_aload_n X.x X.b dX1_readsSmallest_52 rfl (lv_at hl 1 rfl) ?_
        refine lv_iload_n X.x X.b dX1_readsSmallest_53 rfl (lv_at hl 0 rfl) ?_
        obtain ⟨r3, σ3, h3, h⟩ := ob_e h
        refine r_runI M (r_callV (As := [.int r1]) X M (lv_sub hl [] rfl) (T_X1_readsName h3 _) cal_X1_readsName q420 ⟨by show 2 + 1 ≤ d + 1; omega, by show 8 + (4 + 11) + 48 * 2 ≤ 48 * (d + 1); omega⟩ hq_27 (el_27 _ _) rfl rfl rfl (Nat.le_of_ble_eq_true rfl) ⟨Nat.le_refl _, Nat.le_refl _⟩ dX1_readsSmallest_54) (fun H locs M => ?_)
        clear h3
        obtain ⟨c4, h⟩ := it_n h
        exact r_iret X M (nar_b c4) h dX1_readsSmallest_57
      · have h := it_t c5 h
        exact u_X1_readsSmallest_b30 X HR hd x1 r1 σ2 _ _ _ h M (lv_sub hl [1, 2, 0] rfl)
  · have h := it_f c8 h
    refine lv_aload_n X.x X.b dX1_readsSmallest_12 rfl (lv_at hl 1 rfl) ?_
    obtain ⟨r7, σ7, h7, h⟩ := ob_e h
    refine r_runV M (r_callV (As := []) X M (lv_sub hl [] rfl) (T_X1_readNumber h7 _) cal_X1_readNumber q408 ⟨by show 2 + 1 ≤ d + 1; omega, by show 8 + (3 + 11) + 48 * 2 ≤ 48 * (d + 1); omega⟩ hq_27 (el_27 _ _) rfl rfl rfl (Nat.le_of_ble_eq_true rfl) ⟨Nat.le_refl _, Nat.le_refl _⟩ dX1_readsSmallest_13) (fun H locs M => ?_)
    clear h7
    refine lv_iconst (v := 1) X.x X.b dX1_readsSmallest_16 (by decide) ?_
    exact r_iret X M rfl h dX1_readsSmallest_17
def g_X1_reads : Nat → Nat → Int32 → Int32 → St → Rs
  | 0 => fun _ _ _ _ => none
  | n + 1 => fun t a b σ => if t = 0 then f_X1_reads (g_X1_reads n) a b σ else if t = 1 then f_X1_readsOpened (g_X1_reads n) a b σ else if t = 2 then f_X1_readsSmallest (g_X1_reads n) a σ else none
theorem TG_X1_reads {l : Launch} {Γ : Gm} : ∀ n : Nat, GC_X1_reads l Γ (3 + n) (g_X1_reads n) := by
  intro n
  induction n with
  | zero => exact ⟨fun _ _ _ _ _ h => (by cases h), fun _ _ _ _ _ h => (by cases h), fun _ _ _ _ h => (by cases h)⟩
  | succ n ih =>
    exact ⟨fun _ _ _ _ _ h => T_X1_reads (l := l) (Γ := Γ) ih (by omega) h, fun _ _ _ _ _ h => T_X1_readsOpened (l := l) (Γ := Γ) ih (by omega) h, fun _ _ _ _ h => T_X1_readsSmallest (l := l) (Γ := Γ) ih (by omega) h⟩
/-- StreetNumbers$Reader.faultOf([III)I -/
def f_X1_faultOf (x1 : Nat) (x2 : Int32) (x3 : Int32) (σ : St) : Rs :=
  if (¬ (alen x1) = 0 ∧ ¬ 60 = 0) ∧ ¬ (0 : Int32) < 0 ∧ ¬ (0 : Int32) < 0 ∧ ¬ (60 : Int32) < 0 ∧ (0 : Int32).toNatClampNeg + (60 : Int32).toNatClampNeg ≤ (alen x1) ∧ (0 : Int32).toNatClampNeg + (60 : Int32).toNatClampNeg ≤ 60 then (
  ol (sR σ 29 (va_cpy (σ x1) (σ 29) (0 : Int32).toNatClampNeg (0 : Int32).toNatClampNeg (60 : Int32).toNatClampNeg)) fun σ2 => (
  ob (f_X6_held x2 0 60 σ2) fun r3 σ3 => (
  ol (st σ3 27 3 r3) fun σ4 => (
  ol (st σ4 27 4 0) fun σ5 => (
  ol (st σ5 27 1 0) fun σ6 => (
  ol (st σ6 27 5 (x3 * 3)) fun σ7 => (
  ob (g_X1_reads 100 0 0 0 σ7) fun r8 σ8 => (
  if r8 = 0 then (
    some ((σ8 27 4), σ8)
  ) else (
    if (σ8 27 4) = (σ8 27 3) then (
      some ((-1), σ8)
    ) else (
      some ((σ8 27 4), σ8)
    )
  ))))))))) else none
set_option maxRecDepth 100000 in
set_option maxHeartbeats 4000000 in
theorem T_X1_faultOf {l : Launch} {Γ : Gm} {x1 : Nat} {x2 : Int32} {x3 : Int32} {σ : St} {r : Int32} {σ' : St} (h : f_X1_faultOf x1 x2 x3 σ = some (r, σ')) : MetI l yX1_faultOf cX1_faultOf 4 .int 104 Γ σ [.ref (Γ.1 27), .ref (Γ.1 x1), .int x2, .int x3] r σ' := by
  intro sz
  refine met_in (by decide) (Nat.le_of_ble_eq_true rfl) (fun p e s m args below meth c ls X hsz M hl => ?_)
  subst hsz
  have X : Cx p s m args meth c cX1_faultOf RX1 4 (some .int) Γ := X
  have hl : lv_has ls 4 [(0, .ref (Γ.1 27)), (1, .ref (Γ.1 x1)), (2, .int x2), (3, .int x3)] := hl
  unfold f_X1_faultOf at h
  refine lv_aload_n X.x X.b dX1_faultOf_0 rfl (lv_at hl 1 rfl) ?_
  refine lv_iconst (v := 0) X.x X.b dX1_faultOf_1 (by decide) ?_
  refine lv_aload_n X.x X.b dX1_faultOf_2 rfl (lv_at hl 0 rfl) ?_
  refine r_get X M hq_27 (el_27 _ _) rfl inX1 2 (by decide) q103 rfl rfl dX1_faultOf_3 ?_
  refine lv_iconst (v := 0) X.x X.b dX1_faultOf_6 (by decide) ?_
  refine lv_bipush (v := 60) X.x X.b dX1_faultOf_7 (by decide) ?_
  obtain ⟨c1, h⟩ := it_n h
  obtain ⟨σ2, e2, h⟩ := ol_e h
  refine r_copy (q1 := x1) (q2 := 29) (n1 := (alen x1)) (n2 := 60) X M rfl rfl (lv_sub hl [] rfl) c1.1 c1.2 q391 q234 q233 q9 (by decide) (Nat.le_of_ble_eq_true rfl) dX1_faultOf_9 (fun H locs M => ?_)
  rw [← e2] at M
  refine lv_aload_n X.x X.b dX1_faultOf_12 rfl (lv_at hl 0 rfl) ?_
  refine lv_iload_n X.x X.b dX1_faultOf_13 rfl (lv_at hl 2 rfl) ?_
  refine lv_iconst (v := 0) X.x X.b dX1_faultOf_14 (by decide) ?_
  refine lv_bipush (v := 60) X.x X.b dX1_faultOf_15 (by decide) ?_
  obtain ⟨r3, σ3, h3, h⟩ := ob_e h
  refine r_runI M (r_callSN (As := [.int x2, .int 0, .int 60]) (host := "StreetNumbers") X M (lv_sub hl [] rfl) (T_X6_held h3 _) cal_X6_held nst_X1_24 ⟨by decide, by decide⟩ rfl rfl (Nat.le_of_ble_eq_true rfl) ⟨Nat.le_refl _, Nat.le_refl _⟩ dX1_faultOf_17) (fun H locs M => ?_)
  clear h3
  obtain ⟨σ4, e4, h⟩ := ol_e h
  refine r_put (x := r3) (ty := .int) X M hq_27 (el_27 _ _) rfl inX1 tyX1_ok nmX1 3 (by decide) q104 rfl rfl rfl rfl rfl (Nat.le_of_ble_eq_true rfl) (pf_27_3 _ _ _) dX1_faultOf_20 (fun H locs M => ?_)
  rw [← e4] at M
  refine lv_aload_n X.x X.b dX1_faultOf_23 rfl (lv_at hl 0 rfl) ?_
  refine lv_iconst (v := 0) X.x X.b dX1_faultOf_24 (by decide) ?_
  obtain ⟨σ5, e5, h⟩ := ol_e h
  refine r_put (x := 0) (ty := .int) X M hq_27 (el_27 _ _) rfl inX1 tyX1_ok nmX1 4 (by decide) q105 rfl rfl rfl rfl rfl (Nat.le_of_ble_eq_true rfl) (pf_27_4 _ _ _) dX1_faultOf_25 (fun H locs M => ?_)
  rw [← e5] at M
  refine lv_aload_n X.x X.b dX1_faultOf_28 rfl (lv_at hl 0 rfl) ?_
  refine lv_iconst (v := 0) X.x X.b dX1_faultOf_29 (by decide) ?_
  obtain ⟨σ6, e6, h⟩ := ol_e h
  refine r_put (x := 0) (ty := .int) X M hq_27 (el_27 _ _) rfl inX1 tyX1_ok nmX1 1 (by decide) q101 rfl rfl rfl rfl rfl (Nat.le_of_ble_eq_true rfl) (pf_27_1 _ _ _) dX1_faultOf_30 (fun H locs M => ?_)
  rw [← e6] at M
  refine lv_aload_n X.x X.b dX1_faultOf_33 rfl (lv_at hl 0 rfl) ?_
  refine lv_iload_n X.x X.b dX1_faultOf_34 rfl (lv_at hl 3 rfl) ?_
  refine lv_iconst (v := 3) X.x X.b dX1_faultOf_35 (by decide) ?_
  refine lv_imul X.x X.b dX1_faultOf_36 ?_
  obtain ⟨σ7, e7, h⟩ := ol_e h
  refine r_put (x := (x3 * 3)) (ty := .int) X M hq_27 (el_27 _ _) rfl inX1 tyX1_ok nmX1 5 (by decide) q106 rfl rfl rfl rfl rfl (Nat.le_of_ble_eq_true rfl) (pf_27_5 _ _ _) dX1_faultOf_37 (fun H locs M => ?_)
  rw [← e7] at M
  refine lv_aload_n X.x X.b dX1_faultOf_40 rfl (lv_at hl 0 rfl) ?_
  refine lv_iconst (v := 0) X.x X.b dX1_faultOf_41 (by decide) ?_
  refine lv_iconst (v := 0) X.x X.b dX1_faultOf_42 (by decide) ?_
  obtain ⟨r8, σ8, h8, h⟩ := ob_e h
  refine r_runI M (r_callV (As := [.int 0, .int 0]) X M (lv_sub hl [] rfl) ((TG_X1_reads 100).1 _ _ _ _ _ h8 _) cal_X1_reads q393 ⟨by decide, by decide⟩ hq_27 (el_27 _ _) rfl rfl rfl (Nat.le_of_ble_eq_true rfl) ⟨Nat.le_refl _, Nat.le_refl _⟩ dX1_faultOf_43) (fun H locs M => ?_)
  clear h8
  refine lv_if_eq (tgt := 64) X.x X.b dX1_faultOf_46 (by decide) (fun c10 => ?_) (fun c10 => ?_)
  · have h := it_t c10 h
    refine lv_aload_n X.x X.b dX1_faultOf_64 rfl (lv_at hl 0 rfl) ?_
    refine r_get X M hq_27 (el_27 _ _) rfl inX1 4 (by decide) q105 rfl rfl dX1_faultOf_65 ?_
    exact r_iret X M rfl h dX1_faultOf_68
  · have h := it_f c10 h
    refine lv_aload_n X.x X.b dX1_faultOf_49 rfl (lv_at hl 0 rfl) ?_
    refine r_get X M hq_27 (el_27 _ _) rfl inX1 4 (by decide) q105 rfl rfl dX1_faultOf_50 ?_
    refine lv_aload_n X.x X.b dX1_faultOf_53 rfl (lv_at hl 0 rfl) ?_
    refine r_get X M hq_27 (el_27 _ _) rfl inX1 3 (by decide) q104 rfl rfl dX1_faultOf_54 ?_
    refine lv_icmp_ne (tgt := 64) X.x X.b dX1_faultOf_57 (by decide) (fun c9 => ?_) (fun c9 => ?_)
    · have h := it_f c9 h
      refine lv_aload_n X.x X.b dX1_faultOf_64 rfl (lv_at hl 0 rfl) ?_
      refine r_get X M hq_27 (el_27 _ _) rfl inX1 4 (by decide) q105 rfl rfl dX1_faultOf_65 ?_
      exact r_iret X M rfl h dX1_faultOf_68
    · have h := it_t c9 h
      refine lv_iconst (v := (-1)) X.x X.b dX1_faultOf_60 (by decide) ?_
      refine lv_goto (tgt := 68) X.x X.b dX1_faultOf_61 (by decide) ?_
      exact r_iret X M rfl h dX1_faultOf_68
/-- StreetNumbers.text(I)I -/
def f_X6_text (x1 : Int32) (σ : St) : Rs :=
  ob (f_X6_isUse x1 σ) fun r1 σ1 => (
  if r1 = 0 then (
    ob (f_X6_failing 1 σ1) fun r6 σ6 => (
    some (r6, σ6))
  ) else (
    ob (f_X1_faultOf 3 (σ1 2 1) x1 σ1) fun r2 σ2 => (
    ol (st σ2 2 1 0) fun σ3 => (
    if r2 < 0 then (
      ob (f_X0_takeSteps_v1 x1 28 (σ3 27 1) σ3) fun _ σ4 => (
      some (1, σ4))
    ) else (
      some (((-10) - r2), σ3)
    )))
  ))
set_option maxRecDepth 100000 in
set_option maxHeartbeats 4000000 in
theorem T_X6_text {l : Launch} {Γ : Gm} {x1 : Int32} {σ : St} {r : Int32} {σ' : St} (h : f_X6_text x1 σ = some (r, σ')) : MetI l yX6_text cX6_text 4 .int 105 Γ σ [.ref (Γ.1 0), .int x1] r σ' := by
  intro sz
  refine met_in (by decide) (Nat.le_of_ble_eq_true rfl) (fun p e s m args below meth c ls X hsz M hl => ?_)
  subst hsz
  have X : Cx p s m args meth c cX6_text RX6 4 (some .int) Γ := X
  have hl : lv_has ls 4 [(0, .ref (Γ.1 0)), (1, .int x1)] := hl
  unfold f_X6_text at h
  refine lv_iload_n X.x X.b dX6_text_0 rfl (lv_at hl 1 rfl) ?_
  obtain ⟨r1, σ1, h1, h⟩ := ob_e h
  refine r_runI M (r_callS (As := [.int x1]) X M (lv_sub hl [] rfl) (T_X6_isUse h1 _) cal_X6_isUse q386 ⟨by decide, by decide⟩ rfl rfl (Nat.le_of_ble_eq_true rfl) ⟨Nat.le_refl _, Nat.le_refl _⟩ dX6_text_1) (fun H locs M => ?_)
  clear h1
  refine lv_if_ne (tgt := 13) X.x X.b dX6_text_4 (by decide) (fun c7 => ?_) (fun c7 => ?_)
  · have h := it_f c7 h
    refine lv_aload_n X.x X.b dX6_text_13 rfl (lv_at hl 0 rfl) ?_
    refine r_get X M hq_0 (el_0 _ _) rfl inX6 0 (by decide) q188 rfl rfl dX6_text_14 ?_
    refine r_get X M hq_1 (el_1 _ _) rfl inX3 0 (by decide) q53 rfl rfl dX6_text_17 ?_
    refine lv_astore_n (lv' := [(2, .ref (Γ.1 2)), (0, .ref (Γ.1 0)), (1, .int x1)]) X.x X.b dX6_text_20 rfl hl (by decide) rfl (fun ls hl => ?_)
    refine lv_aload_n X.x X.b dX6_text_21 rfl (lv_at hl 1 rfl) ?_
    refine r_get X M hq_0 (el_0 _ _) rfl inX6 2 (by decide) q190 rfl rfl dX6_text_22 ?_
    refine lv_aload_n X.x X.b dX6_text_25 rfl (lv_at hl 0 rfl) ?_
    refine r_get X M hq_2 (el_2 _ _) rfl inX0 0 (by decide) q34 rfl rfl dX6_text_26 ?_
    refine lv_aload_n X.x X.b dX6_text_29 rfl (lv_at hl 0 rfl) ?_
    refine r_get X M hq_2 (el_2 _ _) rfl inX0 1 (by decide) q36 rfl rfl dX6_text_30 ?_
    refine lv_iload_n X.x X.b dX6_text_33 rfl (lv_at hl 2 rfl) ?_
    obtain ⟨r2, σ2, h2, h⟩ := ob_e h
    refine r_runI M (r_callV (As := [.ref (Γ.1 3), .int (σ1 2 1), .int x1]) X M (lv_sub hl [] rfl) (T_X1_faultOf h2 _) cal_X1_faultOf q387 ⟨by decide, by decide⟩ hq_27 (el_27 _ _) rfl rfl rfl (Nat.le_of_ble_eq_true rfl) ⟨Nat.le_refl _, Nat.le_refl _⟩ dX6_text_34) (fun H locs M => ?_)
    clear h2
    refine lv_istore_n (lv' := [(3, .int r2), (2, .ref (Γ.1 2)), (0, .ref (Γ.1 0)), (1, .int x1)]) X.x X.b dX6_text_37 rfl hl (by decide) rfl (fun ls hl => ?_)
    refine lv_aload_n X.x X.b dX6_text_38 rfl (lv_at hl 1 rfl) ?_
    refine lv_iconst (v := 0) X.x X.b dX6_text_39 (by decide) ?_
    obtain ⟨σ3, e3, h⟩ := ol_e h
    refine r_put (x := 0) (ty := .int) X M hq_2 (el_2 _ _) rfl inX0 tyX0_ok nmX0 1 (by decide) q36 rfl rfl rfl rfl rfl (Nat.le_of_ble_eq_true rfl) (pf_2_1 _ _ _) dX6_text_40 (fun H locs M => ?_)
    rw [← e3] at M
    refine lv_iload_n X.x X.b dX6_text_43 rfl (lv_at hl 0 rfl) ?_
    refine lv_if_lt (tgt := 52) X.x X.b dX6_text_44 (by decide) (fun c5 => ?_) (fun c5 => ?_)
    · have h := it_t c5 h
      refine lv_aload_n X.x X.b dX6_text_52 rfl (lv_at hl 1 rfl) ?_
      refine lv_iload_n X.x X.b dX6_text_53 rfl (lv_at hl 3 rfl) ?_
      refine lv_aload_n X.x X.b dX6_text_54 rfl (lv_at hl 2 rfl) ?_
      refine r_get X M hq_0 (el_0 _ _) rfl inX6 2 (by decide) q190 rfl rfl dX6_text_55 ?_
      refine r_get X M hq_27 (el_27 _ _) rfl inX1 0 (by decide) q100 rfl rfl dX6_text_58 ?_
      refine lv_aload_n X.x X.b dX6_text_61 rfl (lv_at hl 2 rfl) ?_
      refine r_get X M hq_0 (el_0 _ _) rfl inX6 2 (by decide) q190 rfl rfl dX6_text_62 ?_
      refine r_get X M hq_27 (el_27 _ _) rfl inX1 1 (by decide) q102 rfl rfl dX6_text_65 ?_
      obtain ⟨r4, σ4, h4, h⟩ := ob_e h
      refine r_runV M (r_callV (As := [.int x1, .ref (Γ.1 28), .int (σ3 27 1)]) X M (lv_sub hl [] rfl) (T_X0_takeSteps_v1 h4 _) cal_X0_takeSteps q429 ⟨by decide, by decide⟩ hq_2 (el_2 _ _) rfl rfl rfl (Nat.le_of_ble_eq_true rfl) ⟨Nat.le_refl _, Nat.le_refl _⟩ dX6_text_68) (fun H locs M => ?_)
      clear h4
      refine lv_iconst (v := 1) X.x X.b dX6_text_71 (by decide) ?_
      exact r_iret X M rfl h dX6_text_72
    · have h := it_f c5 h
      refine lv_bipush (v := (-10)) X.x X.b dX6_text_47 (by decide) ?_
      refine lv_iload_n X.x X.b dX6_text_49 rfl (lv_at hl 0 rfl) ?_
      refine lv_isub X.x X.b dX6_text_50 ?_
      exact r_iret X M rfl h dX6_text_51
  · have h := it_t c7 h
    refine lv_aload_n X.x X.b dX6_text_7 rfl (lv_at hl 0 rfl) ?_
    refine lv_iconst (v := 1) X.x X.b dX6_text_8 (by decide) ?_
    obtain ⟨r6, σ6, h6, h⟩ := ob_e h
    refine r_runI M (r_callV (As := [.int 1]) X M (lv_sub hl [] rfl) (T_X6_failing h6 _) cal_X6_failing q223 ⟨by decide, by decide⟩ hq_0 (el_0 _ _) rfl rfl rfl (Nat.le_of_ble_eq_true rfl) ⟨Nat.le_refl _, Nat.le_refl _⟩ dX6_text_9) (fun H locs M => ?_)
    clear h6
    exact r_iret X M rfl h dX6_text_12
def f_X6_told_b20 (σ : St) : Rs :=
  ob (f_X6_failing 1 σ) fun r1 σ1 => (
  some (r1, σ1))
set_option maxRecDepth 100000 in
set_option maxHeartbeats 4000000 in
theorem u_X6_told_b20 {l : Launch} {Γ : Gm} {p : Program} {e : Env} {s : State} {m : MethodId} {args : Array Value} {below : List Frame} {meth : Method} {c : Code} {r : Int32} {σ' : St} (X : Cx p s m args meth c cX6_told RX6 2 (some .int) Γ) (σ : St) (H : Heap) (locs : List Loc) (ls : Array Slot) (h : f_X6_told_b20 σ = some (r, σ')) (M : Mv Γ σ s H locs) (hl : lv_has ls 2 [(0, .ref (Γ.1 0))]) : W p l e (rmd 2) s m args below meth c H locs 0 0 (MQ below (Qi Γ r σ' s.heap.size) args s 0 0 (Rg Γ s.heap.size)) (F0 m 20 ls []) := by
  unfold f_X6_told_b20 at h
  refine lv_aload_n X.x X.b dX6_told_20 rfl (lv_at hl 0 rfl) ?_
  refine lv_iconst (v := 1) X.x X.b dX6_told_21 (by decide) ?_
  obtain ⟨r1, σ1, h1, h⟩ := ob_e h
  refine r_runI M (r_callV (As := [.int 1]) X M (lv_sub hl [] rfl) (T_X6_failing h1 _) cal_X6_failing q223 ⟨by decide, by decide⟩ hq_0 (el_0 _ _) rfl rfl rfl (Nat.le_of_ble_eq_true rfl) ⟨Nat.le_refl _, Nat.le_refl _⟩ dX6_told_22) (fun H locs M => ?_)
  clear h1
  exact r_iret X M rfl h dX6_told_25
/-- StreetNumbers.told(I)I -/
def f_X6_told (x1 : Int32) (σ : St) : Rs :=
  if x1 < 1 then (
    f_X6_told_b20 σ
  ) else (
    if 6 < x1 then (
      f_X6_told_b20 σ
    ) else (
      if x1 < 7 then (
        if inb x1 7 then (
        some ((σ 65 x1.toNatClampNeg), σ)) else none
      ) else (
        f_X6_told_b20 σ
      )
    )
  )
set_option maxRecDepth 100000 in
set_option maxHeartbeats 4000000 in
theorem T_X6_told {l : Launch} {Γ : Gm} {x1 : Int32} {σ : St} {r : Int32} {σ' : St} (h : f_X6_told x1 σ = some (r, σ')) : MetI l yX6_told cX6_told 2 .int 2 Γ σ [.ref (Γ.1 0), .int x1] r σ' := by
  intro sz
  refine met_in (by decide) (Nat.le_of_ble_eq_true rfl) (fun p e s m args below meth c ls X hsz M hl => ?_)
  subst hsz
  have X : Cx p s m args meth c cX6_told RX6 2 (some .int) Γ := X
  have hl : lv_has ls 2 [(0, .ref (Γ.1 0)), (1, .int x1)] := hl
  unfold f_X6_told at h
  refine lv_iload_n X.x X.b dX6_told_0 rfl (lv_at hl 1 rfl) ?_
  refine lv_iconst (v := 1) X.x X.b dX6_told_1 (by decide) ?_
  refine lv_icmp_lt (tgt := 20) X.x X.b dX6_told_2 (by decide) (fun c4 => ?_) (fun c4 => ?_)
  · have h := it_t c4 h
    exact u_X6_told_b20 X σ _ _ _ h M (lv_sub hl [0] rfl)
  · have h := it_f c4 h
    refine lv_iload_n X.x X.b dX6_told_5 rfl (lv_at hl 1 rfl) ?_
    refine lv_bipush (v := 6) X.x X.b dX6_told_6 (by decide) ?_
    refine lv_icmp_gt (tgt := 20) X.x X.b dX6_told_8 (by decide) (fun c3 => ?_) (fun c3 => ?_)
    · have h := it_t c3 h
      exact u_X6_told_b20 X σ _ _ _ h M (lv_sub hl [0] rfl)
    · have h := it_f c3 h
      refine lv_iload_n X.x X.b dX6_told_11 rfl (lv_at hl 1 rfl) ?_
      refine lv_aload_n X.x X.b dX6_told_12 rfl (lv_at hl 0 rfl) ?_
      refine r_get X M hq_0 (el_0 _ _) rfl inX6 6 (by decide) q194 rfl rfl dX6_told_13 ?_
      refine r_alen (q := 65) (n := 7) (v := 7) X M rfl (by decide) rfl dX6_told_16 ?_
      refine lv_icmp_lt (tgt := 26) X.x X.b dX6_told_17 (by decide) (fun c2 => ?_) (fun c2 => ?_)
      · have h := it_t c2 h
        refine lv_aload_n X.x X.b dX6_told_26 rfl (lv_at hl 0 rfl) ?_
        refine r_get X M hq_0 (el_0 _ _) rfl inX6 6 (by decide) q194 rfl rfl dX6_told_27 ?_
        refine lv_iload_n X.x X.b dX6_told_30 rfl (lv_at hl 1 rfl) ?_
        obtain ⟨c1, h⟩ := it_n h
        refine r_iald (q := 65) (n := 7) X M rfl c1 dX6_told_31 ?_
        exact r_iret X M rfl h dX6_told_32
      · have h := it_f c2 h
        exact u_X6_told_b20 X σ _ _ _ h M (lv_sub hl [0] rfl)
/-- StreetNumbers$Laws.forget(I)Z -/
def f_X0_forget (x1 : Int32) (σ : St) : Rs :=
  ob (f_X6_isUse x1 σ) fun r1 σ1 => (
  if r1 = 0 then (
    if ((0 : Int32) = 0) then (
      some (0, σ1)
    ) else (
      if inb x1 2 then (
      ol (st σ1 7 x1.toNatClampNeg 0) fun σ3 => (
      some (0, σ3))) else none
    )
  ) else (
    if inb x1 2 then (
    if (σ1 7 x1.toNatClampNeg) ≤ 0 then (
      if ((0 : Int32) = 0) then (
        some (0, σ1)
      ) else (
        if inb x1 2 then (
        ol (st σ1 7 x1.toNatClampNeg 0) fun σ7 => (
        some (0, σ7))) else none
      )
    ) else (
      if ((1 : Int32) = 0) then (
        some (1, σ1)
      ) else (
        if inb x1 2 then (
        ol (st σ1 7 x1.toNatClampNeg 0) fun σ10 => (
        some (1, σ10))) else none
      )
    )) else none
  ))
set_option maxRecDepth 100000 in
set_option maxHeartbeats 4000000 in
theorem T_X0_forget {l : Launch} {Γ : Gm} {x1 : Int32} {σ : St} {r : Int32} {σ' : St} (h : f_X0_forget x1 σ = some (r, σ')) : MetI l yX0_forget cX0_forget 3 .boolean 2 Γ σ [.ref (Γ.1 2), .int x1] r σ' := by
  intro sz
  refine met_in (by decide) (Nat.le_of_ble_eq_true rfl) (fun p e s m args below meth c ls X hsz M hl => ?_)
  subst hsz
  have X : Cx p s m args meth c cX0_forget RX0 3 (some .boolean) Γ := X
  have hl : lv_has ls 3 [(0, .ref (Γ.1 2)), (1, .int x1)] := hl
  unfold f_X0_forget at h
  refine lv_iload_n X.x X.b dX0_forget_0 rfl (lv_at hl 1 rfl) ?_
  obtain ⟨r1, σ1, h1, h⟩ := ob_e h
  refine r_runI M (r_callSN (As := [.int x1]) (host := "StreetNumbers") X M (lv_sub hl [] rfl) (T_X6_isUse h1 _) cal_X6_isUse nst_X0_42 ⟨by decide, by decide⟩ rfl rfl (Nat.le_of_ble_eq_true rfl) ⟨Nat.le_refl _, Nat.le_refl _⟩ dX0_forget_1) (fun H locs M => ?_)
  clear h1
  refine lv_if_eq (tgt := 20) X.x X.b dX0_forget_4 (by decide) (fun c13 => ?_) (fun c13 => ?_)
  · have h := it_t c13 h
    refine lv_iconst (v := 0) X.x X.b dX0_forget_20 (by decide) ?_
    refine lv_istore_n (lv' := [(2, .int 0), (0, .ref (Γ.1 2)), (1, .int x1)]) X.x X.b dX0_forget_21 rfl hl (by decide) rfl (fun ls hl => ?_)
    refine lv_iload_n X.x X.b dX0_forget_22 rfl (lv_at hl 0 rfl) ?_
    refine lv_if_eq (tgt := 33) X.x X.b dX0_forget_23 (by decide) (fun c4 => ?_) (fun c4 => ?_)
    · have h := it_t c4 h
      refine lv_iload_n X.x X.b dX0_forget_33 rfl (lv_at hl 0 rfl) ?_
      exact r_iret X M rfl h dX0_forget_34
    · have h := it_f c4 h
      refine lv_aload_n X.x X.b dX0_forget_26 rfl (lv_at hl 1 rfl) ?_
      refine r_get X M hq_2 (el_2 _ _) rfl inX0 3 (by decide) q38 rfl rfl dX0_forget_27 ?_
      refine lv_iload_n X.x X.b dX0_forget_30 rfl (lv_at hl 2 rfl) ?_
      refine lv_iconst (v := 0) X.x X.b dX0_forget_31 (by decide) ?_
      obtain ⟨c2, h⟩ := it_n h
      obtain ⟨σ3, e3, h⟩ := ol_e h
      refine r_iast (q := 7) (n := 2) X M rfl c2 dX0_forget_32 (fun H locs M => ?_)
      rw [← e3] at M
      refine lv_iload_n X.x X.b dX0_forget_33 rfl (lv_at hl 0 rfl) ?_
      exact r_iret X M rfl h dX0_forget_34
  · have h := it_f c13 h
    refine lv_aload_n X.x X.b dX0_forget_7 rfl (lv_at hl 0 rfl) ?_
    refine r_get X M hq_2 (el_2 _ _) rfl inX0 3 (by decide) q38 rfl rfl dX0_forget_8 ?_
    refine lv_iload_n X.x X.b dX0_forget_11 rfl (lv_at hl 1 rfl) ?_
    obtain ⟨c5, h⟩ := it_n h
    refine r_iald (q := 7) (n := 2) X M rfl c5 dX0_forget_12 ?_
    refine lv_if_le (tgt := 20) X.x X.b dX0_forget_13 (by decide) (fun c12 => ?_) (fun c12 => ?_)
    · have h := it_t c12 h
      refine lv_iconst (v := 0) X.x X.b dX0_forget_20 (by decide) ?_
      refine lv_istore_n (lv' := [(2, .int 0), (0, .ref (Γ.1 2)), (1, .int x1)]) X.x X.b dX0_forget_21 rfl hl (by decide) rfl (fun ls hl => ?_)
      refine lv_iload_n X.x X.b dX0_forget_22 rfl (lv_at hl 0 rfl) ?_
      refine lv_if_eq (tgt := 33) X.x X.b dX0_forget_23 (by decide) (fun c8 => ?_) (fun c8 => ?_)
      · have h := it_t c8 h
        refine lv_iload_n X.x X.b dX0_forget_33 rfl (lv_at hl 0 rfl) ?_
        exact r_iret X M rfl h dX0_forget_34
      · have h := it_f c8 h
        refine lv_aload_n X.x X.b dX0_forget_26 rfl (lv_at hl 1 rfl) ?_
        refine r_get X M hq_2 (el_2 _ _) rfl inX0 3 (by decide) q38 rfl rfl dX0_forget_27 ?_
        refine lv_iload_n X.x X.b dX0_forget_30 rfl (lv_at hl 2 rfl) ?_
        refine lv_iconst (v := 0) X.x X.b dX0_forget_31 (by decide) ?_
        obtain ⟨c6, h⟩ := it_n h
        obtain ⟨σ7, e7, h⟩ := ol_e h
        refine r_iast (q := 7) (n := 2) X M rfl c6 dX0_forget_32 (fun H locs M => ?_)
        rw [← e7] at M
        refine lv_iload_n X.x X.b dX0_forget_33 rfl (lv_at hl 0 rfl) ?_
        exact r_iret X M rfl h dX0_forget_34
    · have h := it_f c12 h
      refine lv_iconst (v := 1) X.x X.b dX0_forget_16 (by decide) ?_
      refine lv_goto (tgt := 21) X.x X.b dX0_forget_17 (by decide) ?_
      refine lv_istore_n (lv' := [(2, .int 1), (0, .ref (Γ.1 2)), (1, .int x1)]) X.x X.b dX0_forget_21 rfl hl (by decide) rfl (fun ls hl => ?_)
      refine lv_iload_n X.x X.b dX0_forget_22 rfl (lv_at hl 0 rfl) ?_
      refine lv_if_eq (tgt := 33) X.x X.b dX0_forget_23 (by decide) (fun c11 => ?_) (fun c11 => ?_)
      · have h := it_t c11 h
        refine lv_iload_n X.x X.b dX0_forget_33 rfl (lv_at hl 0 rfl) ?_
        exact r_iret X M rfl h dX0_forget_34
      · have h := it_f c11 h
        refine lv_aload_n X.x X.b dX0_forget_26 rfl (lv_at hl 1 rfl) ?_
        refine r_get X M hq_2 (el_2 _ _) rfl inX0 3 (by decide) q38 rfl rfl dX0_forget_27 ?_
        refine lv_iload_n X.x X.b dX0_forget_30 rfl (lv_at hl 2 rfl) ?_
        refine lv_iconst (v := 0) X.x X.b dX0_forget_31 (by decide) ?_
        obtain ⟨c9, h⟩ := it_n h
        obtain ⟨σ10, e10, h⟩ := ol_e h
        refine r_iast (q := 7) (n := 2) X M rfl c9 dX0_forget_32 (fun H locs M => ?_)
        rw [← e10] at M
        refine lv_iload_n X.x X.b dX0_forget_33 rfl (lv_at hl 0 rfl) ?_
        exact r_iret X M rfl h dX0_forget_34
/-- StreetNumbers.untell(I)I -/
def f_X6_untell (x1 : Int32) (σ : St) : Rs :=
  ob (f_X6_isUse x1 σ) fun r1 σ1 => (
  if r1 = 0 then (
    ob (f_X6_failing 1 σ1) fun r4 σ4 => (
    some (r4, σ4))
  ) else (
    ob (f_X0_forget x1 σ1) fun r2 σ2 => (
    if r2 = 0 then (
      some (0, σ2)
    ) else (
      some (1, σ2)
    ))
  ))
set_option maxRecDepth 100000 in
set_option maxHeartbeats 4000000 in
theorem T_X6_untell {l : Launch} {Γ : Gm} {x1 : Int32} {σ : St} {r : Int32} {σ' : St} (h : f_X6_untell x1 σ = some (r, σ')) : MetI l yX6_untell cX6_untell 2 .int 3 Γ σ [.ref (Γ.1 0), .int x1] r σ' := by
  intro sz
  refine met_in (by decide) (Nat.le_of_ble_eq_true rfl) (fun p e s m args below meth c ls X hsz M hl => ?_)
  subst hsz
  have X : Cx p s m args meth c cX6_untell RX6 2 (some .int) Γ := X
  have hl : lv_has ls 2 [(0, .ref (Γ.1 0)), (1, .int x1)] := hl
  unfold f_X6_untell at h
  refine lv_iload_n X.x X.b dX6_untell_0 rfl (lv_at hl 1 rfl) ?_
  obtain ⟨r1, σ1, h1, h⟩ := ob_e h
  refine r_runI M (r_callS (As := [.int x1]) X M (lv_sub hl [] rfl) (T_X6_isUse h1 _) cal_X6_isUse q386 ⟨by decide, by decide⟩ rfl rfl (Nat.le_of_ble_eq_true rfl) ⟨Nat.le_refl _, Nat.le_refl _⟩ dX6_untell_1) (fun H locs M => ?_)
  clear h1
  refine lv_if_ne (tgt := 13) X.x X.b dX6_untell_4 (by decide) (fun c5 => ?_) (fun c5 => ?_)
  · have h := it_f c5 h
    refine lv_aload_n X.x X.b dX6_untell_13 rfl (lv_at hl 0 rfl) ?_
    refine r_get X M hq_0 (el_0 _ _) rfl inX6 0 (by decide) q188 rfl rfl dX6_untell_14 ?_
    refine r_get X M hq_1 (el_1 _ _) rfl inX3 0 (by decide) q53 rfl rfl dX6_untell_17 ?_
    refine lv_iload_n X.x X.b dX6_untell_20 rfl (lv_at hl 1 rfl) ?_
    obtain ⟨r2, σ2, h2, h⟩ := ob_e h
    refine r_runI M (r_callV (As := [.int x1]) X M (lv_sub hl [] rfl) (T_X0_forget h2 _) cal_X0_forget q438 ⟨by decide, by decide⟩ hq_2 (el_2 _ _) rfl rfl rfl (Nat.le_of_ble_eq_true rfl) ⟨Nat.le_refl _, Nat.le_refl _⟩ dX6_untell_21) (fun H locs M => ?_)
    clear h2
    refine lv_if_eq (tgt := 31) X.x X.b dX6_untell_24 (by decide) (fun c3 => ?_) (fun c3 => ?_)
    · have h := it_t c3 h
      refine lv_iconst (v := 0) X.x X.b dX6_untell_31 (by decide) ?_
      exact r_iret X M rfl h dX6_untell_32
    · have h := it_f c3 h
      refine lv_iconst (v := 1) X.x X.b dX6_untell_27 (by decide) ?_
      refine lv_goto (tgt := 32) X.x X.b dX6_untell_28 (by decide) ?_
      exact r_iret X M rfl h dX6_untell_32
  · have h := it_t c5 h
    refine lv_aload_n X.x X.b dX6_untell_7 rfl (lv_at hl 0 rfl) ?_
    refine lv_iconst (v := 1) X.x X.b dX6_untell_8 (by decide) ?_
    obtain ⟨r4, σ4, h4, h⟩ := ob_e h
    refine r_runI M (r_callV (As := [.int 1]) X M (lv_sub hl [] rfl) (T_X6_failing h4 _) cal_X6_failing q223 ⟨by decide, by decide⟩ hq_0 (el_0 _ _) rfl rfl rfl (Nat.le_of_ble_eq_true rfl) ⟨Nat.le_refl _, Nat.le_refl _⟩ dX6_untell_9) (fun H locs M => ?_)
    clear h4
    exact r_iret X M rfl h dX6_untell_12
/-- StreetNumbers$Voices.ownBody(II)I -/
def f_X5_ownBody (x0 : Int32) (x1 : Int32) (σ : St) : Rs :=
  if x0 < 0 then (
    some (0, σ)
  ) else (
    if x1 < 0 then (
      some (0, σ)
    ) else (
      if 4 ≤ x1 then (
        some (0, σ)
      ) else (
        if 28 ≤ ((x0 * 4) + x1) then (
          some (0, σ)
        ) else (
          if inb ((x0 * 4) + x1) 28 then (
          some ((tBO ((x0 * 4) + x1).toNatClampNeg), σ)) else none
        )
      )
    )
  )
set_option maxRecDepth 100000 in
set_option maxHeartbeats 4000000 in
theorem T_X5_ownBody {l : Launch} {Γ : Gm} {x0 : Int32} {x1 : Int32} {σ : St} {r : Int32} {σ' : St} (h : f_X5_ownBody x0 x1 σ = some (r, σ')) : MetI l yX5_ownBody cX5_ownBody 3 .int 1 Γ σ [.int x0, .int x1] r σ' := by
  intro sz
  refine met_in (by decide) (Nat.le_of_ble_eq_true rfl) (fun p e s m args below meth c ls X hsz M hl => ?_)
  subst hsz
  have X : Cx p s m args meth c cX5_ownBody RX5 3 (some .int) Γ := X
  have hl : lv_has ls 3 [(0, .int x0), (1, .int x1)] := hl
  unfold f_X5_ownBody at h
  refine lv_iload_n X.x X.b dX5_ownBody_0 rfl (lv_at hl 0 rfl) ?_
  refine lv_iconst (v := 4) X.x X.b dX5_ownBody_1 (by decide) ?_
  refine lv_imul X.x X.b dX5_ownBody_2 ?_
  refine lv_iload_n X.x X.b dX5_ownBody_3 rfl (lv_at hl 1 rfl) ?_
  refine lv_iadd X.x X.b dX5_ownBody_4 ?_
  refine lv_istore_n (lv' := [(2, .int ((x0 * 4) + x1)), (0, .int x0), (1, .int x1)]) X.x X.b dX5_ownBody_5 rfl hl (by decide) rfl (fun ls hl => ?_)
  refine lv_iload_n X.x X.b dX5_ownBody_6 rfl (lv_at hl 1 rfl) ?_
  refine lv_if_lt (tgt := 35) X.x X.b dX5_ownBody_7 (by decide) (fun c5 => ?_) (fun c5 => ?_)
  · have h := it_t c5 h
    refine lv_iconst (v := 0) X.x X.b dX5_ownBody_35 (by decide) ?_
    exact r_iret X M rfl h dX5_ownBody_36
  · have h := it_f c5 h
    refine lv_iload_n X.x X.b dX5_ownBody_10 rfl (lv_at hl 2 rfl) ?_
    refine lv_if_lt (tgt := 35) X.x X.b dX5_ownBody_11 (by decide) (fun c4 => ?_) (fun c4 => ?_)
    · have h := it_t c4 h
      refine lv_iconst (v := 0) X.x X.b dX5_ownBody_35 (by decide) ?_
      exact r_iret X M rfl h dX5_ownBody_36
    · have h := it_f c4 h
      refine lv_iload_n X.x X.b dX5_ownBody_14 rfl (lv_at hl 2 rfl) ?_
      refine lv_iconst (v := 4) X.x X.b dX5_ownBody_15 (by decide) ?_
      refine lv_icmp_ge (tgt := 35) X.x X.b dX5_ownBody_16 (by decide) (fun c3 => ?_) (fun c3 => ?_)
      · have h := it_t c3 h
        refine lv_iconst (v := 0) X.x X.b dX5_ownBody_35 (by decide) ?_
        exact r_iret X M rfl h dX5_ownBody_36
      · have h := it_f c3 h
        refine lv_iload_n X.x X.b dX5_ownBody_19 rfl (lv_at hl 0 rfl) ?_
        refine r_gets X M X.F.2.2.2.2.2 q609 dX5_ownBody_20 ?_
        refine r_tlen (v := 28) X M X.F.2.2.2.2.2 rfl dX5_ownBody_23 ?_
        refine lv_icmp_ge (tgt := 35) X.x X.b dX5_ownBody_24 (by decide) (fun c2 => ?_) (fun c2 => ?_)
        · have h := it_t c2 h
          refine lv_iconst (v := 0) X.x X.b dX5_ownBody_35 (by decide) ?_
          exact r_iret X M rfl h dX5_ownBody_36
        · have h := it_f c2 h
          refine r_gets X M X.F.2.2.2.2.2 q609 dX5_ownBody_27 ?_
          refine lv_iload_n X.x X.b dX5_ownBody_30 rfl (lv_at hl 0 rfl) ?_
          obtain ⟨c1, h⟩ := it_n h
          refine r_ti X M X.F.2.2.2.2.2 c1 dX5_ownBody_31 ?_
          refine lv_goto (tgt := 36) X.x X.b dX5_ownBody_32 (by decide) ?_
          exact r_iret X M rfl h dX5_ownBody_36
/-- StreetNumbers$Voices.begin(I)V -/
def f_X5_begin (x1 : Int32) (σ : St) : Rs :=
  if (σ 55 1) < 0 then (
    some (0, σ)
  ) else (
    if 30 ≤ (σ 55 1) then (
      some (0, σ)
    ) else (
      if inb (σ 55 1) 30 then (
      ol (st σ 56 (σ 55 1).toNatClampNeg x1) fun σ2 => (
      ol (st σ2 55 1 ((σ2 55 1) + 1)) fun σ3 => (
      some (0, σ3)))) else none
    )
  )
set_option maxRecDepth 100000 in
set_option maxHeartbeats 4000000 in
theorem T_X5_begin {l : Launch} {Γ : Gm} {x1 : Int32} {σ : St} {r : Int32} {σ' : St} (h : f_X5_begin x1 σ = some (r, σ')) : MetV l yX5_begin cX5_begin 2 1 Γ σ [.ref (Γ.1 55), .int x1] σ' := by
  intro sz
  refine met_in (by decide) (Nat.le_of_ble_eq_true rfl) (fun p e s m args below meth c ls X hsz M hl => ?_)
  subst hsz
  have X : Cx p s m args meth c cX5_begin RX5 2 none Γ := X
  have hl : lv_has ls 2 [(0, .ref (Γ.1 55)), (1, .int x1)] := hl
  unfold f_X5_begin at h
  refine lv_aload_n X.x X.b dX5_begin_0 rfl (lv_at hl 0 rfl) ?_
  refine r_get X M hq_55 (el_55 _ _) rfl inX5 1 (by decide) q152 rfl rfl dX5_begin_1 ?_
  refine lv_if_lt (tgt := 36) X.x X.b dX5_begin_4 (by decide) (fun c5 => ?_) (fun c5 => ?_)
  · have h := it_t c5 h
    exact r_vret X M h dX5_begin_36
  · have h := it_f c5 h
    refine lv_aload_n X.x X.b dX5_begin_7 rfl (lv_at hl 0 rfl) ?_
    refine r_get X M hq_55 (el_55 _ _) rfl inX5 1 (by decide) q152 rfl rfl dX5_begin_8 ?_
    refine lv_bipush (v := 30) X.x X.b dX5_begin_11 (by decide) ?_
    refine lv_icmp_ge (tgt := 36) X.x X.b dX5_begin_13 (by decide) (fun c4 => ?_) (fun c4 => ?_)
    · have h := it_t c4 h
      exact r_vret X M h dX5_begin_36
    · have h := it_f c4 h
      refine lv_aload_n X.x X.b dX5_begin_16 rfl (lv_at hl 0 rfl) ?_
      refine r_get X M hq_55 (el_55 _ _) rfl inX5 2 (by decide) q154 rfl rfl dX5_begin_17 ?_
      refine lv_aload_n X.x X.b dX5_begin_20 rfl (lv_at hl 0 rfl) ?_
      refine r_get X M hq_55 (el_55 _ _) rfl inX5 1 (by decide) q152 rfl rfl dX5_begin_21 ?_
      refine lv_iload_n X.x X.b dX5_begin_24 rfl (lv_at hl 1 rfl) ?_
      obtain ⟨c1, h⟩ := it_n h
      obtain ⟨σ2, e2, h⟩ := ol_e h
      refine r_iast (q := 56) (n := 30) X M rfl c1 dX5_begin_25 (fun H locs M => ?_)
      rw [← e2] at M
      refine lv_aload_n X.x X.b dX5_begin_26 rfl (lv_at hl 0 rfl) ?_
      refine lv_dup X.x X.b dX5_begin_27 rfl ?_
      refine r_get X M hq_55 (el_55 _ _) rfl inX5 1 (by decide) q152 rfl rfl dX5_begin_28 ?_
      refine lv_iconst (v := 1) X.x X.b dX5_begin_31 (by decide) ?_
      refine lv_iadd X.x X.b dX5_begin_32 ?_
      obtain ⟨σ3, e3, h⟩ := ol_e h
      refine r_put (x := ((σ2 55 1) + 1)) (ty := .int) X M hq_55 (el_55 _ _) rfl inX5 tyX5_ok nmX5 1 (by decide) q152 rfl rfl rfl rfl rfl (Nat.le_of_ble_eq_true rfl) (pf_55_1 _ _ _) dX5_begin_33 (fun H locs M => ?_)
      rw [← e3] at M
      exact r_vret X M h dX5_begin_36
