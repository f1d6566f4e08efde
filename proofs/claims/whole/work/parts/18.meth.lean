def GC_X7_both (l : Launch) (Γ : Gm) (d : Nat) (rec : Nat → St → Rs) : Prop := (∀ (σ : St) (r : Int32) (σ' : St), rec 0 σ = some (r, σ') → MetI l yX7_both cX7_both 1 .boolean d Γ σ [.ref (Γ.1 66)] r σ') ∧ (∀ (σ : St) (r : Int32) (σ' : St), rec 1 σ = some (r, σ') → MetI l yX7_compared cX7_compared 2 .boolean d Γ σ [.ref (Γ.1 66)] r σ') ∧ (∀ (σ : St) (r : Int32) (σ' : St), rec 2 σ = some (r, σ') → MetI l yX7_one cX7_one 4 .boolean d Γ σ [.ref (Γ.1 66)] r σ') ∧ (∀ (σ : St) (r : Int32) (σ' : St), rec 3 σ = some (r, σ') → MetI l yX7_product cX7_product 2 .boolean d Γ σ [.ref (Γ.1 66)] r σ') ∧ (∀ (σ : St) (r : Int32) (σ' : St), rec 4 σ = some (r, σ') → MetI l yX7_sum cX7_sum 2 .boolean d Γ σ [.ref (Γ.1 66)] r σ') ∧ (∀ (σ : St) (r : Int32) (σ' : St), rec 5 σ = some (r, σ') → MetI l yX7_whole cX7_whole 1 .boolean d Γ σ [.ref (Γ.1 66)] r σ')
def f_X7_both_b9 (rec : Nat → St → Rs) (k9 : (St → Rs)) (σ : St) : Rs :=
  ob (f_X7_look σ) fun r1 σ1 => (
  if r1 = 38 then (
    ol (st σ1 66 4 ((σ1 66 4) + 1)) fun σ2 => (
    ob (rec 1 σ2) fun r3 σ3 => (
    if r3 = 0 then (
      some (0, σ3)
    ) else (
      ob (f_X7_step1 3 38 σ3) fun _ σ4 => (
      k9 σ4)
    )))
  ) else (
    some (1, σ1)
  ))
set_option maxRecDepth 100000 in
set_option maxHeartbeats 4000000 in
theorem u_X7_both_b9 {l : Launch} {Γ : Gm} {p : Program} {e : Env} {s : State} {m : MethodId} {args : Array Value} {below : List Frame} {meth : Method} {c : Code} {r : Int32} {σ' : St} {d : Nat} {rec : Nat → St → Rs} {k9 : St → Rs} (X : Cx p s m args meth c cX7_both RX7 1 (some .boolean) Γ) (HR : GC_X7_both l Γ d rec) (hd : 2 ≤ d) (H9 : ∀ (σ : St) (H : Heap) (locs : List Loc) (ls : Array Slot), k9 σ = some (r, σ') → Mv Γ σ s H locs → lv_has ls 1 [(0, .ref (Γ.1 66))] → W p l e (rmd (d + 1)) s m args below meth c H locs 0 0 (MQ below (Qi Γ r σ' s.heap.size) args s 0 0 (Rg Γ s.heap.size)) (F0 m 9 ls [])) (σ : St) (H : Heap) (locs : List Loc) (ls : Array Slot) (h : f_X7_both_b9 rec k9 σ = some (r, σ')) (M : Mv Γ σ s H locs) (hl : lv_has ls 1 [(0, .ref (Γ.1 66))]) : W p l e (rmd (d + 1)) s m args below meth c H locs 0 0 (MQ below (Qi Γ r σ' s.heap.size) args s 0 0 (Rg Γ s.heap.size)) (F0 m 9 ls []) := by
  unfold f_X7_both_b9 at h
  refine lv_aload_n X.x X.b dX7_both_9 rfl (lv_at hl 0 rfl) ?_
  obtain ⟨r1, σ1, h1, h⟩ := ob_e h
  refine r_runI M (r_callV (As := []) X M (lv_sub hl [] rfl) (T_X7_look h1 _) cal_X7_look q836 ⟨by show 1 + 1 ≤ d + 1; omega, by show 8 + (1 + 11) + 48 * 1 ≤ 48 * (d + 1); omega⟩ hq_66 (el_66 _ _) rfl rfl rfl (Nat.le_of_ble_eq_true rfl) ⟨Nat.le_refl _, Nat.le_refl _⟩ dX7_both_10) (fun H locs M => ?_)
  clear h1
  refine lv_bipush (v := 38) X.x X.b dX7_both_13 (by decide) ?_
  refine lv_icmp_ne (tgt := 47) X.x X.b dX7_both_15 (by decide) (fun c6 => ?_) (fun c6 => ?_)
  · have h := it_f c6 h
    refine lv_iconst (v := 1) X.x X.b dX7_both_47 (by decide) ?_
    exact r_iret X M rfl h dX7_both_48
  · have h := it_t c6 h
    refine lv_aload_n X.x X.b dX7_both_18 rfl (lv_at hl 0 rfl) ?_
    refine lv_dup X.x X.b dX7_both_19 rfl ?_
    refine r_get X M hq_66 (el_66 _ _) rfl inX7 4 (by decide) q732 rfl rfl dX7_both_20 ?_
    refine lv_iconst (v := 1) X.x X.b dX7_both_23 (by decide) ?_
    refine lv_iadd X.x X.b dX7_both_24 ?_
    obtain ⟨σ2, e2, h⟩ := ol_e h
    refine r_put (x := ((σ1 66 4) + 1)) (ty := .int) X M hq_66 (el_66 _ _) rfl inX7 tyX7_ok nmX7 4 (by decide) q732 rfl rfl rfl rfl rfl (Nat.le_of_ble_eq_true rfl) (pf_66_4 _ _ _) dX7_both_25 (fun H locs M => ?_)
    rw [← e2] at M
    refine lv_aload_n X.x X.b dX7_both_28 rfl (lv_at hl 0 rfl) ?_
    obtain ⟨r3, σ3, h3, h⟩ := ob_e h
    refine r_runI M (r_callV (As := []) X M (lv_sub hl [] rfl) (HR.2.1 _ _ _ h3 _) cal_X7_compared q820 ⟨Nat.le_refl _, (by show 8 + (2 + 11) + 48 * d ≤ 48 * (d + 1); omega)⟩ hq_66 (el_66 _ _) rfl rfl rfl (Nat.le_of_ble_eq_true rfl) ⟨Nat.le_refl _, Nat.le_refl _⟩ dX7_both_29) (fun H locs M => ?_)
    clear h3
    refine lv_if_ne (tgt := 37) X.x X.b dX7_both_32 (by decide) (fun c5 => ?_) (fun c5 => ?_)
    · have h := it_f c5 h
      refine lv_aload_n X.x X.b dX7_both_37 rfl (lv_at hl 0 rfl) ?_
      refine lv_iconst (v := 3) X.x X.b dX7_both_38 (by decide) ?_
      refine lv_bipush (v := 38) X.x X.b dX7_both_39 (by decide) ?_
      obtain ⟨r4, σ4, h4, h⟩ := ob_e h
      refine r_runV M (r_callV (As := [.int 3, .int 38]) X M (lv_sub hl [] rfl) (T_X7_step1 h4 _) cal_X7_step1 q844 ⟨by show 1 + 1 ≤ d + 1; omega, by show 8 + (3 + 11) + 48 * 1 ≤ 48 * (d + 1); omega⟩ hq_66 (el_66 _ _) rfl rfl rfl (Nat.le_of_ble_eq_true rfl) ⟨Nat.le_refl _, Nat.le_refl _⟩ dX7_both_41) (fun H locs M => ?_)
      clear h4
      refine lv_goto (tgt := 9) X.x X.b dX7_both_44 (by decide) ?_
      exact H9 σ4 _ _ _ h M (lv_sub hl [0] rfl)
    · have h := it_t c5 h
      refine lv_iconst (v := 0) X.x X.b dX7_both_35 (by decide) ?_
      exact r_iret X M rfl h dX7_both_36
def f_X7_both_L9 (rec : Nat → St → Rs) : Nat → St → Rs
  | 0 => fun _ => none
  | n + 1 => fun σ => f_X7_both_b9 rec (f_X7_both_L9 rec n) σ
theorem u_X7_both_L9 {l : Launch} {Γ : Gm} {p : Program} {e : Env} {s : State} {m : MethodId} {args : Array Value} {below : List Frame} {meth : Method} {c : Code} {r : Int32} {σ' : St} {d : Nat} {rec : Nat → St → Rs} (X : Cx p s m args meth c cX7_both RX7 1 (some .boolean) Γ) (HR : GC_X7_both l Γ d rec) (hd : 2 ≤ d) : ∀ (n : Nat) (σ : St) (H : Heap) (locs : List Loc) (ls : Array Slot), f_X7_both_L9 rec n σ = some (r, σ') → Mv Γ σ s H locs → lv_has ls 1 [(0, .ref (Γ.1 66))] → W p l e (rmd (d + 1)) s m args below meth c H locs 0 0 (MQ below (Qi Γ r σ' s.heap.size) args s 0 0 (Rg Γ s.heap.size)) (F0 m 9 ls []) := by
  intro n
  induction n with
  | zero => intro σ H locs ls h; cases h
  | succ n ih => intro σ H locs ls h; exact u_X7_both_b9 X HR hd  ih σ H locs ls h
/-- StreetNumbersModel.both()Z -/
def f_X7_both (rec : Nat → St → Rs) (σ : St) : Rs :=
  ob (rec 1 σ) fun r1 σ1 => (
  if r1 = 0 then (
    some (0, σ1)
  ) else (
    f_X7_both_L9 rec LF σ1
  ))
set_option maxRecDepth 100000 in
set_option maxHeartbeats 4000000 in
theorem T_X7_both {l : Launch} {Γ : Gm} {d : Nat} {rec : Nat → St → Rs} (HR : GC_X7_both l Γ d rec) (hd : 2 ≤ d) {σ : St} {r : Int32} {σ' : St} (h : f_X7_both rec σ = some (r, σ')) : MetI l yX7_both cX7_both 1 .boolean (d + 1) Γ σ [.ref (Γ.1 66)] r σ' := by
  intro sz
  refine met_in (by decide) (Nat.le_of_ble_eq_true rfl) (fun p e s m args below meth c ls X hsz M hl => ?_)
  subst hsz
  have X : Cx p s m args meth c cX7_both RX7 1 (some .boolean) Γ := X
  have hl : lv_has ls 1 [(0, .ref (Γ.1 66))] := hl
  unfold f_X7_both at h
  refine lv_aload_n X.x X.b dX7_both_0 rfl (lv_at hl 0 rfl) ?_
  obtain ⟨r1, σ1, h1, h⟩ := ob_e h
  refine r_runI M (r_callV (As := []) X M (lv_sub hl [] rfl) (HR.2.1 _ _ _ h1 _) cal_X7_compared q820 ⟨Nat.le_refl _, (by show 8 + (2 + 11) + 48 * d ≤ 48 * (d + 1); omega)⟩ hq_66 (el_66 _ _) rfl rfl rfl (Nat.le_of_ble_eq_true rfl) ⟨Nat.le_refl _, Nat.le_refl _⟩ dX7_both_1) (fun H locs M => ?_)
  clear h1
  refine lv_if_ne (tgt := 9) X.x X.b dX7_both_4 (by decide) (fun c2 => ?_) (fun c2 => ?_)
  · have h := it_f c2 h
    exact u_X7_both_L9 X HR hd LF σ1 _ _ _ h M (lv_sub hl [0] rfl)
  · have h := it_t c2 h
    refine lv_iconst (v := 0) X.x X.b dX7_both_7 (by decide) ?_
    exact r_iret X M rfl h dX7_both_8
def f_X7_compared_b34 (rec : Nat → St → Rs) (x1 : Int32) (σ : St) : Rs :=
  ol (st σ 66 4 ((σ 66 4) + 1)) fun σ1 => (
  ob (rec 4 σ1) fun r2 σ2 => (
  if r2 = 0 then (
    some (0, σ2)
  ) else (
    ob (f_X7_step1 3 x1 σ2) fun _ σ3 => (
    some (1, σ3))
  )))
set_option maxRecDepth 100000 in
set_option maxHeartbeats 4000000 in
theorem u_X7_compared_b34 {l : Launch} {Γ : Gm} {p : Program} {e : Env} {s : State} {m : MethodId} {args : Array Value} {below : List Frame} {meth : Method} {c : Code} {r : Int32} {σ' : St} {d : Nat} {rec : Nat → St → Rs} (X : Cx p s m args meth c cX7_compared RX7 2 (some .boolean) Γ) (HR : GC_X7_both l Γ d rec) (hd : 2 ≤ d) (x1 : Int32) (σ : St) (H : Heap) (locs : List Loc) (ls : Array Slot) (h : f_X7_compared_b34 rec x1 σ = some (r, σ')) (M : Mv Γ σ s H locs) (hl : lv_has ls 2 [(0, .ref (Γ.1 66)), (1, .int x1)]) : W p l e (rmd (d + 1)) s m args below meth c H locs 0 0 (MQ below (Qi Γ r σ' s.heap.size) args s 0 0 (Rg Γ s.heap.size)) (F0 m 34 ls []) := by
  unfold f_X7_compared_b34 at h
  refine lv_aload_n X.x X.b dX7_compared_34 rfl (lv_at hl 0 rfl) ?_
  refine lv_dup X.x X.b dX7_compared_35 rfl ?_
  refine r_get X M hq_66 (el_66 _ _) rfl inX7 4 (by decide) q732 rfl rfl dX7_compared_36 ?_
  refine lv_iconst (v := 1) X.x X.b dX7_compared_39 (by decide) ?_
  refine lv_iadd X.x X.b dX7_compared_40 ?_
  obtain ⟨σ1, e1, h⟩ := ol_e h
  refine r_put (x := ((σ 66 4) + 1)) (ty := .int) X M hq_66 (el_66 _ _) rfl inX7 tyX7_ok nmX7 4 (by decide) q732 rfl rfl rfl rfl rfl (Nat.le_of_ble_eq_true rfl) (pf_66_4 _ _ _) dX7_compared_41 (fun H locs M => ?_)
  rw [← e1] at M
  refine lv_aload_n X.x X.b dX7_compared_44 rfl (lv_at hl 0 rfl) ?_
  obtain ⟨r2, σ2, h2, h⟩ := ob_e h
  refine r_runI M (r_callV (As := []) X M (lv_sub hl [] rfl) (HR.2.2.2.2.1 _ _ _ h2 _) cal_X7_sum q824 ⟨Nat.le_refl _, (by show 8 + (2 + 11) + 48 * d ≤ 48 * (d + 1); omega)⟩ hq_66 (el_66 _ _) rfl rfl rfl (Nat.le_of_ble_eq_true rfl) ⟨Nat.le_refl _, Nat.le_refl _⟩ dX7_compared_45) (fun H locs M => ?_)
  clear h2
  refine lv_if_ne (tgt := 53) X.x X.b dX7_compared_48 (by decide) (fun c4 => ?_) (fun c4 => ?_)
  · have h := it_f c4 h
    refine lv_aload_n X.x X.b dX7_compared_53 rfl (lv_at hl 0 rfl) ?_
    refine lv_iconst (v := 3) X.x X.b dX7_compared_54 (by decide) ?_
    refine lv_iload_n X.x X.b dX7_compared_55 rfl (lv_at hl 1 rfl) ?_
    obtain ⟨r3, σ3, h3, h⟩ := ob_e h
    refine r_runV M (r_callV (As := [.int 3, .int x1]) X M (lv_sub hl [] rfl) (T_X7_step1 h3 _) cal_X7_step1 q844 ⟨by show 1 + 1 ≤ d + 1; omega, by show 8 + (3 + 11) + 48 * 1 ≤ 48 * (d + 1); omega⟩ hq_66 (el_66 _ _) rfl rfl rfl (Nat.le_of_ble_eq_true rfl) ⟨Nat.le_refl _, Nat.le_refl _⟩ dX7_compared_56) (fun H locs M => ?_)
    clear h3
    refine lv_iconst (v := 1) X.x X.b dX7_compared_59 (by decide) ?_
    exact r_iret X M rfl h dX7_compared_60
  · have h := it_t c4 h
    refine lv_iconst (v := 0) X.x X.b dX7_compared_51 (by decide) ?_
    exact r_iret X M rfl h dX7_compared_52
/-- StreetNumbersModel.compared()Z -/
def f_X7_compared (rec : Nat → St → Rs) (σ : St) : Rs :=
  ob (rec 4 σ) fun r1 σ1 => (
  if r1 = 0 then (
    some (0, σ1)
  ) else (
    ob (f_X7_look σ1) fun r2 σ2 => (
    if r2 = 60 then (
      f_X7_compared_b34 rec r2 σ2
    ) else (
      if r2 = 61 then (
        f_X7_compared_b34 rec r2 σ2
      ) else (
        if r2 = 62 then (
          f_X7_compared_b34 rec r2 σ2
        ) else (
          some (1, σ2)
        )
      )
    ))
  ))
set_option maxRecDepth 100000 in
set_option maxHeartbeats 4000000 in
theorem T_X7_compared {l : Launch} {Γ : Gm} {d : Nat} {rec : Nat → St → Rs} (HR : GC_X7_both l Γ d rec) (hd : 2 ≤ d) {σ : St} {r : Int32} {σ' : St} (h : f_X7_compared rec σ = some (r, σ')) : MetI l yX7_compared cX7_compared 2 .boolean (d + 1) Γ σ [.ref (Γ.1 66)] r σ' := by
  intro sz
  refine met_in (by decide) (Nat.le_of_ble_eq_true rfl) (fun p e s m args below meth c ls X hsz M hl => ?_)
  subst hsz
  have X : Cx p s m args meth c cX7_compared RX7 2 (some .boolean) Γ := X
  have hl : lv_has ls 2 [(0, .ref (Γ.1 66))] := hl
  unfold f_X7_compared at h
  refine lv_aload_n X.x X.b dX7_compared_0 rfl (lv_at hl 0 rfl) ?_
  obtain ⟨r1, σ1, h1, h⟩ := ob_e h
  refine r_runI M (r_callV (As := []) X M (lv_sub hl [] rfl) (HR.2.2.2.2.1 _ _ _ h1 _) cal_X7_sum q824 ⟨Nat.le_refl _, (by show 8 + (2 + 11) + 48 * d ≤ 48 * (d + 1); omega)⟩ hq_66 (el_66 _ _) rfl rfl rfl (Nat.le_of_ble_eq_true rfl) ⟨Nat.le_refl _, Nat.le_refl _⟩ dX7_compared_1) (fun H locs M => ?_)
  clear h1
  refine lv_if_ne (tgt := 9) X.x X.b dX7_compared_4 (by decide) (fun c6 => ?_) (fun c6 => ?_)
  · have h := it_f c6 h
    refine lv_aload_n X.x X.b dX7_compared_9 rfl (lv_at hl 0 rfl) ?_
    obtain ⟨r2, σ2, h2, h⟩ := ob_e h
    refine r_runI M (r_callV (As := []) X M (lv_sub hl [] rfl) (T_X7_look h2 _) cal_X7_look q836 ⟨by show 1 + 1 ≤ d + 1; omega, by show 8 + (1 + 11) + 48 * 1 ≤ 48 * (d + 1); omega⟩ hq_66 (el_66 _ _) rfl rfl rfl (Nat.le_of_ble_eq_true rfl) ⟨Nat.le_refl _, Nat.le_refl _⟩ dX7_compared_10) (fun H locs M => ?_)
    clear h2
    refine lv_istore_n (lv' := [(1, .int r2), (0, .ref (Γ.1 66))]) X.x X.b dX7_compared_13 rfl hl (by decide) rfl (fun ls hl => ?_)
    refine lv_iload_n X.x X.b dX7_compared_14 rfl (lv_at hl 0 rfl) ?_
    refine lv_bipush (v := 60) X.x X.b dX7_compared_15 (by decide) ?_
    refine lv_icmp_eq (tgt := 34) X.x X.b dX7_compared_17 (by decide) (fun c5 => ?_) (fun c5 => ?_)
    · have h := it_t c5 h
      exact u_X7_compared_b34 X HR hd r2 σ2 _ _ _ h M (lv_sub hl [1, 0] rfl)
    · have h := it_f c5 h
      refine lv_iload_n X.x X.b dX7_compared_20 rfl (lv_at hl 0 rfl) ?_
      refine lv_bipush (v := 61) X.x X.b dX7_compared_21 (by decide) ?_
      refine lv_icmp_eq (tgt := 34) X.x X.b dX7_compared_23 (by decide) (fun c4 => ?_) (fun c4 => ?_)
      · have h := it_t c4 h
        exact u_X7_compared_b34 X HR hd r2 σ2 _ _ _ h M (lv_sub hl [1, 0] rfl)
      · have h := it_f c4 h
        refine lv_iload_n X.x X.b dX7_compared_26 rfl (lv_at hl 0 rfl) ?_
        refine lv_bipush (v := 62) X.x X.b dX7_compared_27 (by decide) ?_
        refine lv_icmp_eq (tgt := 34) X.x X.b dX7_compared_29 (by decide) (fun c3 => ?_) (fun c3 => ?_)
        · have h := it_t c3 h
          exact u_X7_compared_b34 X HR hd r2 σ2 _ _ _ h M (lv_sub hl [1, 0] rfl)
        · have h := it_f c3 h
          refine lv_iconst (v := 1) X.x X.b dX7_compared_32 (by decide) ?_
          exact r_iret X M rfl h dX7_compared_33
  · have h := it_t c6 h
    refine lv_iconst (v := 0) X.x X.b dX7_compared_7 (by decide) ?_
    exact r_iret X M rfl h dX7_compared_8
def f_X7_one_b46 (rec : Nat → St → Rs) (k46 : (Int32 → Int32 → St → Rs)) (x2 : Int32) (x3 : Int32) (σ : St) : Rs :=
  if 4 ≤ x3 then (
    ob (f_X7_step1 0 x2 σ) fun _ σ1 => (
    some (1, σ1))
  ) else (
    ob (f_X7_look σ) fun r2 σ2 => (
    ob (f_X7_in r2 48 57 σ2) fun r3 σ3 => (
    if r3 = 0 then (
      ob (f_X7_step1 0 x2 σ3) fun _ σ4 => (
      some (1, σ4))
    ) else (
      ob (f_X7_look σ3) fun r5 σ5 => (
      ol (st σ5 66 4 ((σ5 66 4) + 1)) fun σ6 => (
      k46 (((10 * x2) + r5) - 48) (x3 + 1) σ6))
    )))
  )
set_option maxRecDepth 100000 in
set_option maxHeartbeats 4000000 in
theorem u_X7_one_b46 {l : Launch} {Γ : Gm} {p : Program} {e : Env} {s : State} {m : MethodId} {args : Array Value} {below : List Frame} {meth : Method} {c : Code} {r : Int32} {σ' : St} {d : Nat} {rec : Nat → St → Rs} {k46 : Int32 → Int32 → St → Rs} (X : Cx p s m args meth c cX7_one RX7 4 (some .boolean) Γ) (HR : GC_X7_both l Γ d rec) (hd : 2 ≤ d) (H46 : ∀ (x2 : Int32) (x3 : Int32) (σ : St) (H : Heap) (locs : List Loc) (ls : Array Slot), k46 x2 x3 σ = some (r, σ') → Mv Γ σ s H locs → lv_has ls 4 [(0, .ref (Γ.1 66)), (2, .int x2), (3, .int x3)] → W p l e (rmd (d + 1)) s m args below meth c H locs 0 0 (MQ below (Qi Γ r σ' s.heap.size) args s 0 0 (Rg Γ s.heap.size)) (F0 m 46 ls [])) (x2 : Int32) (x3 : Int32) (σ : St) (H : Heap) (locs : List Loc) (ls : Array Slot) (h : f_X7_one_b46 rec k46 x2 x3 σ = some (r, σ')) (M : Mv Γ σ s H locs) (hl : lv_has ls 4 [(0, .ref (Γ.1 66)), (2, .int x2), (3, .int x3)]) : W p l e (rmd (d + 1)) s m args below meth c H locs 0 0 (MQ below (Qi Γ r σ' s.heap.size) args s 0 0 (Rg Γ s.heap.size)) (F0 m 46 ls []) := by
  unfold f_X7_one_b46 at h
  refine lv_iload_n X.x X.b dX7_one_46 rfl (lv_at hl 2 rfl) ?_
  refine lv_iconst (v := 4) X.x X.b dX7_one_47 (by decide) ?_
  refine lv_icmp_ge (tgt := 94) X.x X.b dX7_one_48 (by decide) (fun c8 => ?_) (fun c8 => ?_)
  · have h := it_t c8 h
    refine lv_aload_n X.x X.b dX7_one_94 rfl (lv_at hl 0 rfl) ?_
    refine lv_iconst (v := 0) X.x X.b dX7_one_95 (by decide) ?_
    refine lv_iload_n X.x X.b dX7_one_96 rfl (lv_at hl 1 rfl) ?_
    obtain ⟨r1, σ1, h1, h⟩ := ob_e h
    refine r_runV M (r_callV (As := [.int 0, .int x2]) X M (lv_sub hl [] rfl) (T_X7_step1 h1 _) cal_X7_step1 q844 ⟨by show 1 + 1 ≤ d + 1; omega, by show 8 + (3 + 11) + 48 * 1 ≤ 48 * (d + 1); omega⟩ hq_66 (el_66 _ _) rfl rfl rfl (Nat.le_of_ble_eq_true rfl) ⟨Nat.le_refl _, Nat.le_refl _⟩ dX7_one_97) (fun H locs M => ?_)
    clear h1
    refine lv_iconst (v := 1) X.x X.b dX7_one_100 (by decide) ?_
    exact r_iret X M rfl h dX7_one_101
  · have h := it_f c8 h
    refine lv_aload_n X.x X.b dX7_one_51 rfl (lv_at hl 0 rfl) ?_
    obtain ⟨r2, σ2, h2, h⟩ := ob_e h
    refine r_runI M (r_callV (As := []) X M (lv_sub hl [] rfl) (T_X7_look h2 _) cal_X7_look q836 ⟨by show 1 + 1 ≤ d + 1; omega, by show 8 + (1 + 11) + 48 * 1 ≤ 48 * (d + 1); omega⟩ hq_66 (el_66 _ _) rfl rfl rfl (Nat.le_of_ble_eq_true rfl) ⟨Nat.le_refl _, Nat.le_refl _⟩ dX7_one_52) (fun H locs M => ?_)
    clear h2
    refine lv_bipush (v := 48) X.x X.b dX7_one_55 (by decide) ?_
    refine lv_bipush (v := 57) X.x X.b dX7_one_57 (by decide) ?_
    obtain ⟨r3, σ3, h3, h⟩ := ob_e h
    refine r_runI M (r_callS (As := [.int r2, .int 48, .int 57]) X M (lv_sub hl [] rfl) (T_X7_in h3 _) cal_X7_in q799 ⟨by show 1 + 1 ≤ d + 1; omega, by show 8 + (3 + 11) + 48 * 1 ≤ 48 * (d + 1); omega⟩ rfl rfl (Nat.le_of_ble_eq_true rfl) ⟨Nat.le_refl _, Nat.le_refl _⟩ dX7_one_59) (fun H locs M => ?_)
    clear h3
    refine lv_if_eq (tgt := 94) X.x X.b dX7_one_62 (by decide) (fun c7 => ?_) (fun c7 => ?_)
    · have h := it_t c7 h
      refine lv_aload_n X.x X.b dX7_one_94 rfl (lv_at hl 0 rfl) ?_
      refine lv_iconst (v := 0) X.x X.b dX7_one_95 (by decide) ?_
      refine lv_iload_n X.x X.b dX7_one_96 rfl (lv_at hl 1 rfl) ?_
      obtain ⟨r4, σ4, h4, h⟩ := ob_e h
      refine r_runV M (r_callV (As := [.int 0, .int x2]) X M (lv_sub hl [] rfl) (T_X7_step1 h4 _) cal_X7_step1 q844 ⟨by show 1 + 1 ≤ d + 1; omega, by show 8 + (3 + 11) + 48 * 1 ≤ 48 * (d + 1); omega⟩ hq_66 (el_66 _ _) rfl rfl rfl (Nat.le_of_ble_eq_true rfl) ⟨Nat.le_refl _, Nat.le_refl _⟩ dX7_one_97) (fun H locs M => ?_)
      clear h4
      refine lv_iconst (v := 1) X.x X.b dX7_one_100 (by decide) ?_
      exact r_iret X M rfl h dX7_one_101
    · have h := it_f c7 h
      refine lv_bipush (v := 10) X.x X.b dX7_one_65 (by decide) ?_
      refine lv_iload_n X.x X.b dX7_one_67 rfl (lv_at hl 1 rfl) ?_
      refine lv_imul X.x X.b dX7_one_68 ?_
      refine lv_aload_n X.x X.b dX7_one_69 rfl (lv_at hl 0 rfl) ?_
      obtain ⟨r5, σ5, h5, h⟩ := ob_e h
      refine r_runI M (r_callV (As := []) X M (lv_sub hl [] rfl) (T_X7_look h5 _) cal_X7_look q836 ⟨by show 1 + 1 ≤ d + 1; omega, by show 8 + (1 + 11) + 48 * 1 ≤ 48 * (d + 1); omega⟩ hq_66 (el_66 _ _) rfl rfl rfl (Nat.le_of_ble_eq_true rfl) ⟨Nat.le_refl _, Nat.le_refl _⟩ dX7_one_70) (fun H locs M => ?_)
      clear h5
      refine lv_iadd X.x X.b dX7_one_73 ?_
      refine lv_bipush (v := 48) X.x X.b dX7_one_74 (by decide) ?_
      refine lv_isub X.x X.b dX7_one_76 ?_
      refine lv_istore_n (lv' := [(2, .int (((10 * x2) + r5) - 48)), (0, .ref (Γ.1 66)), (3, .int x3)]) X.x X.b dX7_one_77 rfl hl (by decide) rfl (fun ls hl => ?_)
      refine lv_aload_n X.x X.b dX7_one_78 rfl (lv_at hl 1 rfl) ?_
      refine lv_dup X.x X.b dX7_one_79 rfl ?_
      refine r_get X M hq_66 (el_66 _ _) rfl inX7 4 (by decide) q732 rfl rfl dX7_one_80 ?_
      refine lv_iconst (v := 1) X.x X.b dX7_one_83 (by decide) ?_
      refine lv_iadd X.x X.b dX7_one_84 ?_
      obtain ⟨σ6, e6, h⟩ := ol_e h
      refine r_put (x := ((σ5 66 4) + 1)) (ty := .int) X M hq_66 (el_66 _ _) rfl inX7 tyX7_ok nmX7 4 (by decide) q732 rfl rfl rfl rfl rfl (Nat.le_of_ble_eq_true rfl) (pf_66_4 _ _ _) dX7_one_85 (fun H locs M => ?_)
      rw [← e6] at M
      refine lv_iinc (v := (x3 + 1)) (lv' := [(3, .int (x3 + 1)), (2, .int (((10 * x2) + r5) - 48)), (0, .ref (Γ.1 66))]) X.x X.b dX7_one_88 hl (k := 2) rfl rfl (by decide) rfl (fun ls hl => ?_)
      refine lv_goto (tgt := 46) X.x X.b dX7_one_91 (by decide) ?_
      exact H46 (((10 * x2) + r5) - 48) (x3 + 1) σ6 _ _ _ h M (lv_sub hl [2, 1, 0] rfl)
def f_X7_one_L46 (rec : Nat → St → Rs) : Nat → Int32 → Int32 → St → Rs
  | 0 => fun _ _ _ => none
  | n + 1 => fun x2 x3 σ => f_X7_one_b46 rec (f_X7_one_L46 rec n) x2 x3 σ
theorem u_X7_one_L46 {l : Launch} {Γ : Gm} {p : Program} {e : Env} {s : State} {m : MethodId} {args : Array Value} {below : List Frame} {meth : Method} {c : Code} {r : Int32} {σ' : St} {d : Nat} {rec : Nat → St → Rs} (X : Cx p s m args meth c cX7_one RX7 4 (some .boolean) Γ) (HR : GC_X7_both l Γ d rec) (hd : 2 ≤ d) : ∀ (n : Nat) (x2 : Int32) (x3 : Int32) (σ : St) (H : Heap) (locs : List Loc) (ls : Array Slot), f_X7_one_L46 rec n x2 x3 σ = some (r, σ') → Mv Γ σ s H locs → lv_has ls 4 [(0, .ref (Γ.1 66)), (2, .int x2), (3, .int x3)] → W p l e (rmd (d + 1)) s m args below meth c H locs 0 0 (MQ below (Qi Γ r σ' s.heap.size) args s 0 0 (Rg Γ s.heap.size)) (F0 m 46 ls []) := by
  intro n
  induction n with
  | zero => intro x2 x3 σ H locs ls h; cases h
  | succ n ih => intro x2 x3 σ H locs ls h; exact u_X7_one_b46 X HR hd  ih x2 x3 σ H locs ls h
/-- StreetNumbersModel.one()Z -/
def f_X7_one (rec : Nat → St → Rs) (σ : St) : Rs :=
  ob (f_X7_look σ) fun r1 σ1 => (
  ob (f_X7_isName r1 σ1) fun r2 σ2 => (
  if r2 = 0 then (
    ob (f_X7_in r1 48 57 σ2) fun r3 σ3 => (
    if r3 = 0 then (
      if r1 = 33 then (
        ob (f_X7_opens σ3) fun r13 σ13 => (
        if r13 = 0 then (
          some (0, σ13)
        ) else (
          ob (rec 2 σ13) fun r14 σ14 => (
          if r14 = 0 then (
            some (0, σ14)
          ) else (
            ol (st σ14 66 5 ((σ14 66 5) - 1)) fun σ15 => (
            ob (f_X7_step1 2 0 σ15) fun _ σ16 => (
            some (1, σ16)))
          ))
        ))
      ) else (
        if r1 = 40 then (
          ob (f_X7_opens σ3) fun r4 σ4 => (
          if r4 = 0 then (
            some (0, σ4)
          ) else (
            ob (rec 5 σ4) fun r5 σ5 => (
            if r5 = 0 then (
              some (0, σ5)
            ) else (
              ob (f_X7_look σ5) fun r6 σ6 => (
              if r6 = 41 then (
                ol (st σ6 66 4 ((σ6 66 4) + 1)) fun σ7 => (
                ol (st σ7 66 5 ((σ7 66 5) - 1)) fun σ8 => (
                some (1, σ8)))
              ) else (
                some (0, σ6)
              ))
            ))
          ))
        ) else (
          some (0, σ3)
        )
      )
    ) else (
      f_X7_one_L46 rec LF 0 0 σ3
    ))
  ) else (
    ol (st σ2 66 4 ((σ2 66 4) + 1)) fun σ21 => (
    ob (f_X7_step1 1 r1 σ21) fun _ σ22 => (
    some (1, σ22)))
  )))
set_option maxRecDepth 100000 in
set_option maxHeartbeats 4000000 in
theorem T_X7_one {l : Launch} {Γ : Gm} {d : Nat} {rec : Nat → St → Rs} (HR : GC_X7_both l Γ d rec) (hd : 2 ≤ d) {σ : St} {r : Int32} {σ' : St} (h : f_X7_one rec σ = some (r, σ')) : MetI l yX7_one cX7_one 4 .boolean (d + 1) Γ σ [.ref (Γ.1 66)] r σ' := by
  intro sz
  refine met_in (by decide) (Nat.le_of_ble_eq_true rfl) (fun p e s m args below meth c ls X hsz M hl => ?_)
  subst hsz
  have X : Cx p s m args meth c cX7_one RX7 4 (some .boolean) Γ := X
  have hl : lv_has ls 4 [(0, .ref (Γ.1 66))] := hl
  unfold f_X7_one at h
  refine lv_aload_n X.x X.b dX7_one_0 rfl (lv_at hl 0 rfl) ?_
  obtain ⟨r1, σ1, h1, h⟩ := ob_e h
  refine r_runI M (r_callV (As := []) X M (lv_sub hl [] rfl) (T_X7_look h1 _) cal_X7_look q836 ⟨by show 1 + 1 ≤ d + 1; omega, by show 8 + (1 + 11) + 48 * 1 ≤ 48 * (d + 1); omega⟩ hq_66 (el_66 _ _) rfl rfl rfl (Nat.le_of_ble_eq_true rfl) ⟨Nat.le_refl _, Nat.le_refl _⟩ dX7_one_1) (fun H locs M => ?_)
  clear h1
  refine lv_istore_n (lv' := [(1, .int r1), (0, .ref (Γ.1 66))]) X.x X.b dX7_one_4 rfl hl (by decide) rfl (fun ls hl => ?_)
  refine lv_aload_n X.x X.b dX7_one_5 rfl (lv_at hl 1 rfl) ?_
  refine lv_iload_n X.x X.b dX7_one_6 rfl (lv_at hl 0 rfl) ?_
  obtain ⟨r2, σ2, h2, h⟩ := ob_e h
  refine r_runI M (r_callV (As := [.int r1]) X M (lv_sub hl [] rfl) (T_X7_isName h2 _) cal_X7_isName q840 ⟨by show 1 + 1 ≤ d + 1; omega, by show 8 + (2 + 11) + 48 * 1 ≤ 48 * (d + 1); omega⟩ hq_66 (el_66 _ _) rfl rfl rfl (Nat.le_of_ble_eq_true rfl) ⟨Nat.le_refl _, Nat.le_refl _⟩ dX7_one_7) (fun H locs M => ?_)
  clear h2
  refine lv_if_eq (tgt := 31) X.x X.b dX7_one_10 (by decide) (fun c23 => ?_) (fun c23 => ?_)
  · have h := it_t c23 h
    refine lv_iload_n X.x X.b dX7_one_31 rfl (lv_at hl 0 rfl) ?_
    refine lv_bipush (v := 48) X.x X.b dX7_one_32 (by decide) ?_
    refine lv_bipush (v := 57) X.x X.b dX7_one_34 (by decide) ?_
    obtain ⟨r3, σ3, h3, h⟩ := ob_e h
    refine r_runI M (r_callS (As := [.int r1, .int 48, .int 57]) X M (lv_sub hl [] rfl) (T_X7_in h3 _) cal_X7_in q799 ⟨by show 1 + 1 ≤ d + 1; omega, by show 8 + (3 + 11) + 48 * 1 ≤ 48 * (d + 1); omega⟩ rfl rfl (Nat.le_of_ble_eq_true rfl) ⟨Nat.le_refl _, Nat.le_refl _⟩ dX7_one_36) (fun H locs M => ?_)
    clear h3
    refine lv_if_eq (tgt := 102) X.x X.b dX7_one_39 (by decide) (fun c20 => ?_) (fun c20 => ?_)
    · have h := it_t c20 h
      refine lv_iload_n X.x X.b dX7_one_102 rfl (lv_at hl 0 rfl) ?_
      refine lv_bipush (v := 33) X.x X.b dX7_one_103 (by decide) ?_
      refine lv_icmp_ne (tgt := 142) X.x X.b dX7_one_105 (by decide) (fun c19 => ?_) (fun c19 => ?_)
      · have h := it_f c19 h
        refine lv_iload_n X.x X.b dX7_one_142 rfl (lv_at hl 0 rfl) ?_
        refine lv_bipush (v := 40) X.x X.b dX7_one_143 (by decide) ?_
        refine lv_icmp_ne (tgt := 171) X.x X.b dX7_one_145 (by decide) (fun c12 => ?_) (fun c12 => ?_)
        · have h := it_f c12 h
          refine lv_iconst (v := 0) X.x X.b dX7_one_171 (by decide) ?_
          exact r_iret X M rfl h dX7_one_172
        · have h := it_t c12 h
          refine lv_aload_n X.x X.b dX7_one_148 rfl (lv_at hl 1 rfl) ?_
          obtain ⟨r4, σ4, h4, h⟩ := ob_e h
          refine r_runI M (r_callV (As := []) X M (lv_sub hl [] rfl) (T_X7_opens h4 _) cal_X7_opens q848 ⟨by show 1 + 1 ≤ d + 1; omega, by show 8 + (1 + 11) + 48 * 1 ≤ 48 * (d + 1); omega⟩ hq_66 (el_66 _ _) rfl rfl rfl (Nat.le_of_ble_eq_true rfl) ⟨Nat.le_refl _, Nat.le_refl _⟩ dX7_one_149) (fun H locs M => ?_)
          clear h4
          refine lv_if_eq (tgt := 171) X.x X.b dX7_one_152 (by decide) (fun c11 => ?_) (fun c11 => ?_)
          · have h := it_t c11 h
            refine lv_iconst (v := 0) X.x X.b dX7_one_171 (by decide) ?_
            exact r_iret X M rfl h dX7_one_172
          · have h := it_f c11 h
            refine lv_aload_n X.x X.b dX7_one_155 rfl (lv_at hl 1 rfl) ?_
            obtain ⟨r5, σ5, h5, h⟩ := ob_e h
            refine r_runI M (r_callV (As := []) X M (lv_sub hl [] rfl) (HR.2.2.2.2.2 _ _ _ h5 _) cal_X7_whole q812 ⟨Nat.le_refl _, (by show 8 + (1 + 11) + 48 * d ≤ 48 * (d + 1); omega)⟩ hq_66 (el_66 _ _) rfl rfl rfl (Nat.le_of_ble_eq_true rfl) ⟨Nat.le_refl _, Nat.le_refl _⟩ dX7_one_156) (fun H locs M => ?_)
            clear h5
            refine lv_if_eq (tgt := 171) X.x X.b dX7_one_159 (by decide) (fun c10 => ?_) (fun c10 => ?_)
            · have h := it_t c10 h
              refine lv_iconst (v := 0) X.x X.b dX7_one_171 (by decide) ?_
              exact r_iret X M rfl h dX7_one_172
            · have h := it_f c10 h
              refine lv_aload_n X.x X.b dX7_one_162 rfl (lv_at hl 1 rfl) ?_
              obtain ⟨r6, σ6, h6, h⟩ := ob_e h
              refine r_runI M (r_callV (As := []) X M (lv_sub hl [] rfl) (T_X7_look h6 _) cal_X7_look q836 ⟨by show 1 + 1 ≤ d + 1; omega, by show 8 + (1 + 11) + 48 * 1 ≤ 48 * (d + 1); omega⟩ hq_66 (el_66 _ _) rfl rfl rfl (Nat.le_of_ble_eq_true rfl) ⟨Nat.le_refl _, Nat.le_refl _⟩ dX7_one_163) (fun H locs M => ?_)
              clear h6
              refine lv_bipush (v := 41) X.x X.b dX7_one_166 (by decide) ?_
              refine lv_icmp_eq (tgt := 173) X.x X.b dX7_one_168 (by decide) (fun c9 => ?_) (fun c9 => ?_)
              · have h := it_t c9 h
                refine lv_aload_n X.x X.b dX7_one_173 rfl (lv_at hl 1 rfl) ?_
                refine lv_dup X.x X.b dX7_one_174 rfl ?_
                refine r_get X M hq_66 (el_66 _ _) rfl inX7 4 (by decide) q732 rfl rfl dX7_one_175 ?_
                refine lv_iconst (v := 1) X.x X.b dX7_one_178 (by decide) ?_
                refine lv_iadd X.x X.b dX7_one_179 ?_
                obtain ⟨σ7, e7, h⟩ := ol_e h
                refine r_put (x := ((σ6 66 4) + 1)) (ty := .int) X M hq_66 (el_66 _ _) rfl inX7 tyX7_ok nmX7 4 (by decide) q732 rfl rfl rfl rfl rfl (Nat.le_of_ble_eq_true rfl) (pf_66_4 _ _ _) dX7_one_180 (fun H locs M => ?_)
                rw [← e7] at M
                refine lv_aload_n X.x X.b dX7_one_183 rfl (lv_at hl 1 rfl) ?_
                refine lv_dup X.x X.b dX7_one_184 rfl ?_
                refine r_get X M hq_66 (el_66 _ _) rfl inX7 5 (by decide) q733 rfl rfl dX7_one_185 ?_
                refine lv_iconst (v := 1) X.x X.b dX7_one_188 (by decide) ?_
                refine lv_isub X.x X.b dX7_one_189 ?_
                obtain ⟨σ8, e8, h⟩ := ol_e h
                refine r_put (x := ((σ7 66 5) - 1)) (ty := .int) X M hq_66 (el_66 _ _) rfl inX7 tyX7_ok nmX7 5 (by decide) q733 rfl rfl rfl rfl rfl (Nat.le_of_ble_eq_true rfl) (pf_66_5 _ _ _) dX7_one_190 (fun H locs M => ?_)
                rw [← e8] at M
                refine lv_iconst (v := 1) X.x X.b dX7_one_193 (by decide) ?_
                exact r_iret X M rfl h dX7_one_194
              · have h := it_f c9 h
                refine lv_iconst (v := 0) X.x X.b dX7_one_171 (by decide) ?_
                exact r_iret X M rfl h dX7_one_172
      · have h := it_t c19 h
        refine lv_aload_n X.x X.b dX7_one_108 rfl (lv_at hl 1 rfl) ?_
        obtain ⟨r13, σ13, h13, h⟩ := ob_e h
        refine r_runI M (r_callV (As := []) X M (lv_sub hl [] rfl) (T_X7_opens h13 _) cal_X7_opens q848 ⟨by show 1 + 1 ≤ d + 1; omega, by show 8 + (1 + 11) + 48 * 1 ≤ 48 * (d + 1); omega⟩ hq_66 (el_66 _ _) rfl rfl rfl (Nat.le_of_ble_eq_true rfl) ⟨Nat.le_refl _, Nat.le_refl _⟩ dX7_one_109) (fun H locs M => ?_)
        clear h13
        refine lv_if_eq (tgt := 122) X.x X.b dX7_one_112 (by decide) (fun c18 => ?_) (fun c18 => ?_)
        · have h := it_t c18 h
          refine lv_iconst (v := 0) X.x X.b dX7_one_122 (by decide) ?_
          exact r_iret X M rfl h dX7_one_123
        · have h := it_f c18 h
          refine lv_aload_n X.x X.b dX7_one_115 rfl (lv_at hl 1 rfl) ?_
          obtain ⟨r14, σ14, h14, h⟩ := ob_e h
          refine r_runI M (r_callV (As := []) X M (lv_sub hl [] rfl) (HR.2.2.1 _ _ _ h14 _) cal_X7_one q832 ⟨Nat.le_refl _, (by show 8 + (4 + 11) + 48 * d ≤ 48 * (d + 1); omega)⟩ hq_66 (el_66 _ _) rfl rfl rfl (Nat.le_of_ble_eq_true rfl) ⟨Nat.le_refl _, Nat.le_refl _⟩ dX7_one_116) (fun H locs M => ?_)
          clear h14
          refine lv_if_ne (tgt := 124) X.x X.b dX7_one_119 (by decide) (fun c17 => ?_) (fun c17 => ?_)
          · have h := it_f c17 h
            refine lv_aload_n X.x X.b dX7_one_124 rfl (lv_at hl 1 rfl) ?_
            refine lv_dup X.x X.b dX7_one_125 rfl ?_
            refine r_get X M hq_66 (el_66 _ _) rfl inX7 5 (by decide) q733 rfl rfl dX7_one_126 ?_
            refine lv_iconst (v := 1) X.x X.b dX7_one_129 (by decide) ?_
            refine lv_isub X.x X.b dX7_one_130 ?_
            obtain ⟨σ15, e15, h⟩ := ol_e h
            refine r_put (x := ((σ14 66 5) - 1)) (ty := .int) X M hq_66 (el_66 _ _) rfl inX7 tyX7_ok nmX7 5 (by decide) q733 rfl rfl rfl rfl rfl (Nat.le_of_ble_eq_true rfl) (pf_66_5 _ _ _) dX7_one_131 (fun H locs M => ?_)
            rw [← e15] at M
            refine lv_aload_n X.x X.b dX7_one_134 rfl (lv_at hl 1 rfl) ?_
            refine lv_iconst (v := 2) X.x X.b dX7_one_135 (by decide) ?_
            refine lv_iconst (v := 0) X.x X.b dX7_one_136 (by decide) ?_
            obtain ⟨r16, σ16, h16, h⟩ := ob_e h
            refine r_runV M (r_callV (As := [.int 2, .int 0]) X M (lv_sub hl [] rfl) (T_X7_step1 h16 _) cal_X7_step1 q844 ⟨by show 1 + 1 ≤ d + 1; omega, by show 8 + (3 + 11) + 48 * 1 ≤ 48 * (d + 1); omega⟩ hq_66 (el_66 _ _) rfl rfl rfl (Nat.le_of_ble_eq_true rfl) ⟨Nat.le_refl _, Nat.le_refl _⟩ dX7_one_137) (fun H locs M => ?_)
            clear h16
            refine lv_iconst (v := 1) X.x X.b dX7_one_140 (by decide) ?_
            exact r_iret X M rfl h dX7_one_141
          · have h := it_t c17 h
            refine lv_iconst (v := 0) X.x X.b dX7_one_122 (by decide) ?_
            exact r_iret X M rfl h dX7_one_123
    · have h := it_f c20 h
      refine lv_iconst (v := 0) X.x X.b dX7_one_42 (by decide) ?_
      refine lv_istore_n (lv' := [(2, .int 0), (1, .int r1), (0, .ref (Γ.1 66))]) X.x X.b dX7_one_43 rfl hl (by decide) rfl (fun ls hl => ?_)
      refine lv_iconst (v := 0) X.x X.b dX7_one_44 (by decide) ?_
      refine lv_istore_n (lv' := [(3, .int 0), (2, .int 0), (1, .int r1), (0, .ref (Γ.1 66))]) X.x X.b dX7_one_45 rfl hl (by decide) rfl (fun ls hl => ?_)
      exact u_X7_one_L46 X HR hd LF 0 0 σ3 _ _ _ h M (lv_sub hl [3, 1, 0] rfl)
  · have h := it_f c23 h
    refine lv_aload_n X.x X.b dX7_one_13 rfl (lv_at hl 1 rfl) ?_
    refine lv_dup X.x X.b dX7_one_14 rfl ?_
    refine r_get X M hq_66 (el_66 _ _) rfl inX7 4 (by decide) q732 rfl rfl dX7_one_15 ?_
    refine lv_iconst (v := 1) X.x X.b dX7_one_18 (by decide) ?_
    refine lv_iadd X.x X.b dX7_one_19 ?_
    obtain ⟨σ21, e21, h⟩ := ol_e h
    refine r_put (x := ((σ2 66 4) + 1)) (ty := .int) X M hq_66 (el_66 _ _) rfl inX7 tyX7_ok nmX7 4 (by decide) q732 rfl rfl rfl rfl rfl (Nat.le_of_ble_eq_true rfl) (pf_66_4 _ _ _) dX7_one_20 (fun H locs M => ?_)
    rw [← e21] at M
    refine lv_aload_n X.x X.b dX7_one_23 rfl (lv_at hl 1 rfl) ?_
    refine lv_iconst (v := 1) X.x X.b dX7_one_24 (by decide) ?_
    refine lv_iload_n X.x X.b dX7_one_25 rfl (lv_at hl 0 rfl) ?_
    obtain ⟨r22, σ22, h22, h⟩ := ob_e h
    refine r_runV M (r_callV (As := [.int 1, .int r1]) X M (lv_sub hl [] rfl) (T_X7_step1 h22 _) cal_X7_step1 q844 ⟨by show 1 + 1 ≤ d + 1; omega, by show 8 + (3 + 11) + 48 * 1 ≤ 48 * (d + 1); omega⟩ hq_66 (el_66 _ _) rfl rfl rfl (Nat.le_of_ble_eq_true rfl) ⟨Nat.le_refl _, Nat.le_refl _⟩ dX7_one_26) (fun H locs M => ?_)
    clear h22
    refine lv_iconst (v := 1) X.x X.b dX7_one_29 (by decide) ?_
    exact r_iret X M rfl h dX7_one_30
def f_X7_product_b36 (rec : Nat → St → Rs) (k9 : (St → Rs)) (σ : St) : Rs :=
  ob (f_X7_look σ) fun r1 σ1 => (
  ol (st σ1 66 4 ((σ1 66 4) + 1)) fun σ2 => (
  ob (rec 2 σ2) fun r3 σ3 => (
  if r3 = 0 then (
    some (0, σ3)
  ) else (
    ob (f_X7_step1 3 r1 σ3) fun _ σ4 => (
    k9 σ4)
  ))))
set_option maxRecDepth 100000 in
set_option maxHeartbeats 4000000 in
theorem u_X7_product_b36 {l : Launch} {Γ : Gm} {p : Program} {e : Env} {s : State} {m : MethodId} {args : Array Value} {below : List Frame} {meth : Method} {c : Code} {r : Int32} {σ' : St} {d : Nat} {rec : Nat → St → Rs} {k9 : St → Rs} (X : Cx p s m args meth c cX7_product RX7 2 (some .boolean) Γ) (HR : GC_X7_both l Γ d rec) (hd : 2 ≤ d) (H9 : ∀ (σ : St) (H : Heap) (locs : List Loc) (ls : Array Slot), k9 σ = some (r, σ') → Mv Γ σ s H locs → lv_has ls 2 [(0, .ref (Γ.1 66))] → W p l e (rmd (d + 1)) s m args below meth c H locs 0 0 (MQ below (Qi Γ r σ' s.heap.size) args s 0 0 (Rg Γ s.heap.size)) (F0 m 9 ls [])) (σ : St) (H : Heap) (locs : List Loc) (ls : Array Slot) (h : f_X7_product_b36 rec k9 σ = some (r, σ')) (M : Mv Γ σ s H locs) (hl : lv_has ls 2 [(0, .ref (Γ.1 66))]) : W p l e (rmd (d + 1)) s m args below meth c H locs 0 0 (MQ below (Qi Γ r σ' s.heap.size) args s 0 0 (Rg Γ s.heap.size)) (F0 m 36 ls []) := by
  unfold f_X7_product_b36 at h
  refine lv_aload_n X.x X.b dX7_product_36 rfl (lv_at hl 0 rfl) ?_
  obtain ⟨r1, σ1, h1, h⟩ := ob_e h
  refine r_runI M (r_callV (As := []) X M (lv_sub hl [] rfl) (T_X7_look h1 _) cal_X7_look q836 ⟨by show 1 + 1 ≤ d + 1; omega, by show 8 + (1 + 11) + 48 * 1 ≤ 48 * (d + 1); omega⟩ hq_66 (el_66 _ _) rfl rfl rfl (Nat.le_of_ble_eq_true rfl) ⟨Nat.le_refl _, Nat.le_refl _⟩ dX7_product_37) (fun H locs M => ?_)
  clear h1
  refine lv_istore_n (lv' := [(1, .int r1), (0, .ref (Γ.1 66))]) X.x X.b dX7_product_40 rfl hl (by decide) rfl (fun ls hl => ?_)
  refine lv_aload_n X.x X.b dX7_product_41 rfl (lv_at hl 1 rfl) ?_
  refine lv_dup X.x X.b dX7_product_42 rfl ?_
  refine r_get X M hq_66 (el_66 _ _) rfl inX7 4 (by decide) q732 rfl rfl dX7_product_43 ?_
  refine lv_iconst (v := 1) X.x X.b dX7_product_46 (by decide) ?_
  refine lv_iadd X.x X.b dX7_product_47 ?_
  obtain ⟨σ2, e2, h⟩ := ol_e h
  refine r_put (x := ((σ1 66 4) + 1)) (ty := .int) X M hq_66 (el_66 _ _) rfl inX7 tyX7_ok nmX7 4 (by decide) q732 rfl rfl rfl rfl rfl (Nat.le_of_ble_eq_true rfl) (pf_66_4 _ _ _) dX7_product_48 (fun H locs M => ?_)
  rw [← e2] at M
  refine lv_aload_n X.x X.b dX7_product_51 rfl (lv_at hl 1 rfl) ?_
  obtain ⟨r3, σ3, h3, h⟩ := ob_e h
  refine r_runI M (r_callV (As := []) X M (lv_sub hl [] rfl) (HR.2.2.1 _ _ _ h3 _) cal_X7_one q832 ⟨Nat.le_refl _, (by show 8 + (4 + 11) + 48 * d ≤ 48 * (d + 1); omega)⟩ hq_66 (el_66 _ _) rfl rfl rfl (Nat.le_of_ble_eq_true rfl) ⟨Nat.le_refl _, Nat.le_refl _⟩ dX7_product_52) (fun H locs M => ?_)
  clear h3
  refine lv_if_ne (tgt := 60) X.x X.b dX7_product_55 (by decide) (fun c5 => ?_) (fun c5 => ?_)
  · have h := it_f c5 h
    refine lv_aload_n X.x X.b dX7_product_60 rfl (lv_at hl 1 rfl) ?_
    refine lv_iconst (v := 3) X.x X.b dX7_product_61 (by decide) ?_
    refine lv_iload_n X.x X.b dX7_product_62 rfl (lv_at hl 0 rfl) ?_
    obtain ⟨r4, σ4, h4, h⟩ := ob_e h
    refine r_runV M (r_callV (As := [.int 3, .int r1]) X M (lv_sub hl [] rfl) (T_X7_step1 h4 _) cal_X7_step1 q844 ⟨by show 1 + 1 ≤ d + 1; omega, by show 8 + (3 + 11) + 48 * 1 ≤ 48 * (d + 1); omega⟩ hq_66 (el_66 _ _) rfl rfl rfl (Nat.le_of_ble_eq_true rfl) ⟨Nat.le_refl _, Nat.le_refl _⟩ dX7_product_63) (fun H locs M => ?_)
    clear h4
    refine lv_goto (tgt := 9) X.x X.b dX7_product_66 (by decide) ?_
    exact H9 σ4 _ _ _ h M (lv_sub hl [1] rfl)
  · have h := it_t c5 h
    refine lv_iconst (v := 0) X.x X.b dX7_product_58 (by decide) ?_
    exact r_iret X M rfl h dX7_product_59
def f_X7_product_b9 (rec : Nat → St → Rs) (k9 : (St → Rs)) (σ : St) : Rs :=
  ob (f_X7_look σ) fun r1 σ1 => (
  if r1 = 42 then (
    f_X7_product_b36 rec k9 σ1
  ) else (
    ob (f_X7_look σ1) fun r2 σ2 => (
    if r2 = 47 then (
      f_X7_product_b36 rec k9 σ2
    ) else (
      ob (f_X7_look σ2) fun r3 σ3 => (
      if r3 = 37 then (
        f_X7_product_b36 rec k9 σ3
      ) else (
        some (1, σ3)
      ))
    ))
  ))
set_option maxRecDepth 100000 in
set_option maxHeartbeats 4000000 in
theorem u_X7_product_b9 {l : Launch} {Γ : Gm} {p : Program} {e : Env} {s : State} {m : MethodId} {args : Array Value} {below : List Frame} {meth : Method} {c : Code} {r : Int32} {σ' : St} {d : Nat} {rec : Nat → St → Rs} {k9 : St → Rs} (X : Cx p s m args meth c cX7_product RX7 2 (some .boolean) Γ) (HR : GC_X7_both l Γ d rec) (hd : 2 ≤ d) (H9 : ∀ (σ : St) (H : Heap) (locs : List Loc) (ls : Array Slot), k9 σ = some (r, σ') → Mv Γ σ s H locs → lv_has ls 2 [(0, .ref (Γ.1 66))] → W p l e (rmd (d + 1)) s m args below meth c H locs 0 0 (MQ below (Qi Γ r σ' s.heap.size) args s 0 0 (Rg Γ s.heap.size)) (F0 m 9 ls [])) (σ : St) (H : Heap) (locs : List Loc) (ls : Array Slot) (h : f_X7_product_b9 rec k9 σ = some (r, σ')) (M : Mv Γ σ s H locs) (hl : lv_has ls 2 [(0, .ref (Γ.1 66))]) : W p l e (rmd (d + 1)) s m args below meth c H locs 0 0 (MQ below (Qi Γ r σ' s.heap.size) args s 0 0 (Rg Γ s.heap.size)) (F0 m 9 ls []) := by
  unfold f_X7_product_b9 at h
  refine lv_aload_n X.x X.b dX7_product_9 rfl (lv_at hl 0 rfl) ?_
  obtain ⟨r1, σ1, h1, h⟩ := ob_e h
  refine r_runI M (r_callV (As := []) X M (lv_sub hl [] rfl) (T_X7_look h1 _) cal_X7_look q836 ⟨by show 1 + 1 ≤ d + 1; omega, by show 8 + (1 + 11) + 48 * 1 ≤ 48 * (d + 1); omega⟩ hq_66 (el_66 _ _) rfl rfl rfl (Nat.le_of_ble_eq_true rfl) ⟨Nat.le_refl _, Nat.le_refl _⟩ dX7_product_10) (fun H locs M => ?_)
  clear h1
  refine lv_bipush (v := 42) X.x X.b dX7_product_13 (by decide) ?_
  refine lv_icmp_eq (tgt := 36) X.x X.b dX7_product_15 (by decide) (fun c6 => ?_) (fun c6 => ?_)
  · have h := it_t c6 h
    exact u_X7_product_b36 X HR hd H9 σ1 _ _ _ h M (lv_sub hl [0] rfl)
  · have h := it_f c6 h
    refine lv_aload_n X.x X.b dX7_product_18 rfl (lv_at hl 0 rfl) ?_
    obtain ⟨r2, σ2, h2, h⟩ := ob_e h
    refine r_runI M (r_callV (As := []) X M (lv_sub hl [] rfl) (T_X7_look h2 _) cal_X7_look q836 ⟨by show 1 + 1 ≤ d + 1; omega, by show 8 + (1 + 11) + 48 * 1 ≤ 48 * (d + 1); omega⟩ hq_66 (el_66 _ _) rfl rfl rfl (Nat.le_of_ble_eq_true rfl) ⟨Nat.le_refl _, Nat.le_refl _⟩ dX7_product_19) (fun H locs M => ?_)
    clear h2
    refine lv_bipush (v := 47) X.x X.b dX7_product_22 (by decide) ?_
    refine lv_icmp_eq (tgt := 36) X.x X.b dX7_product_24 (by decide) (fun c5 => ?_) (fun c5 => ?_)
    · have h := it_t c5 h
      exact u_X7_product_b36 X HR hd H9 σ2 _ _ _ h M (lv_sub hl [0] rfl)
    · have h := it_f c5 h
      refine lv_aload_n X.x X.b dX7_product_27 rfl (lv_at hl 0 rfl) ?_
      obtain ⟨r3, σ3, h3, h⟩ := ob_e h
      refine r_runI M (r_callV (As := []) X M (lv_sub hl [] rfl) (T_X7_look h3 _) cal_X7_look q836 ⟨by show 1 + 1 ≤ d + 1; omega, by show 8 + (1 + 11) + 48 * 1 ≤ 48 * (d + 1); omega⟩ hq_66 (el_66 _ _) rfl rfl rfl (Nat.le_of_ble_eq_true rfl) ⟨Nat.le_refl _, Nat.le_refl _⟩ dX7_product_28) (fun H locs M => ?_)
      clear h3
      refine lv_bipush (v := 37) X.x X.b dX7_product_31 (by decide) ?_
      refine lv_icmp_ne (tgt := 69) X.x X.b dX7_product_33 (by decide) (fun c4 => ?_) (fun c4 => ?_)
      · have h := it_f c4 h
        refine lv_iconst (v := 1) X.x X.b dX7_product_69 (by decide) ?_
        exact r_iret X M rfl h dX7_product_70
      · have h := it_t c4 h
        exact u_X7_product_b36 X HR hd H9 σ3 _ _ _ h M (lv_sub hl [0] rfl)
def f_X7_product_L9 (rec : Nat → St → Rs) : Nat → St → Rs
  | 0 => fun _ => none
  | n + 1 => fun σ => f_X7_product_b9 rec (f_X7_product_L9 rec n) σ
theorem u_X7_product_L9 {l : Launch} {Γ : Gm} {p : Program} {e : Env} {s : State} {m : MethodId} {args : Array Value} {below : List Frame} {meth : Method} {c : Code} {r : Int32} {σ' : St} {d : Nat} {rec : Nat → St → Rs} (X : Cx p s m args meth c cX7_product RX7 2 (some .boolean) Γ) (HR : GC_X7_both l Γ d rec) (hd : 2 ≤ d) : ∀ (n : Nat) (σ : St) (H : Heap) (locs : List Loc) (ls : Array Slot), f_X7_product_L9 rec n σ = some (r, σ') → Mv Γ σ s H locs → lv_has ls 2 [(0, .ref (Γ.1 66))] → W p l e (rmd (d + 1)) s m args below meth c H locs 0 0 (MQ below (Qi Γ r σ' s.heap.size) args s 0 0 (Rg Γ s.heap.size)) (F0 m 9 ls []) := by
  intro n
  induction n with
  | zero => intro σ H locs ls h; cases h
  | succ n ih => intro σ H locs ls h; exact u_X7_product_b9 X HR hd  ih σ H locs ls h
/-- StreetNumbersModel.product()Z -/
def f_X7_product (rec : Nat → St → Rs) (σ : St) : Rs :=
  ob (rec 2 σ) fun r1 σ1 => (
  if r1 = 0 then (
    some (0, σ1)
  ) else (
    f_X7_product_L9 rec LF σ1
  ))
set_option maxRecDepth 100000 in
set_option maxHeartbeats 4000000 in
theorem T_X7_product {l : Launch} {Γ : Gm} {d : Nat} {rec : Nat → St → Rs} (HR : GC_X7_both l Γ d rec) (hd : 2 ≤ d) {σ : St} {r : Int32} {σ' : St} (h : f_X7_product rec σ = some (r, σ')) : MetI l yX7_product cX7_product 2 .boolean (d + 1) Γ σ [.ref (Γ.1 66)] r σ' := by
  intro sz
  refine met_in (by decide) (Nat.le_of_ble_eq_true rfl) (fun p e s m args below meth c ls X hsz M hl => ?_)
  subst hsz
  have X : Cx p s m args meth c cX7_product RX7 2 (some .boolean) Γ := X
  have hl : lv_has ls 2 [(0, .ref (Γ.1 66))] := hl
  unfold f_X7_product at h
  refine lv_aload_n X.x X.b dX7_product_0 rfl (lv_at hl 0 rfl) ?_
  obtain ⟨r1, σ1, h1, h⟩ := ob_e h
  refine r_runI M (r_callV (As := []) X M (lv_sub hl [] rfl) (HR.2.2.1 _ _ _ h1 _) cal_X7_one q832 ⟨Nat.le_refl _, (by show 8 + (4 + 11) + 48 * d ≤ 48 * (d + 1); omega)⟩ hq_66 (el_66 _ _) rfl rfl rfl (Nat.le_of_ble_eq_true rfl) ⟨Nat.le_refl _, Nat.le_refl _⟩ dX7_product_1) (fun H locs M => ?_)
  clear h1
  refine lv_if_ne (tgt := 9) X.x X.b dX7_product_4 (by decide) (fun c2 => ?_) (fun c2 => ?_)
  · have h := it_f c2 h
    exact u_X7_product_L9 X HR hd LF σ1 _ _ _ h M (lv_sub hl [0] rfl)
  · have h := it_t c2 h
    refine lv_iconst (v := 0) X.x X.b dX7_product_7 (by decide) ?_
    exact r_iret X M rfl h dX7_product_8
def f_X7_sum_b27 (rec : Nat → St → Rs) (k9 : (St → Rs)) (σ : St) : Rs :=
  ob (f_X7_look σ) fun r1 σ1 => (
  ol (st σ1 66 4 ((σ1 66 4) + 1)) fun σ2 => (
  ob (rec 3 σ2) fun r3 σ3 => (
  if r3 = 0 then (
    some (0, σ3)
  ) else (
    ob (f_X7_step1 3 r1 σ3) fun _ σ4 => (
    k9 σ4)
  ))))
set_option maxRecDepth 100000 in
set_option maxHeartbeats 4000000 in
theorem u_X7_sum_b27 {l : Launch} {Γ : Gm} {p : Program} {e : Env} {s : State} {m : MethodId} {args : Array Value} {below : List Frame} {meth : Method} {c : Code} {r : Int32} {σ' : St} {d : Nat} {rec : Nat → St → Rs} {k9 : St → Rs} (X : Cx p s m args meth c cX7_sum RX7 2 (some .boolean) Γ) (HR : GC_X7_both l Γ d rec) (hd : 2 ≤ d) (H9 : ∀ (σ : St) (H : Heap) (locs : List Loc) (ls : Array Slot), k9 σ = some (r, σ') → Mv Γ σ s H locs → lv_has ls 2 [(0, .ref (Γ.1 66))] → W p l e (rmd (d + 1)) s m args below meth c H locs 0 0 (MQ below (Qi Γ r σ' s.heap.size) args s 0 0 (Rg Γ s.heap.size)) (F0 m 9 ls [])) (σ : St) (H : Heap) (locs : List Loc) (ls : Array Slot) (h : f_X7_sum_b27 rec k9 σ = some (r, σ')) (M : Mv Γ σ s H locs) (hl : lv_has ls 2 [(0, .ref (Γ.1 66))]) : W p l e (rmd (d + 1)) s m args below meth c H locs 0 0 (MQ below (Qi Γ r σ' s.heap.size) args s 0 0 (Rg Γ s.heap.size)) (F0 m 27 ls []) := by
  unfold f_X7_sum_b27 at h
  refine lv_aload_n X.x X.b dX7_sum_27 rfl (lv_at hl 0 rfl) ?_
  obtain ⟨r1, σ1, h1, h⟩ := ob_e h
  refine r_runI M (r_callV (As := []) X M (lv_sub hl [] rfl) (T_X7_look h1 _) cal_X7_look q836 ⟨by show 1 + 1 ≤ d + 1; omega, by show 8 + (1 + 11) + 48 * 1 ≤ 48 * (d + 1); omega⟩ hq_66 (el_66 _ _) rfl rfl rfl (Nat.le_of_ble_eq_true rfl) ⟨Nat.le_refl _, Nat.le_refl _⟩ dX7_sum_28) (fun H locs M => ?_)
  clear h1
  refine lv_istore_n (lv' := [(1, .int r1), (0, .ref (Γ.1 66))]) X.x X.b dX7_sum_31 rfl hl (by decide) rfl (fun ls hl => ?_)
  refine lv_aload_n X.x X.b dX7_sum_32 rfl (lv_at hl 1 rfl) ?_
  refine lv_dup X.x X.b dX7_sum_33 rfl ?_
  refine r_get X M hq_66 (el_66 _ _) rfl inX7 4 (by decide) q732 rfl rfl dX7_sum_34 ?_
  refine lv_iconst (v := 1) X.x X.b dX7_sum_37 (by decide) ?_
  refine lv_iadd X.x X.b dX7_sum_38 ?_
  obtain ⟨σ2, e2, h⟩ := ol_e h
  refine r_put (x := ((σ1 66 4) + 1)) (ty := .int) X M hq_66 (el_66 _ _) rfl inX7 tyX7_ok nmX7 4 (by decide) q732 rfl rfl rfl rfl rfl (Nat.le_of_ble_eq_true rfl) (pf_66_4 _ _ _) dX7_sum_39 (fun H locs M => ?_)
  rw [← e2] at M
  refine lv_aload_n X.x X.b dX7_sum_42 rfl (lv_at hl 1 rfl) ?_
  obtain ⟨r3, σ3, h3, h⟩ := ob_e h
  refine r_runI M (r_callV (As := []) X M (lv_sub hl [] rfl) (HR.2.2.2.1 _ _ _ h3 _) cal_X7_product q828 ⟨Nat.le_refl _, (by show 8 + (2 + 11) + 48 * d ≤ 48 * (d + 1); omega)⟩ hq_66 (el_66 _ _) rfl rfl rfl (Nat.le_of_ble_eq_true rfl) ⟨Nat.le_refl _, Nat.le_refl _⟩ dX7_sum_43) (fun H locs M => ?_)
  clear h3
  refine lv_if_ne (tgt := 51) X.x X.b dX7_sum_46 (by decide) (fun c5 => ?_) (fun c5 => ?_)
  · have h := it_f c5 h
    refine lv_aload_n X.x X.b dX7_sum_51 rfl (lv_at hl 1 rfl) ?_
    refine lv_iconst (v := 3) X.x X.b dX7_sum_52 (by decide) ?_
    refine lv_iload_n X.x X.b dX7_sum_53 rfl (lv_at hl 0 rfl) ?_
    obtain ⟨r4, σ4, h4, h⟩ := ob_e h
    refine r_runV M (r_callV (As := [.int 3, .int r1]) X M (lv_sub hl [] rfl) (T_X7_step1 h4 _) cal_X7_step1 q844 ⟨by show 1 + 1 ≤ d + 1; omega, by show 8 + (3 + 11) + 48 * 1 ≤ 48 * (d + 1); omega⟩ hq_66 (el_66 _ _) rfl rfl rfl (Nat.le_of_ble_eq_true rfl) ⟨Nat.le_refl _, Nat.le_refl _⟩ dX7_sum_54) (fun H locs M => ?_)
    clear h4
    refine lv_goto (tgt := 9) X.x X.b dX7_sum_57 (by decide) ?_
    exact H9 σ4 _ _ _ h M (lv_sub hl [1] rfl)
  · have h := it_t c5 h
    refine lv_iconst (v := 0) X.x X.b dX7_sum_49 (by decide) ?_
    exact r_iret X M rfl h dX7_sum_50
def f_X7_sum_b9 (rec : Nat → St → Rs) (k9 : (St → Rs)) (σ : St) : Rs :=
  ob (f_X7_look σ) fun r1 σ1 => (
  if r1 = 43 then (
    f_X7_sum_b27 rec k9 σ1
  ) else (
    ob (f_X7_look σ1) fun r2 σ2 => (
    if r2 = 45 then (
      f_X7_sum_b27 rec k9 σ2
    ) else (
      some (1, σ2)
    ))
  ))
set_option maxRecDepth 100000 in
set_option maxHeartbeats 4000000 in
theorem u_X7_sum_b9 {l : Launch} {Γ : Gm} {p : Program} {e : Env} {s : State} {m : MethodId} {args : Array Value} {below : List Frame} {meth : Method} {c : Code} {r : Int32} {σ' : St} {d : Nat} {rec : Nat → St → Rs} {k9 : St → Rs} (X : Cx p s m args meth c cX7_sum RX7 2 (some .boolean) Γ) (HR : GC_X7_both l Γ d rec) (hd : 2 ≤ d) (H9 : ∀ (σ : St) (H : Heap) (locs : List Loc) (ls : Array Slot), k9 σ = some (r, σ') → Mv Γ σ s H locs → lv_has ls 2 [(0, .ref (Γ.1 66))] → W p l e (rmd (d + 1)) s m args below meth c H locs 0 0 (MQ below (Qi Γ r σ' s.heap.size) args s 0 0 (Rg Γ s.heap.size)) (F0 m 9 ls [])) (σ : St) (H : Heap) (locs : List Loc) (ls : Array Slot) (h : f_X7_sum_b9 rec k9 σ = some (r, σ')) (M : Mv Γ σ s H locs) (hl : lv_has ls 2 [(0, .ref (Γ.1 66))]) : W p l e (rmd (d + 1)) s m args below meth c H locs 0 0 (MQ below (Qi Γ r σ' s.heap.size) args s 0 0 (Rg Γ s.heap.size)) (F0 m 9 ls []) := by
  unfold f_X7_sum_b9 at h
  refine lv_aload_n X.x X.b dX7_sum_9 rfl (lv_at hl 0 rfl) ?_
  obtain ⟨r1, σ1, h1, h⟩ := ob_e h
  refine r_runI M (r_callV (As := []) X M (lv_sub hl [] rfl) (T_X7_look h1 _) cal_X7_look q836 ⟨by show 1 + 1 ≤ d + 1; omega, by show 8 + (1 + 11) + 48 * 1 ≤ 48 * (d + 1); omega⟩ hq_66 (el_66 _ _) rfl rfl rfl (Nat.le_of_ble_eq_true rfl) ⟨Nat.le_refl _, Nat.le_refl _⟩ dX7_sum_10) (fun H locs M => ?_)
  clear h1
  refine lv_bipush (v := 43) X.x X.b dX7_sum_13 (by decide) ?_
  refine lv_icmp_eq (tgt := 27) X.x X.b dX7_sum_15 (by decide) (fun c4 => ?_) (fun c4 => ?_)
  · have h := it_t c4 h
    exact u_X7_sum_b27 X HR hd H9 σ1 _ _ _ h M (lv_sub hl [0] rfl)
  · have h := it_f c4 h
    refine lv_aload_n X.x X.b dX7_sum_18 rfl (lv_at hl 0 rfl) ?_
    obtain ⟨r2, σ2, h2, h⟩ := ob_e h
    refine r_runI M (r_callV (As := []) X M (lv_sub hl [] rfl) (T_X7_look h2 _) cal_X7_look q836 ⟨by show 1 + 1 ≤ d + 1; omega, by show 8 + (1 + 11) + 48 * 1 ≤ 48 * (d + 1); omega⟩ hq_66 (el_66 _ _) rfl rfl rfl (Nat.le_of_ble_eq_true rfl) ⟨Nat.le_refl _, Nat.le_refl _⟩ dX7_sum_19) (fun H locs M => ?_)
    clear h2
    refine lv_bipush (v := 45) X.x X.b dX7_sum_22 (by decide) ?_
    refine lv_icmp_ne (tgt := 60) X.x X.b dX7_sum_24 (by decide) (fun c3 => ?_) (fun c3 => ?_)
    · have h := it_f c3 h
      refine lv_iconst (v := 1) X.x X.b dX7_sum_60 (by decide) ?_
      exact r_iret X M rfl h dX7_sum_61
    · have h := it_t c3 h
      exact u_X7_sum_b27 X HR hd H9 σ2 _ _ _ h M (lv_sub hl [0] rfl)
def f_X7_sum_L9 (rec : Nat → St → Rs) : Nat → St → Rs
  | 0 => fun _ => none
  | n + 1 => fun σ => f_X7_sum_b9 rec (f_X7_sum_L9 rec n) σ
theorem u_X7_sum_L9 {l : Launch} {Γ : Gm} {p : Program} {e : Env} {s : State} {m : MethodId} {args : Array Value} {below : List Frame} {meth : Method} {c : Code} {r : Int32} {σ' : St} {d : Nat} {rec : Nat → St → Rs} (X : Cx p s m args meth c cX7_sum RX7 2 (some .boolean) Γ) (HR : GC_X7_both l Γ d rec) (hd : 2 ≤ d) : ∀ (n : Nat) (σ : St) (H : Heap) (locs : List Loc) (ls : Array Slot), f_X7_sum_L9 rec n σ = some (r, σ') → Mv Γ σ s H locs → lv_has ls 2 [(0, .ref (Γ.1 66))] → W p l e (rmd (d + 1)) s m args below meth c H locs 0 0 (MQ below (Qi Γ r σ' s.heap.size) args s 0 0 (Rg Γ s.heap.size)) (F0 m 9 ls []) := by
  intro n
  induction n with
  | zero => intro σ H locs ls h; cases h
  | succ n ih => intro σ H locs ls h; exact u_X7_sum_b9 X HR hd  ih σ H locs ls h
/-- StreetNumbersModel.sum()Z -/
def f_X7_sum (rec : Nat → St → Rs) (σ : St) : Rs :=
  ob (rec 3 σ) fun r1 σ1 => (
  if r1 = 0 then (
    some (0, σ1)
  ) else (
    f_X7_sum_L9 rec LF σ1
  ))
set_option maxRecDepth 100000 in
set_option maxHeartbeats 4000000 in
theorem T_X7_sum {l : Launch} {Γ : Gm} {d : Nat} {rec : Nat → St → Rs} (HR : GC_X7_both l Γ d rec) (hd : 2 ≤ d) {σ : St} {r : Int32} {σ' : St} (h : f_X7_sum rec σ = some (r, σ')) : MetI l yX7_sum cX7_sum 2 .boolean (d + 1) Γ σ [.ref (Γ.1 66)] r σ' := by
  intro sz
  refine met_in (by decide) (Nat.le_of_ble_eq_true rfl) (fun p e s m args below meth c ls X hsz M hl => ?_)
  subst hsz
  have X : Cx p s m args meth c cX7_sum RX7 2 (some .boolean) Γ := X
  have hl : lv_has ls 2 [(0, .ref (Γ.1 66))] := hl
  unfold f_X7_sum at h
  refine lv_aload_n X.x X.b dX7_sum_0 rfl (lv_at hl 0 rfl) ?_
  obtain ⟨r1, σ1, h1, h⟩ := ob_e h
  refine r_runI M (r_callV (As := []) X M (lv_sub hl [] rfl) (HR.2.2.2.1 _ _ _ h1 _) cal_X7_product q828 ⟨Nat.le_refl _, (by show 8 + (2 + 11) + 48 * d ≤ 48 * (d + 1); omega)⟩ hq_66 (el_66 _ _) rfl rfl rfl (Nat.le_of_ble_eq_true rfl) ⟨Nat.le_refl _, Nat.le_refl _⟩ dX7_sum_1) (fun H locs M => ?_)
  clear h1
  refine lv_if_ne (tgt := 9) X.x X.b dX7_sum_4 (by decide) (fun c2 => ?_) (fun c2 => ?_)
  · have h := it_f c2 h
    exact u_X7_sum_L9 X HR hd LF σ1 _ _ _ h M (lv_sub hl [0] rfl)
  · have h := it_t c2 h
    refine lv_iconst (v := 0) X.x X.b dX7_sum_7 (by decide) ?_
    exact r_iret X M rfl h dX7_sum_8
def f_X7_whole_b9 (rec : Nat → St → Rs) (k9 : (St → Rs)) (σ : St) : Rs :=
  ob (f_X7_look σ) fun r1 σ1 => (
  if r1 = 124 then (
    ol (st σ1 66 4 ((σ1 66 4) + 1)) fun σ2 => (
    ob (rec 0 σ2) fun r3 σ3 => (
    if r3 = 0 then (
      some (0, σ3)
    ) else (
      ob (f_X7_step1 3 124 σ3) fun _ σ4 => (
      k9 σ4)
    )))
  ) else (
    some (1, σ1)
  ))
set_option maxRecDepth 100000 in
set_option maxHeartbeats 4000000 in
theorem u_X7_whole_b9 {l : Launch} {Γ : Gm} {p : Program} {e : Env} {s : State} {m : MethodId} {args : Array Value} {below : List Frame} {meth : Method} {c : Code} {r : Int32} {σ' : St} {d : Nat} {rec : Nat → St → Rs} {k9 : St → Rs} (X : Cx p s m args meth c cX7_whole RX7 1 (some .boolean) Γ) (HR : GC_X7_both l Γ d rec) (hd : 2 ≤ d) (H9 : ∀ (σ : St) (H : Heap) (locs : List Loc) (ls : Array Slot), k9 σ = some (r, σ') → Mv Γ σ s H locs → lv_has ls 1 [(0, .ref (Γ.1 66))] → W p l e (rmd (d + 1)) s m args below meth c H locs 0 0 (MQ below (Qi Γ r σ' s.heap.size) args s 0 0 (Rg Γ s.heap.size)) (F0 m 9 ls [])) (σ : St) (H : Heap) (locs : List Loc) (ls : Array Slot) (h : f_X7_whole_b9 rec k9 σ = some (r, σ')) (M : Mv Γ σ s H locs) (hl : lv_has ls 1 [(0, .ref (Γ.1 66))]) : W p l e (rmd (d + 1)) s m args below meth c H locs 0 0 (MQ below (Qi Γ r σ' s.heap.size) args s 0 0 (Rg Γ s.heap.size)) (F0 m 9 ls []) := by
  unfold f_X7_whole_b9 at h
  refine lv_aload_n X.x X.b dX7_whole_9 rfl (lv_at hl 0 rfl) ?_
  obtain ⟨r1, σ1, h1, h⟩ := ob_e h
  refine r_runI M (r_callV (As := []) X M (lv_sub hl [] rfl) (T_X7_look h1 _) cal_X7_look q836 ⟨by show 1 + 1 ≤ d + 1; omega, by show 8 + (1 + 11) + 48 * 1 ≤ 48 * (d + 1); omega⟩ hq_66 (el_66 _ _) rfl rfl rfl (Nat.le_of_ble_eq_true rfl) ⟨Nat.le_refl _, Nat.le_refl _⟩ dX7_whole_10) (fun H locs M => ?_)
  clear h1
  refine lv_bipush (v := 124) X.x X.b dX7_whole_13 (by decide) ?_
  refine lv_icmp_ne (tgt := 47) X.x X.b dX7_whole_15 (by decide) (fun c6 => ?_) (fun c6 => ?_)
  · have h := it_f c6 h
    refine lv_iconst (v := 1) X.x X.b dX7_whole_47 (by decide) ?_
    exact r_iret X M rfl h dX7_whole_48
  · have h := it_t c6 h
    refine lv_aload_n X.x X.b dX7_whole_18 rfl (lv_at hl 0 rfl) ?_
    refine lv_dup X.x X.b dX7_whole_19 rfl ?_
    refine r_get X M hq_66 (el_66 _ _) rfl inX7 4 (by decide) q732 rfl rfl dX7_whole_20 ?_
    refine lv_iconst (v := 1) X.x X.b dX7_whole_23 (by decide) ?_
    refine lv_iadd X.x X.b dX7_whole_24 ?_
    obtain ⟨σ2, e2, h⟩ := ol_e h
    refine r_put (x := ((σ1 66 4) + 1)) (ty := .int) X M hq_66 (el_66 _ _) rfl inX7 tyX7_ok nmX7 4 (by decide) q732 rfl rfl rfl rfl rfl (Nat.le_of_ble_eq_true rfl) (pf_66_4 _ _ _) dX7_whole_25 (fun H locs M => ?_)
    rw [← e2] at M
    refine lv_aload_n X.x X.b dX7_whole_28 rfl (lv_at hl 0 rfl) ?_
    obtain ⟨r3, σ3, h3, h⟩ := ob_e h
    refine r_runI M (r_callV (As := []) X M (lv_sub hl [] rfl) (HR.1 _ _ _ h3 _) cal_X7_both q816 ⟨Nat.le_refl _, (by show 8 + (1 + 11) + 48 * d ≤ 48 * (d + 1); omega)⟩ hq_66 (el_66 _ _) rfl rfl rfl (Nat.le_of_ble_eq_true rfl) ⟨Nat.le_refl _, Nat.le_refl _⟩ dX7_whole_29) (fun H locs M => ?_)
    clear h3
    refine lv_if_ne (tgt := 37) X.x X.b dX7_whole_32 (by decide) (fun c5 => ?_) (fun c5 => ?_)
    · have h := it_f c5 h
      refine lv_aload_n X.x X.b dX7_whole_37 rfl (lv_at hl 0 rfl) ?_
      refine lv_iconst (v := 3) X.x X.b dX7_whole_38 (by decide) ?_
      refine lv_bipush (v := 124) X.x X.b dX7_whole_39 (by decide) ?_
      obtain ⟨r4, σ4, h4, h⟩ := ob_e h
      refine r_runV M (r_callV (As := [.int 3, .int 124]) X M (lv_sub hl [] rfl) (T_X7_step1 h4 _) cal_X7_step1 q844 ⟨by show 1 + 1 ≤ d + 1; omega, by show 8 + (3 + 11) + 48 * 1 ≤ 48 * (d + 1); omega⟩ hq_66 (el_66 _ _) rfl rfl rfl (Nat.le_of_ble_eq_true rfl) ⟨Nat.le_refl _, Nat.le_refl _⟩ dX7_whole_41) (fun H locs M => ?_)
      clear h4
      refine lv_goto (tgt := 9) X.x X.b dX7_whole_44 (by decide) ?_
      exact H9 σ4 _ _ _ h M (lv_sub hl [0] rfl)
    · have h := it_t c5 h
      refine lv_iconst (v := 0) X.x X.b dX7_whole_35 (by decide) ?_
      exact r_iret X M rfl h dX7_whole_36
def f_X7_whole_L9 (rec : Nat → St → Rs) : Nat → St → Rs
  | 0 => fun _ => none
  | n + 1 => fun σ => f_X7_whole_b9 rec (f_X7_whole_L9 rec n) σ
theorem u_X7_whole_L9 {l : Launch} {Γ : Gm} {p : Program} {e : Env} {s : State} {m : MethodId} {args : Array Value} {below : List Frame} {meth : Method} {c : Code} {r : Int32} {σ' : St} {d : Nat} {rec : Nat → St → Rs} (X : Cx p s m args meth c cX7_whole RX7 1 (some .boolean) Γ) (HR : GC_X7_both l Γ d rec) (hd : 2 ≤ d) : ∀ (n : Nat) (σ : St) (H : Heap) (locs : List Loc) (ls : Array Slot), f_X7_whole_L9 rec n σ = some (r, σ') → Mv Γ σ s H locs → lv_has ls 1 [(0, .ref (Γ.1 66))] → W p l e (rmd (d + 1)) s m args below meth c H locs 0 0 (MQ below (Qi Γ r σ' s.heap.size) args s 0 0 (Rg Γ s.heap.size)) (F0 m 9 ls []) := by
  intro n
  induction n with
  | zero => intro σ H locs ls h; cases h
  | succ n ih => intro σ H locs ls h; exact u_X7_whole_b9 X HR hd  ih σ H locs ls h
/-- StreetNumbersModel.whole()Z -/
def f_X7_whole (rec : Nat → St → Rs) (σ : St) : Rs :=
  ob (rec 0 σ) fun r1 σ1 => (
  if r1 = 0 then (
    some (0, σ1)
  ) else (
    f_X7_whole_L9 rec LF σ1
  ))
set_option maxRecDepth 100000 in
set_option maxHeartbeats 4000000 in
theorem T_X7_whole {l : Launch} {Γ : Gm} {d : Nat} {rec : Nat → St → Rs} (HR : GC_X7_both l Γ d rec) (hd : 2 ≤ d) {σ : St} {r : Int32} {σ' : St} (h : f_X7_whole rec σ = some (r, σ')) : MetI l yX7_whole cX7_whole 1 .boolean (d + 1) Γ σ [.ref (Γ.1 66)] r σ' := by
  intro sz
  refine met_in (by decide) (Nat.le_of_ble_eq_true rfl) (fun p e s m args below meth c ls X hsz M hl => ?_)
  subst hsz
  have X : Cx p s m args meth c cX7_whole RX7 1 (some .boolean) Γ := X
  have hl : lv_has ls 1 [(0, .ref (Γ.1 66))] := hl
  unfold f_X7_whole at h
  refine lv_aload_n X.x X.b dX7_whole_0 rfl (lv_at hl 0 rfl) ?_
  obtain ⟨r1, σ1, h1, h⟩ := ob_e h
  refine r_runI M (r_callV (As := []) X M (lv_sub hl [] rfl) (HR.1 _ _ _ h1 _) cal_X7_both q816 ⟨Nat.le_refl _, (by show 8 + (1 + 11) + 48 * d ≤ 48 * (d + 1); omega)⟩ hq_66 (el_66 _ _) rfl rfl rfl (Nat.le_of_ble_eq_true rfl) ⟨Nat.le_refl _, Nat.le_refl _⟩ dX7_whole_1) (fun H locs M => ?_)
  clear h1
  refine lv_if_ne (tgt := 9) X.x X.b dX7_whole_4 (by decide) (fun c2 => ?_) (fun c2 => ?_)
  · have h := it_f c2 h
    exact u_X7_whole_L9 X HR hd LF σ1 _ _ _ h M (lv_sub hl [0] rfl)
  · have h := it_t c2 h
    refine lv_iconst (v := 0) X.x X.b dX7_whole_7 (by decide) ?_
    exact r_iret X M rfl h dX7_whole_8
def g_X7_both : Nat → Nat → St → Rs
  | 0 => fun _ _ => none
  | n + 1 => fun t  σ => if t = 0 then f_X7_both (g_X7_both n) σ else if t = 1 then f_X7_compared (g_X7_both n) σ else if t = 2 then f_X7_one (g_X7_both n) σ else if t = 3 then f_X7_product (g_X7_both n) σ else if t = 4 then f_X7_sum (g_X7_both n) σ else if t = 5 then f_X7_whole (g_X7_both n) σ else none
theorem TG_X7_both {l : Launch} {Γ : Gm} : ∀ n : Nat, GC_X7_both l Γ (2 + n) (g_X7_both n) := by
  intro n
  induction n with
  | zero => exact ⟨fun _ _ _ h => (by cases h), fun _ _ _ h => (by cases h), fun _ _ _ h => (by cases h), fun _ _ _ h => (by cases h), fun _ _ _ h => (by cases h), fun _ _ _ h => (by cases h)⟩
  | succ n ih =>
    exact ⟨fun _ _ _ h => T_X7_both (l := l) (Γ := Γ) ih (by omega) h, fun _ _ _ h => T_X7_compared (l := l) (Γ := Γ) ih (by omega) h, fun _ _ _ h => T_X7_one (l := l) (Γ := Γ) ih (by omega) h, fun _ _ _ h => T_X7_product (l := l) (Γ := Γ) ih (by omega) h, fun _ _ _ h => T_X7_sum (l := l) (Γ := Γ) ih (by omega) h, fun _ _ _ h => T_X7_whole (l := l) (Γ := Γ) ih (by omega) h⟩
def f_X7_text_b101 (k101 : (Int32 → Int32 → St → Rs)) (x3 : Int32) (x4 : Int32) (σ : St) : Rs :=
  if (2 * (σ 66 6)) ≤ x4 then (
    some (1, σ)
  ) else (
    if inb x4 124 then (
    if inb ((x3 + 1) + x4) 382 then (
    ol (st σ 67 ((x3 + 1) + x4).toNatClampNeg (σ 70 x4.toNatClampNeg)) fun σ3 => (
    k101 x3 (x4 + 1) σ3)) else none) else none
  )
set_option maxRecDepth 100000 in
set_option maxHeartbeats 4000000 in
theorem u_X7_text_b101 {l : Launch} {Γ : Gm} {p : Program} {e : Env} {s : State} {m : MethodId} {args : Array Value} {below : List Frame} {meth : Method} {c : Code} {r : Int32} {σ' : St} {k101 : Int32 → Int32 → St → Rs} (X : Cx p s m args meth c cX7_text RX7 5 (some .int) Γ) (H101 : ∀ (x3 : Int32) (x4 : Int32) (σ : St) (H : Heap) (locs : List Loc) (ls : Array Slot), k101 x3 x4 σ = some (r, σ') → Mv Γ σ s H locs → lv_has ls 5 [(0, .ref (Γ.1 66)), (3, .int x3), (4, .int x4)] → W p l e (rmd 103) s m args below meth c H locs 0 0 (MQ below (Qi Γ r σ' s.heap.size) args s 0 0 (Rg Γ s.heap.size)) (F0 m 101 ls [])) (x3 : Int32) (x4 : Int32) (σ : St) (H : Heap) (locs : List Loc) (ls : Array Slot) (h : f_X7_text_b101 k101 x3 x4 σ = some (r, σ')) (M : Mv Γ σ s H locs) (hl : lv_has ls 5 [(0, .ref (Γ.1 66)), (3, .int x3), (4, .int x4)]) : W p l e (rmd 103) s m args below meth c H locs 0 0 (MQ below (Qi Γ r σ' s.heap.size) args s 0 0 (Rg Γ s.heap.size)) (F0 m 101 ls []) := by
  unfold f_X7_text_b101 at h
  refine lv_iload X.x X.b dX7_text_101 (lv_at hl 2 rfl) ?_
  refine lv_iconst (v := 2) X.x X.b dX7_text_103 (by decide) ?_
  refine lv_aload_n X.x X.b dX7_text_104 rfl (lv_at hl 0 rfl) ?_
  refine r_get X M hq_66 (el_66 _ _) rfl inX7 6 (by decide) q734 rfl rfl dX7_text_105 ?_
  refine lv_imul X.x X.b dX7_text_108 ?_
  refine lv_icmp_ge (tgt := 136) X.x X.b dX7_text_109 (by decide) (fun c4 => ?_) (fun c4 => ?_)
  · have h := it_t c4 h
    refine lv_iconst (v := 1) X.x X.b dX7_text_136 (by decide) ?_
    exact r_iret X M rfl h dX7_text_137
  · have h := it_f c4 h
    refine lv_aload_n X.x X.b dX7_text_112 rfl (lv_at hl 0 rfl) ?_
    refine r_get X M hq_66 (el_66 _ _) rfl inX7 0 (by decide) q728 rfl rfl dX7_text_113 ?_
    refine lv_iload_n X.x X.b dX7_text_116 rfl (lv_at hl 1 rfl) ?_
    refine lv_iconst (v := 1) X.x X.b dX7_text_117 (by decide) ?_
    refine lv_iadd X.x X.b dX7_text_118 ?_
    refine lv_iload X.x X.b dX7_text_119 (lv_at hl 2 rfl) ?_
    refine lv_iadd X.x X.b dX7_text_121 ?_
    refine lv_aload_n X.x X.b dX7_text_122 rfl (lv_at hl 0 rfl) ?_
    refine r_get X M hq_66 (el_66 _ _) rfl inX7 8 (by decide) q736 rfl rfl dX7_text_123 ?_
    refine lv_iload X.x X.b dX7_text_126 (lv_at hl 2 rfl) ?_
    obtain ⟨c1, h⟩ := it_n h
    refine r_iald (q := 70) (n := 124) X M rfl c1 dX7_text_128 ?_
    obtain ⟨c2, h⟩ := it_n h
    obtain ⟨σ3, e3, h⟩ := ol_e h
    refine r_iast (q := 67) (n := 382) X M rfl c2 dX7_text_129 (fun H locs M => ?_)
    rw [← e3] at M
    refine lv_iinc (v := (x4 + 1)) (lv' := [(4, .int (x4 + 1)), (0, .ref (Γ.1 66)), (3, .int x3)]) X.x X.b dX7_text_130 hl (k := 2) rfl rfl (by decide) rfl (fun ls hl => ?_)
    refine lv_goto (tgt := 101) X.x X.b dX7_text_133 (by decide) ?_
    exact H101 x3 (x4 + 1) σ3 _ _ _ h M (lv_sub hl [1, 2, 0] rfl)
def f_X7_text_L101 : Nat → Int32 → Int32 → St → Rs
  | 0 => fun _ _ _ => none
  | n + 1 => fun x3 x4 σ => f_X7_text_b101 (f_X7_text_L101 n) x3 x4 σ
theorem u_X7_text_L101 {l : Launch} {Γ : Gm} {p : Program} {e : Env} {s : State} {m : MethodId} {args : Array Value} {below : List Frame} {meth : Method} {c : Code} {r : Int32} {σ' : St} (X : Cx p s m args meth c cX7_text RX7 5 (some .int) Γ) : ∀ (n : Nat) (x3 : Int32) (x4 : Int32) (σ : St) (H : Heap) (locs : List Loc) (ls : Array Slot), f_X7_text_L101 n x3 x4 σ = some (r, σ') → Mv Γ σ s H locs → lv_has ls 5 [(0, .ref (Γ.1 66)), (3, .int x3), (4, .int x4)] → W p l e (rmd 103) s m args below meth c H locs 0 0 (MQ below (Qi Γ r σ' s.heap.size) args s 0 0 (Rg Γ s.heap.size)) (F0 m 101 ls []) := by
  intro n
  induction n with
  | zero => intro x3 x4 σ H locs ls h; cases h
  | succ n ih => intro x3 x4 σ H locs ls h; exact u_X7_text_b101 X  ih x3 x4 σ H locs ls h
def f_X7_text_b60 (x1 : Int32) (y0 : Int32) (σ : St) : Rs :=
  if inb 3 382 then (
  ol (st σ 67 (3 : Int32).toNatClampNeg 0) fun σ2 => (
  if y0 = 0 then (
    some (((-10) - (σ2 66 4)), σ2)
  ) else (
    if inb (48 + (125 * x1)) 382 then (
    ol (st σ2 67 (48 + (125 * x1)).toNatClampNeg (σ2 66 6)) fun σ4 => (
    f_X7_text_L101 LF (48 + (125 * x1)) 0 σ4)) else none
  ))) else none
set_option maxRecDepth 100000 in
set_option maxHeartbeats 4000000 in
theorem u_X7_text_b60 {l : Launch} {Γ : Gm} {p : Program} {e : Env} {s : State} {m : MethodId} {args : Array Value} {below : List Frame} {meth : Method} {c : Code} {r : Int32} {σ' : St} (X : Cx p s m args meth c cX7_text RX7 5 (some .int) Γ) (x1 : Int32) (y0 : Int32) (σ : St) (H : Heap) (locs : List Loc) (ls : Array Slot) (h : f_X7_text_b60 x1 y0 σ = some (r, σ')) (M : Mv Γ σ s H locs) (hl : lv_has ls 5 [(0, .ref (Γ.1 66)), (1, .int x1)]) : W p l e (rmd 103) s m args below meth c H locs 0 0 (MQ below (Qi Γ r σ' s.heap.size) args s 0 0 (Rg Γ s.heap.size)) (F0 m 60 ls [.int y0]) := by
  unfold f_X7_text_b60 at h
  refine lv_istore_n (lv' := [(2, .int y0), (0, .ref (Γ.1 66)), (1, .int x1)]) X.x X.b dX7_text_60 rfl hl (by decide) rfl (fun ls hl => ?_)
  refine lv_aload_n X.x X.b dX7_text_61 rfl (lv_at hl 1 rfl) ?_
  refine r_get X M hq_66 (el_66 _ _) rfl inX7 0 (by decide) q728 rfl rfl dX7_text_62 ?_
  refine lv_iconst (v := 3) X.x X.b dX7_text_65 (by decide) ?_
  refine lv_iconst (v := 0) X.x X.b dX7_text_66 (by decide) ?_
  obtain ⟨c1, h⟩ := it_n h
  obtain ⟨σ2, e2, h⟩ := ol_e h
  refine r_iast (q := 67) (n := 382) X M rfl c1 dX7_text_67 (fun H locs M => ?_)
  rw [← e2] at M
  refine lv_iload_n X.x X.b dX7_text_68 rfl (lv_at hl 0 rfl) ?_
  refine lv_if_ne (tgt := 80) X.x X.b dX7_text_69 (by decide) (fun c5 => ?_) (fun c5 => ?_)
  · have h := it_f c5 h
    refine lv_bipush (v := 48) X.x X.b dX7_text_80 (by decide) ?_
    refine lv_bipush (v := 125) X.x X.b dX7_text_82 (by decide) ?_
    refine lv_iload_n X.x X.b dX7_text_84 rfl (lv_at hl 2 rfl) ?_
    refine lv_imul X.x X.b dX7_text_85 ?_
    refine lv_iadd X.x X.b dX7_text_86 ?_
    refine lv_istore_n (lv' := [(3, .int (48 + (125 * x1))), (2, .int y0), (0, .ref (Γ.1 66)), (1, .int x1)]) X.x X.b dX7_text_87 rfl hl (by decide) rfl (fun ls hl => ?_)
    refine lv_aload_n X.x X.b dX7_text_88 rfl (lv_at hl 2 rfl) ?_
    refine r_get X M hq_66 (el_66 _ _) rfl inX7 0 (by decide) q728 rfl rfl dX7_text_89 ?_
    refine lv_iload_n X.x X.b dX7_text_92 rfl (lv_at hl 0 rfl) ?_
    refine lv_aload_n X.x X.b dX7_text_93 rfl (lv_at hl 2 rfl) ?_
    refine r_get X M hq_66 (el_66 _ _) rfl inX7 6 (by decide) q734 rfl rfl dX7_text_94 ?_
    obtain ⟨c3, h⟩ := it_n h
    obtain ⟨σ4, e4, h⟩ := ol_e h
    refine r_iast (q := 67) (n := 382) X M rfl c3 dX7_text_97 (fun H locs M => ?_)
    rw [← e4] at M
    refine lv_iconst (v := 0) X.x X.b dX7_text_98 (by decide) ?_
    refine lv_istore (lv' := [(4, .int 0), (3, .int (48 + (125 * x1))), (2, .int y0), (0, .ref (Γ.1 66)), (1, .int x1)]) X.x X.b dX7_text_99 hl (by decide) rfl (fun ls hl => ?_)
    exact u_X7_text_L101 X LF (48 + (125 * x1)) 0 σ4 _ _ _ h M (lv_sub hl [3, 1, 0] rfl)
  · have h := it_t c5 h
    refine lv_bipush (v := (-10)) X.x X.b dX7_text_72 (by decide) ?_
    refine lv_aload_n X.x X.b dX7_text_74 rfl (lv_at hl 1 rfl) ?_
    refine r_get X M hq_66 (el_66 _ _) rfl inX7 4 (by decide) q732 rfl rfl dX7_text_75 ?_
    refine lv_isub X.x X.b dX7_text_78 ?_
    exact r_iret X M rfl h dX7_text_79
/-- StreetNumbersModel.text(I)I -/
def f_X7_text (x1 : Int32) (σ : St) : Rs :=
  ob (f_X7_in x1 0 1 σ) fun r1 σ1 => (
  if r1 = 0 then (
    ob (f_X7_error 1 σ1) fun r10 σ10 => (
    some (r10, σ10))
  ) else (
    ol (st σ1 66 7 x1) fun σ2 => (
    ol (st σ2 66 4 0) fun σ3 => (
    ol (st σ3 66 5 0) fun σ4 => (
    ol (st σ4 66 6 0) fun σ5 => (
    ob (g_X7_both 100 5 σ5) fun r6 σ6 => (
    if r6 = 0 then (
      f_X7_text_b60 x1 0 σ6
    ) else (
      if inb 3 382 then (
      if (σ6 66 4) = (σ6 67 (3 : Int32).toNatClampNeg) then (
        f_X7_text_b60 x1 1 σ6
      ) else (
        f_X7_text_b60 x1 0 σ6
      )) else none
    ))))))
  ))
set_option maxRecDepth 100000 in
set_option maxHeartbeats 4000000 in
theorem T_X7_text {l : Launch} {Γ : Gm} {x1 : Int32} {σ : St} {r : Int32} {σ' : St} (h : f_X7_text x1 σ = some (r, σ')) : MetI l yX7_text cX7_text 5 .int 103 Γ σ [.ref (Γ.1 66), .int x1] r σ' := by
  intro sz
  refine met_in (by decide) (Nat.le_of_ble_eq_true rfl) (fun p e s m args below meth c ls X hsz M hl => ?_)
  subst hsz
  have X : Cx p s m args meth c cX7_text RX7 5 (some .int) Γ := X
  have hl : lv_has ls 5 [(0, .ref (Γ.1 66)), (1, .int x1)] := hl
  unfold f_X7_text at h
  refine lv_iload_n X.x X.b dX7_text_0 rfl (lv_at hl 1 rfl) ?_
  refine lv_iconst (v := 0) X.x X.b dX7_text_1 (by decide) ?_
  refine lv_iconst (v := 1) X.x X.b dX7_text_2 (by decide) ?_
  obtain ⟨r1, σ1, h1, h⟩ := ob_e h
  refine r_runI M (r_callS (As := [.int x1, .int 0, .int 1]) X M (lv_sub hl [] rfl) (T_X7_in h1 _) cal_X7_in q799 ⟨by decide, by decide⟩ rfl rfl (Nat.le_of_ble_eq_true rfl) ⟨Nat.le_refl _, Nat.le_refl _⟩ dX7_text_3) (fun H locs M => ?_)
  clear h1
  refine lv_if_ne (tgt := 15) X.x X.b dX7_text_6 (by decide) (fun c11 => ?_) (fun c11 => ?_)
  · have h := it_f c11 h
    refine lv_aload_n X.x X.b dX7_text_15 rfl (lv_at hl 0 rfl) ?_
    refine lv_iload_n X.x X.b dX7_text_16 rfl (lv_at hl 1 rfl) ?_
    obtain ⟨σ2, e2, h⟩ := ol_e h
    refine r_put (x := x1) (ty := .int) X M hq_66 (el_66 _ _) rfl inX7 tyX7_ok nmX7 7 (by decide) q735 rfl rfl rfl rfl rfl (Nat.le_of_ble_eq_true rfl) (pf_66_7 _ _ _) dX7_text_17 (fun H locs M => ?_)
    rw [← e2] at M
    refine lv_aload_n X.x X.b dX7_text_20 rfl (lv_at hl 0 rfl) ?_
    refine lv_iconst (v := 0) X.x X.b dX7_text_21 (by decide) ?_
    obtain ⟨σ3, e3, h⟩ := ol_e h
    refine r_put (x := 0) (ty := .int) X M hq_66 (el_66 _ _) rfl inX7 tyX7_ok nmX7 4 (by decide) q732 rfl rfl rfl rfl rfl (Nat.le_of_ble_eq_true rfl) (pf_66_4 _ _ _) dX7_text_22 (fun H locs M => ?_)
    rw [← e3] at M
    refine lv_aload_n X.x X.b dX7_text_25 rfl (lv_at hl 0 rfl) ?_
    refine lv_iconst (v := 0) X.x X.b dX7_text_26 (by decide) ?_
    obtain ⟨σ4, e4, h⟩ := ol_e h
    refine r_put (x := 0) (ty := .int) X M hq_66 (el_66 _ _) rfl inX7 tyX7_ok nmX7 5 (by decide) q733 rfl rfl rfl rfl rfl (Nat.le_of_ble_eq_true rfl) (pf_66_5 _ _ _) dX7_text_27 (fun H locs M => ?_)
    rw [← e4] at M
    refine lv_aload_n X.x X.b dX7_text_30 rfl (lv_at hl 0 rfl) ?_
    refine lv_iconst (v := 0) X.x X.b dX7_text_31 (by decide) ?_
    obtain ⟨σ5, e5, h⟩ := ol_e h
    refine r_put (x := 0) (ty := .int) X M hq_66 (el_66 _ _) rfl inX7 tyX7_ok nmX7 6 (by decide) q734 rfl rfl rfl rfl rfl (Nat.le_of_ble_eq_true rfl) (pf_66_6 _ _ _) dX7_text_32 (fun H locs M => ?_)
    rw [← e5] at M
    refine lv_aload_n X.x X.b dX7_text_35 rfl (lv_at hl 0 rfl) ?_
    obtain ⟨r6, σ6, h6, h⟩ := ob_e h
    refine r_runI M (r_callV (As := []) X M (lv_sub hl [] rfl) ((TG_X7_both 100).2.2.2.2.2 _ _ _ h6 _) cal_X7_whole q812 ⟨by decide, by decide⟩ hq_66 (el_66 _ _) rfl rfl rfl (Nat.le_of_ble_eq_true rfl) ⟨Nat.le_refl _, Nat.le_refl _⟩ dX7_text_36) (fun H locs M => ?_)
    clear h6
    refine lv_if_eq (tgt := 59) X.x X.b dX7_text_39 (by decide) (fun c9 => ?_) (fun c9 => ?_)
    · have h := it_t c9 h
      refine lv_iconst (v := 0) X.x X.b dX7_text_59 (by decide) ?_
      exact u_X7_text_b60 X x1 0 σ6 _ _ _ h M (lv_sub hl [0, 1] rfl)
    · have h := it_f c9 h
      refine lv_aload_n X.x X.b dX7_text_42 rfl (lv_at hl 0 rfl) ?_
      refine r_get X M hq_66 (el_66 _ _) rfl inX7 4 (by decide) q732 rfl rfl dX7_text_43 ?_
      refine lv_aload_n X.x X.b dX7_text_46 rfl (lv_at hl 0 rfl) ?_
      refine r_get X M hq_66 (el_66 _ _) rfl inX7 0 (by decide) q728 rfl rfl dX7_text_47 ?_
      refine lv_iconst (v := 3) X.x X.b dX7_text_50 (by decide) ?_
      obtain ⟨c7, h⟩ := it_n h
      refine r_iald (q := 67) (n := 382) X M rfl c7 dX7_text_51 ?_
      refine lv_icmp_ne (tgt := 59) X.x X.b dX7_text_52 (by decide) (fun c8 => ?_) (fun c8 => ?_)
      · have h := it_f c8 h
        refine lv_iconst (v := 0) X.x X.b dX7_text_59 (by decide) ?_
        exact u_X7_text_b60 X x1 0 σ6 _ _ _ h M (lv_sub hl [0, 1] rfl)
      · have h := it_t c8 h
        refine lv_iconst (v := 1) X.x X.b dX7_text_55 (by decide) ?_
        refine lv_goto (tgt := 60) X.x X.b dX7_text_56 (by decide) ?_
        exact u_X7_text_b60 X x1 1 σ6 _ _ _ h M (lv_sub hl [0, 1] rfl)
  · have h := it_t c11 h
    refine lv_aload_n X.x X.b dX7_text_9 rfl (lv_at hl 0 rfl) ?_
    refine lv_iconst (v := 1) X.x X.b dX7_text_10 (by decide) ?_
    obtain ⟨r10, σ10, h10, h⟩ := ob_e h
    refine r_runI M (r_callV (As := [.int 1]) X M (lv_sub hl [] rfl) (T_X7_error h10 _) cal_X7_error q802 ⟨by decide, by decide⟩ hq_66 (el_66 _ _) rfl rfl rfl (Nat.le_of_ble_eq_true rfl) ⟨Nat.le_refl _, Nat.le_refl _⟩ dX7_text_11) (fun H locs M => ?_)
    clear h10
    exact r_iret X M rfl h dX7_text_14
/-- StreetNumbersModel.told(I)I -/
def f_X7_told (x1 : Int32) (σ : St) : Rs :=
  ob (f_X7_in x1 1 6 σ) fun r1 σ1 => (
  if r1 = 0 then (
    ob (f_X7_error 1 σ1) fun r2 σ2 => (
    some (r2, σ2))
  ) else (
    if inb x1 7 then (
    some ((σ1 69 x1.toNatClampNeg), σ1)) else none
  ))
set_option maxRecDepth 100000 in
set_option maxHeartbeats 4000000 in
theorem T_X7_told {l : Launch} {Γ : Gm} {x1 : Int32} {σ : St} {r : Int32} {σ' : St} (h : f_X7_told x1 σ = some (r, σ')) : MetI l yX7_told cX7_told 2 .int 2 Γ σ [.ref (Γ.1 66), .int x1] r σ' := by
  intro sz
  refine met_in (by decide) (Nat.le_of_ble_eq_true rfl) (fun p e s m args below meth c ls X hsz M hl => ?_)
  subst hsz
  have X : Cx p s m args meth c cX7_told RX7 2 (some .int) Γ := X
  have hl : lv_has ls 2 [(0, .ref (Γ.1 66)), (1, .int x1)] := hl
  unfold f_X7_told at h
  refine lv_iload_n X.x X.b dX7_told_0 rfl (lv_at hl 1 rfl) ?_
  refine lv_iconst (v := 1) X.x X.b dX7_told_1 (by decide) ?_
  refine lv_bipush (v := 6) X.x X.b dX7_told_2 (by decide) ?_
  obtain ⟨r1, σ1, h1, h⟩ := ob_e h
  refine r_runI M (r_callS (As := [.int x1, .int 1, .int 6]) X M (lv_sub hl [] rfl) (T_X7_in h1 _) cal_X7_in q799 ⟨by decide, by decide⟩ rfl rfl (Nat.le_of_ble_eq_true rfl) ⟨Nat.le_refl _, Nat.le_refl _⟩ dX7_told_4) (fun H locs M => ?_)
  clear h1
  refine lv_if_eq (tgt := 19) X.x X.b dX7_told_7 (by decide) (fun c4 => ?_) (fun c4 => ?_)
  · have h := it_t c4 h
    refine lv_aload_n X.x X.b dX7_told_19 rfl (lv_at hl 0 rfl) ?_
    refine lv_iconst (v := 1) X.x X.b dX7_told_20 (by decide) ?_
    obtain ⟨r2, σ2, h2, h⟩ := ob_e h
    refine r_runI M (r_callV (As := [.int 1]) X M (lv_sub hl [] rfl) (T_X7_error h2 _) cal_X7_error q802 ⟨by decide, by decide⟩ hq_66 (el_66 _ _) rfl rfl rfl (Nat.le_of_ble_eq_true rfl) ⟨Nat.le_refl _, Nat.le_refl _⟩ dX7_told_21) (fun H locs M => ?_)
    clear h2
    exact r_iret X M rfl h dX7_told_24
  · have h := it_f c4 h
    refine lv_aload_n X.x X.b dX7_told_10 rfl (lv_at hl 0 rfl) ?_
    refine r_get X M hq_66 (el_66 _ _) rfl inX7 3 (by decide) q731 rfl rfl dX7_told_11 ?_
    refine lv_iload_n X.x X.b dX7_told_14 rfl (lv_at hl 1 rfl) ?_
    obtain ⟨c3, h⟩ := it_n h
    refine r_iald (q := 69) (n := 7) X M rfl c3 dX7_told_15 ?_
    refine lv_goto (tgt := 24) X.x X.b dX7_told_16 (by decide) ?_
    exact r_iret X M rfl h dX7_told_24
/-- StreetNumbersModel.untell(I)I -/
def f_X7_untell (x1 : Int32) (σ : St) : Rs :=
  ob (f_X7_in x1 0 1 σ) fun r1 σ1 => (
  if r1 = 0 then (
    ob (f_X7_error 1 σ1) fun r8 σ8 => (
    some (r8, σ8))
  ) else (
    ob (f_X7_hasText x1 σ1) fun r2 σ2 => (
    if r2 = 0 then (
      if inb (48 + (125 * x1)) 382 then (
      ol (st σ2 67 (48 + (125 * x1)).toNatClampNeg 0) fun σ4 => (
      some (0, σ4))) else none
    ) else (
      if inb (48 + (125 * x1)) 382 then (
      ol (st σ2 67 (48 + (125 * x1)).toNatClampNeg 0) fun σ6 => (
      some (1, σ6))) else none
    ))
  ))
set_option maxRecDepth 100000 in
set_option maxHeartbeats 4000000 in
theorem T_X7_untell {l : Launch} {Γ : Gm} {x1 : Int32} {σ : St} {r : Int32} {σ' : St} (h : f_X7_untell x1 σ = some (r, σ')) : MetI l yX7_untell cX7_untell 3 .int 2 Γ σ [.ref (Γ.1 66), .int x1] r σ' := by
  intro sz
  refine met_in (by decide) (Nat.le_of_ble_eq_true rfl) (fun p e s m args below meth c ls X hsz M hl => ?_)
  subst hsz
  have X : Cx p s m args meth c cX7_untell RX7 3 (some .int) Γ := X
  have hl : lv_has ls 3 [(0, .ref (Γ.1 66)), (1, .int x1)] := hl
  unfold f_X7_untell at h
  refine lv_iload_n X.x X.b dX7_untell_0 rfl (lv_at hl 1 rfl) ?_
  refine lv_iconst (v := 0) X.x X.b dX7_untell_1 (by decide) ?_
  refine lv_iconst (v := 1) X.x X.b dX7_untell_2 (by decide) ?_
  obtain ⟨r1, σ1, h1, h⟩ := ob_e h
  refine r_runI M (r_callS (As := [.int x1, .int 0, .int 1]) X M (lv_sub hl [] rfl) (T_X7_in h1 _) cal_X7_in q799 ⟨by decide, by decide⟩ rfl rfl (Nat.le_of_ble_eq_true rfl) ⟨Nat.le_refl _, Nat.le_refl _⟩ dX7_untell_3) (fun H locs M => ?_)
  clear h1
  refine lv_if_ne (tgt := 15) X.x X.b dX7_untell_6 (by decide) (fun c9 => ?_) (fun c9 => ?_)
  · have h := it_f c9 h
    refine lv_aload_n X.x X.b dX7_untell_15 rfl (lv_at hl 0 rfl) ?_
    refine lv_iload_n X.x X.b dX7_untell_16 rfl (lv_at hl 1 rfl) ?_
    obtain ⟨r2, σ2, h2, h⟩ := ob_e h
    refine r_runI M (r_callV (As := [.int x1]) X M (lv_sub hl [] rfl) (T_X7_hasText h2 _) cal_X7_hasText q856 ⟨by decide, by decide⟩ hq_66 (el_66 _ _) rfl rfl rfl (Nat.le_of_ble_eq_true rfl) ⟨Nat.le_refl _, Nat.le_refl _⟩ dX7_untell_17) (fun H locs M => ?_)
    clear h2
    refine lv_if_eq (tgt := 27) X.x X.b dX7_untell_20 (by decide) (fun c7 => ?_) (fun c7 => ?_)
    · have h := it_t c7 h
      refine lv_iconst (v := 0) X.x X.b dX7_untell_27 (by decide) ?_
      refine lv_istore_n (lv' := [(2, .int 0), (0, .ref (Γ.1 66)), (1, .int x1)]) X.x X.b dX7_untell_28 rfl hl (by decide) rfl (fun ls hl => ?_)
      refine lv_aload_n X.x X.b dX7_untell_29 rfl (lv_at hl 1 rfl) ?_
      refine r_get X M hq_66 (el_66 _ _) rfl inX7 0 (by decide) q728 rfl rfl dX7_untell_30 ?_
      refine lv_bipush (v := 48) X.x X.b dX7_untell_33 (by decide) ?_
      refine lv_bipush (v := 125) X.x X.b dX7_untell_35 (by decide) ?_
      refine lv_iload_n X.x X.b dX7_untell_37 rfl (lv_at hl 2 rfl) ?_
      refine lv_imul X.x X.b dX7_untell_38 ?_
      refine lv_iadd X.x X.b dX7_untell_39 ?_
      refine lv_iconst (v := 0) X.x X.b dX7_untell_40 (by decide) ?_
      obtain ⟨c3, h⟩ := it_n h
      obtain ⟨σ4, e4, h⟩ := ol_e h
      refine r_iast (q := 67) (n := 382) X M rfl c3 dX7_untell_41 (fun H locs M => ?_)
      rw [← e4] at M
      refine lv_iload_n X.x X.b dX7_untell_42 rfl (lv_at hl 0 rfl) ?_
      exact r_iret X M rfl h dX7_untell_43
    · have h := it_f c7 h
      refine lv_iconst (v := 1) X.x X.b dX7_untell_23 (by decide) ?_
      refine lv_goto (tgt := 28) X.x X.b dX7_untell_24 (by decide) ?_
      refine lv_istore_n (lv' := [(2, .int 1), (0, .ref (Γ.1 66)), (1, .int x1)]) X.x X.b dX7_untell_28 rfl hl (by decide) rfl (fun ls hl => ?_)
      refine lv_aload_n X.x X.b dX7_untell_29 rfl (lv_at hl 1 rfl) ?_
      refine r_get X M hq_66 (el_66 _ _) rfl inX7 0 (by decide) q728 rfl rfl dX7_untell_30 ?_
      refine lv_bipush (v := 48) X.x X.b dX7_untell_33 (by decide) ?_
      refine lv_bipush (v := 125) X.x X.b dX7_untell_35 (by decide) ?_
      refine lv_iload_n X.x X.b dX7_untell_37 rfl (lv_at hl 2 rfl) ?_
      refine lv_imul X.x X.b dX7_untell_38 ?_
      refine lv_iadd X.x X.b dX7_untell_39 ?_
      refine lv_iconst (v := 0) X.x X.b dX7_untell_40 (by decide) ?_
      obtain ⟨c5, h⟩ := it_n h
      obtain ⟨σ6, e6, h⟩ := ol_e h
      refine r_iast (q := 67) (n := 382) X M rfl c5 dX7_untell_41 (fun H locs M => ?_)
      rw [← e6] at M
      refine lv_iload_n X.x X.b dX7_untell_42 rfl (lv_at hl 0 rfl) ?_
      exact r_iret X M rfl h dX7_untell_43
  · have h := it_t c9 h
    refine lv_aload_n X.x X.b dX7_untell_9 rfl (lv_at hl 0 rfl) ?_
    refine lv_iconst (v := 1) X.x X.b dX7_untell_10 (by decide) ?_
    obtain ⟨r8, σ8, h8, h⟩ := ob_e h
    refine r_runI M (r_callV (As := [.int 1]) X M (lv_sub hl [] rfl) (T_X7_error h8 _) cal_X7_error q802 ⟨by decide, by decide⟩ hq_66 (el_66 _ _) rfl rfl rfl (Nat.le_of_ble_eq_true rfl) ⟨Nat.le_refl _, Nat.le_refl _⟩ dX7_untell_11) (fun H locs M => ?_)
    clear h8
    exact r_iret X M rfl h dX7_untell_14
/-- StreetNumbersModel.kindNow()I -/
def f_X7_kindNow (σ : St) : Rs :=
  ob (f_X7_its (σ 66 16) 0 σ) fun r1 σ1 => (
  some (r1, σ1))
set_option maxRecDepth 100000 in
set_option maxHeartbeats 4000000 in
theorem T_X7_kindNow {l : Launch} {Γ : Gm} {σ : St} {r : Int32} {σ' : St} (h : f_X7_kindNow σ = some (r, σ')) : MetI l yX7_kindNow cX7_kindNow 1 .int 2 Γ σ [.ref (Γ.1 66)] r σ' := by
  intro sz
  refine met_in (by decide) (Nat.le_of_ble_eq_true rfl) (fun p e s m args below meth c ls X hsz M hl => ?_)
  subst hsz
  have X : Cx p s m args meth c cX7_kindNow RX7 1 (some .int) Γ := X
  have hl : lv_has ls 1 [(0, .ref (Γ.1 66))] := hl
  unfold f_X7_kindNow at h
  refine lv_aload_n X.x X.b dX7_kindNow_0 rfl (lv_at hl 0 rfl) ?_
  refine lv_aload_n X.x X.b dX7_kindNow_1 rfl (lv_at hl 0 rfl) ?_
  refine r_get X M hq_66 (el_66 _ _) rfl inX7 16 (by decide) q744 rfl rfl dX7_kindNow_2 ?_
  refine lv_iconst (v := 0) X.x X.b dX7_kindNow_5 (by decide) ?_
  obtain ⟨r1, σ1, h1, h⟩ := ob_e h
  refine r_runI M (r_callV (As := [.int (σ 66 16), .int 0]) X M (lv_sub hl [] rfl) (T_X7_its h1 _) cal_X7_its q874 ⟨by decide, by decide⟩ hq_66 (el_66 _ _) rfl rfl rfl (Nat.le_of_ble_eq_true rfl) ⟨Nat.le_refl _, Nat.le_refl _⟩ dX7_kindNow_6) (fun H locs M => ?_)
  clear h1
  exact r_iret X M rfl h dX7_kindNow_9
/-- StreetNumbersModel.starts(I)V -/
def f_X7_starts (x1 : Int32) (σ : St) : Rs :=
  if 30 ≤ (σ 66 14) then (
    some (0, σ)
  ) else (
    if inb (σ 66 14) 30 then (
    ol (st σ 75 (σ 66 14).toNatClampNeg x1) fun σ2 => (
    ol (st σ2 66 14 ((σ2 66 14) + 1)) fun σ3 => (
    some (0, σ3)))) else none
  )
set_option maxRecDepth 100000 in
set_option maxHeartbeats 4000000 in
theorem T_X7_starts {l : Launch} {Γ : Gm} {x1 : Int32} {σ : St} {r : Int32} {σ' : St} (h : f_X7_starts x1 σ = some (r, σ')) : MetV l yX7_starts cX7_starts 2 1 Γ σ [.ref (Γ.1 66), .int x1] σ' := by
  intro sz
  refine met_in (by decide) (Nat.le_of_ble_eq_true rfl) (fun p e s m args below meth c ls X hsz M hl => ?_)
  subst hsz
  have X : Cx p s m args meth c cX7_starts RX7 2 none Γ := X
  have hl : lv_has ls 2 [(0, .ref (Γ.1 66)), (1, .int x1)] := hl
  unfold f_X7_starts at h
  refine lv_aload_n X.x X.b dX7_starts_0 rfl (lv_at hl 0 rfl) ?_
  refine r_get X M hq_66 (el_66 _ _) rfl inX7 14 (by decide) q742 rfl rfl dX7_starts_1 ?_
  refine lv_bipush (v := 30) X.x X.b dX7_starts_4 (by decide) ?_
  refine lv_icmp_ge (tgt := 29) X.x X.b dX7_starts_6 (by decide) (fun c4 => ?_) (fun c4 => ?_)
  · have h := it_t c4 h
    exact r_vret X M h dX7_starts_29
  · have h := it_f c4 h
    refine lv_aload_n X.x X.b dX7_starts_9 rfl (lv_at hl 0 rfl) ?_
    refine r_get X M hq_66 (el_66 _ _) rfl inX7 15 (by decide) q743 rfl rfl dX7_starts_10 ?_
    refine lv_aload_n X.x X.b dX7_starts_13 rfl (lv_at hl 0 rfl) ?_
    refine r_get X M hq_66 (el_66 _ _) rfl inX7 14 (by decide) q742 rfl rfl dX7_starts_14 ?_
    refine lv_iload_n X.x X.b dX7_starts_17 rfl (lv_at hl 1 rfl) ?_
    obtain ⟨c1, h⟩ := it_n h
    obtain ⟨σ2, e2, h⟩ := ol_e h
    refine r_iast (q := 75) (n := 30) X M rfl c1 dX7_starts_18 (fun H locs M => ?_)
    rw [← e2] at M
    refine lv_aload_n X.x X.b dX7_starts_19 rfl (lv_at hl 0 rfl) ?_
    refine lv_dup X.x X.b dX7_starts_20 rfl ?_
    refine r_get X M hq_66 (el_66 _ _) rfl inX7 14 (by decide) q742 rfl rfl dX7_starts_21 ?_
    refine lv_iconst (v := 1) X.x X.b dX7_starts_24 (by decide) ?_
    refine lv_iadd X.x X.b dX7_starts_25 ?_
    obtain ⟨σ3, e3, h⟩ := ol_e h
    refine r_put (x := ((σ2 66 14) + 1)) (ty := .int) X M hq_66 (el_66 _ _) rfl inX7 tyX7_ok nmX7 14 (by decide) q742 rfl rfl rfl rfl rfl (Nat.le_of_ble_eq_true rfl) (pf_66_14 _ _ _) dX7_starts_26 (fun H locs M => ?_)
    rw [← e3] at M
    exact r_vret X M h dX7_starts_29
/-- StreetNumbersModel.mNow()I -/
def f_X7_mNow (σ : St) : Rs :=
  ob (f_X7_its (σ 66 16) 1 σ) fun r1 σ1 => (
  some (r1, σ1))
set_option maxRecDepth 100000 in
set_option maxHeartbeats 4000000 in
theorem T_X7_mNow {l : Launch} {Γ : Gm} {σ : St} {r : Int32} {σ' : St} (h : f_X7_mNow σ = some (r, σ')) : MetI l yX7_mNow cX7_mNow 1 .int 2 Γ σ [.ref (Γ.1 66)] r σ' := by
  intro sz
  refine met_in (by decide) (Nat.le_of_ble_eq_true rfl) (fun p e s m args below meth c ls X hsz M hl => ?_)
  subst hsz
  have X : Cx p s m args meth c cX7_mNow RX7 1 (some .int) Γ := X
  have hl : lv_has ls 1 [(0, .ref (Γ.1 66))] := hl
  unfold f_X7_mNow at h
  refine lv_aload_n X.x X.b dX7_mNow_0 rfl (lv_at hl 0 rfl) ?_
  refine lv_aload_n X.x X.b dX7_mNow_1 rfl (lv_at hl 0 rfl) ?_
  refine r_get X M hq_66 (el_66 _ _) rfl inX7 16 (by decide) q744 rfl rfl dX7_mNow_2 ?_
  refine lv_iconst (v := 1) X.x X.b dX7_mNow_5 (by decide) ?_
  obtain ⟨r1, σ1, h1, h⟩ := ob_e h
  refine r_runI M (r_callV (As := [.int (σ 66 16), .int 1]) X M (lv_sub hl [] rfl) (T_X7_its h1 _) cal_X7_its q874 ⟨by decide, by decide⟩ hq_66 (el_66 _ _) rfl rfl rfl (Nat.le_of_ble_eq_true rfl) ⟨Nat.le_refl _, Nat.le_refl _⟩ dX7_mNow_6) (fun H locs M => ?_)
  clear h1
  exact r_iret X M rfl h dX7_mNow_9
def GC_X7_ringsAs (l : Launch) (Γ : Gm) (d : Nat) (rec : Nat → Int32 → Int32 → St → Rs) : Prop := (∀ (x1 : Int32) (x2 : Int32) (σ : St) (r : Int32) (σ' : St), rec 0 x1 x2 σ = some (r, σ') → MetI l yX7_ringsAs cX7_ringsAs 3 .int d Γ σ [.ref (Γ.1 66), .int x1, .int x2] r σ')
/-- StreetNumbersModel.ringsAs(II)I -/
def f_X7_ringsAs (rec : Nat → Int32 → Int32 → St → Rs) (x1 : Int32) (x2 : Int32) (σ : St) : Rs :=
  if x1 = 0 then (
    ob (f_X7_starts 10 σ) fun _ σ2 => (
    some ((x2 + (σ2 66 16)), σ2))
  ) else (
  if x1 = 1 then (
    ob (f_X7_starts 20 σ) fun _ σ4 => (
    ob (f_X7_above 1 σ4) fun r5 σ5 => (
    ob (rec 0 r5 x2 σ5) fun r6 σ6 => (
    some ((r6 - 4), σ6))))
  ) else (
  if x1 = 2 then (
    ob (f_X7_above x1 σ) fun r8 σ8 => (
    ob (rec 0 r8 x2 σ8) fun r9 σ9 => (
    some (r9, σ9)))
  ) else (
  if x1 = 3 then (
    ob (f_X7_above x1 σ) fun r11 σ11 => (
    ob (rec 0 r11 x2 σ11) fun r12 σ12 => (
    some (r12, σ12)))
  ) else (
  if x1 = 4 then (
    ob (f_X7_starts 50 σ) fun _ σ14 => (
    ob (f_X7_above 4 σ14) fun r15 σ15 => (
    ob (rec 0 r15 x2 σ15) fun r16 σ16 => (
    some ((r16 * 3), σ16))))
  ) else (
  if x1 = 5 then (
    ob (f_X7_above x1 σ) fun r18 σ18 => (
    ob (rec 0 r18 x2 σ18) fun r19 σ19 => (
    some (r19, σ19)))
  ) else (
  if x1 = 6 then (
    ob (f_X7_starts 70 σ) fun _ σ21 => (
    some (9, σ21))
  ) else (
    ob (f_X7_above x1 σ) fun r22 σ22 => (
    ob (rec 0 r22 x2 σ22) fun r23 σ23 => (
    some (r23, σ23)))
  )))))))
set_option maxRecDepth 100000 in
set_option maxHeartbeats 4000000 in
theorem T_X7_ringsAs {l : Launch} {Γ : Gm} {d : Nat} {rec : Nat → Int32 → Int32 → St → Rs} (HR : GC_X7_ringsAs l Γ d rec) (hd : 2 ≤ d) {x1 : Int32} {x2 : Int32} {σ : St} {r : Int32} {σ' : St} (h : f_X7_ringsAs rec x1 x2 σ = some (r, σ')) : MetI l yX7_ringsAs cX7_ringsAs 3 .int (d + 1) Γ σ [.ref (Γ.1 66), .int x1, .int x2] r σ' := by
  intro sz
  refine met_in (by decide) (Nat.le_of_ble_eq_true rfl) (fun p e s m args below meth c ls X hsz M hl => ?_)
  subst hsz
  have X : Cx p s m args meth c cX7_ringsAs RX7 3 (some .int) Γ := X
  have hl : lv_has ls 3 [(0, .ref (Γ.1 66)), (1, .int x1), (2, .int x2)] := hl
  unfold f_X7_ringsAs at h
  refine lv_iload_n X.x X.b dX7_ringsAs_0 rfl (lv_at hl 1 rfl) ?_
  by_cases c1 : x1 = 0
  · have h := it_t c1 h
    refine lv_tableIn (tgt := 44) X.x X.b dX7_ringsAs_1 (by rw [c1]; decide) (by rw [c1]; decide) (by first | (rw [c1]; done) | (rw [c1]; rfl)) (by decide) ?_
    refine lv_aload_n X.x X.b dX7_ringsAs_44 rfl (lv_at hl 0 rfl) ?_
    refine lv_bipush (v := 10) X.x X.b dX7_ringsAs_45 (by decide) ?_
    obtain ⟨r2, σ2, h2, h⟩ := ob_e h
    refine r_runV M (r_callV (As := [.int 10]) X M (lv_sub hl [] rfl) (T_X7_starts h2 _) cal_X7_starts q1087 ⟨by show 1 + 1 ≤ d + 1; omega, by show 8 + (2 + 11) + 48 * 1 ≤ 48 * (d + 1); omega⟩ hq_66 (el_66 _ _) rfl rfl rfl (Nat.le_of_ble_eq_true rfl) ⟨Nat.le_refl _, Nat.le_refl _⟩ dX7_ringsAs_47) (fun H locs M => ?_)
    clear h2
    refine lv_iload_n X.x X.b dX7_ringsAs_50 rfl (lv_at hl 2 rfl) ?_
    refine lv_aload_n X.x X.b dX7_ringsAs_51 rfl (lv_at hl 0 rfl) ?_
    refine r_get X M hq_66 (el_66 _ _) rfl inX7 16 (by decide) q744 rfl rfl dX7_ringsAs_52 ?_
    refine lv_iadd X.x X.b dX7_ringsAs_55 ?_
    exact r_iret X M rfl h dX7_ringsAs_56
  have h := it_f c1 h
  by_cases c3 : x1 = 1
  · have h := it_t c3 h
    refine lv_tableIn (tgt := 57) X.x X.b dX7_ringsAs_1 (by rw [c3]; decide) (by rw [c3]; decide) (by first | (rw [c3]; done) | (rw [c3]; rfl)) (by decide) ?_
    refine lv_aload_n X.x X.b dX7_ringsAs_57 rfl (lv_at hl 0 rfl) ?_
    refine lv_bipush (v := 20) X.x X.b dX7_ringsAs_58 (by decide) ?_
    obtain ⟨r4, σ4, h4, h⟩ := ob_e h
    refine r_runV M (r_callV (As := [.int 20]) X M (lv_sub hl [] rfl) (T_X7_starts h4 _) cal_X7_starts q1087 ⟨by show 1 + 1 ≤ d + 1; omega, by show 8 + (2 + 11) + 48 * 1 ≤ 48 * (d + 1); omega⟩ hq_66 (el_66 _ _) rfl rfl rfl (Nat.le_of_ble_eq_true rfl) ⟨Nat.le_refl _, Nat.le_refl _⟩ dX7_ringsAs_60) (fun H locs M => ?_)
    clear h4
    refine lv_aload_n X.x X.b dX7_ringsAs_63 rfl (lv_at hl 0 rfl) ?_
    refine lv_iconst (v := 1) X.x X.b dX7_ringsAs_64 (by decide) ?_
    obtain ⟨r5, σ5, h5, h⟩ := ob_e h
    refine r_runI M (r_callS (As := [.int 1]) X M (lv_sub hl [] rfl) (T_X7_above h5 _) cal_X7_above q936 ⟨by show 1 + 1 ≤ d + 1; omega, by show 8 + (1 + 11) + 48 * 1 ≤ 48 * (d + 1); omega⟩ rfl rfl (Nat.le_of_ble_eq_true rfl) ⟨Nat.le_refl _, Nat.le_refl _⟩ dX7_ringsAs_65) (fun H locs M => ?_)
    clear h5
    refine lv_iload_n X.x X.b dX7_ringsAs_68 rfl (lv_at hl 2 rfl) ?_
    obtain ⟨r6, σ6, h6, h⟩ := ob_e h
    refine r_runI M (r_callV (As := [.int r5, .int x2]) X M (lv_sub hl [] rfl) (HR _ _ _ _ _ h6 _) cal_X7_ringsAs q1083 ⟨Nat.le_refl _, (by show 8 + (3 + 11) + 48 * d ≤ 48 * (d + 1); omega)⟩ hq_66 (el_66 _ _) rfl rfl rfl (Nat.le_of_ble_eq_true rfl) ⟨Nat.le_refl _, Nat.le_refl _⟩ dX7_ringsAs_69) (fun H locs M => ?_)
    clear h6
    refine lv_iconst (v := 4) X.x X.b dX7_ringsAs_72 (by decide) ?_
    refine lv_isub X.x X.b dX7_ringsAs_73 ?_
    exact r_iret X M rfl h dX7_ringsAs_74
  have h := it_f c3 h
  by_cases c7 : x1 = 2
  · have h := it_t c7 h
    refine lv_tableIn (tgt := 102) X.x X.b dX7_ringsAs_1 (by rw [c7]; decide) (by rw [c7]; decide) (by first | (rw [c7]; done) | (rw [c7]; rfl)) (by decide) ?_
    refine lv_aload_n X.x X.b dX7_ringsAs_102 rfl (lv_at hl 0 rfl) ?_
    refine lv_iload_n X.x X.b dX7_ringsAs_103 rfl (lv_at hl 1 rfl) ?_
    obtain ⟨r8, σ8, h8, h⟩ := ob_e h
    refine r_runI M (r_callS (As := [.int x1]) X M (lv_sub hl [] rfl) (T_X7_above h8 _) cal_X7_above q936 ⟨by show 1 + 1 ≤ d + 1; omega, by show 8 + (1 + 11) + 48 * 1 ≤ 48 * (d + 1); omega⟩ rfl rfl (Nat.le_of_ble_eq_true rfl) ⟨Nat.le_refl _, Nat.le_refl _⟩ dX7_ringsAs_104) (fun H locs M => ?_)
    clear h8
    refine lv_iload_n X.x X.b dX7_ringsAs_107 rfl (lv_at hl 2 rfl) ?_
    obtain ⟨r9, σ9, h9, h⟩ := ob_e h
    refine r_runI M (r_callV (As := [.int r8, .int x2]) X M (lv_sub hl [] rfl) (HR _ _ _ _ _ h9 _) cal_X7_ringsAs q1083 ⟨Nat.le_refl _, (by show 8 + (3 + 11) + 48 * d ≤ 48 * (d + 1); omega)⟩ hq_66 (el_66 _ _) rfl rfl rfl (Nat.le_of_ble_eq_true rfl) ⟨Nat.le_refl _, Nat.le_refl _⟩ dX7_ringsAs_108) (fun H locs M => ?_)
    clear h9
    exact r_iret X M rfl h dX7_ringsAs_111
  have h := it_f c7 h
  by_cases c10 : x1 = 3
  · have h := it_t c10 h
    refine lv_tableIn (tgt := 102) X.x X.b dX7_ringsAs_1 (by rw [c10]; decide) (by rw [c10]; decide) (by first | (rw [c10]; done) | (rw [c10]; rfl)) (by decide) ?_
    refine lv_aload_n X.x X.b dX7_ringsAs_102 rfl (lv_at hl 0 rfl) ?_
    refine lv_iload_n X.x X.b dX7_ringsAs_103 rfl (lv_at hl 1 rfl) ?_
    obtain ⟨r11, σ11, h11, h⟩ := ob_e h
    refine r_runI M (r_callS (As := [.int x1]) X M (lv_sub hl [] rfl) (T_X7_above h11 _) cal_X7_above q936 ⟨by show 1 + 1 ≤ d + 1; omega, by show 8 + (1 + 11) + 48 * 1 ≤ 48 * (d + 1); omega⟩ rfl rfl (Nat.le_of_ble_eq_true rfl) ⟨Nat.le_refl _, Nat.le_refl _⟩ dX7_ringsAs_104) (fun H locs M => ?_)
    clear h11
    refine lv_iload_n X.x X.b dX7_ringsAs_107 rfl (lv_at hl 2 rfl) ?_
    obtain ⟨r12, σ12, h12, h⟩ := ob_e h
    refine r_runI M (r_callV (As := [.int r11, .int x2]) X M (lv_sub hl [] rfl) (HR _ _ _ _ _ h12 _) cal_X7_ringsAs q1083 ⟨Nat.le_refl _, (by show 8 + (3 + 11) + 48 * d ≤ 48 * (d + 1); omega)⟩ hq_66 (el_66 _ _) rfl rfl rfl (Nat.le_of_ble_eq_true rfl) ⟨Nat.le_refl _, Nat.le_refl _⟩ dX7_ringsAs_108) (fun H locs M => ?_)
    clear h12
    exact r_iret X M rfl h dX7_ringsAs_111
  have h := it_f c10 h
  by_cases c13 : x1 = 4
  · have h := it_t c13 h
    refine lv_tableIn (tgt := 75) X.x X.b dX7_ringsAs_1 (by rw [c13]; decide) (by rw [c13]; decide) (by first | (rw [c13]; done) | (rw [c13]; rfl)) (by decide) ?_
    refine lv_aload_n X.x X.b dX7_ringsAs_75 rfl (lv_at hl 0 rfl) ?_
    refine lv_bipush (v := 50) X.x X.b dX7_ringsAs_76 (by decide) ?_
    obtain ⟨r14, σ14, h14, h⟩ := ob_e h
    refine r_runV M (r_callV (As := [.int 50]) X M (lv_sub hl [] rfl) (T_X7_starts h14 _) cal_X7_starts q1087 ⟨by show 1 + 1 ≤ d + 1; omega, by show 8 + (2 + 11) + 48 * 1 ≤ 48 * (d + 1); omega⟩ hq_66 (el_66 _ _) rfl rfl rfl (Nat.le_of_ble_eq_true rfl) ⟨Nat.le_refl _, Nat.le_refl _⟩ dX7_ringsAs_78) (fun H locs M => ?_)
    clear h14
    refine lv_aload_n X.x X.b dX7_ringsAs_81 rfl (lv_at hl 0 rfl) ?_
    refine lv_iconst (v := 4) X.x X.b dX7_ringsAs_82 (by decide) ?_
    obtain ⟨r15, σ15, h15, h⟩ := ob_e h
    refine r_runI M (r_callS (As := [.int 4]) X M (lv_sub hl [] rfl) (T_X7_above h15 _) cal_X7_above q936 ⟨by show 1 + 1 ≤ d + 1; omega, by show 8 + (1 + 11) + 48 * 1 ≤ 48 * (d + 1); omega⟩ rfl rfl (Nat.le_of_ble_eq_true rfl) ⟨Nat.le_refl _, Nat.le_refl _⟩ dX7_ringsAs_83) (fun H locs M => ?_)
    clear h15
    refine lv_iload_n X.x X.b dX7_ringsAs_86 rfl (lv_at hl 2 rfl) ?_
    obtain ⟨r16, σ16, h16, h⟩ := ob_e h
    refine r_runI M (r_callV (As := [.int r15, .int x2]) X M (lv_sub hl [] rfl) (HR _ _ _ _ _ h16 _) cal_X7_ringsAs q1083 ⟨Nat.le_refl _, (by show 8 + (3 + 11) + 48 * d ≤ 48 * (d + 1); omega)⟩ hq_66 (el_66 _ _) rfl rfl rfl (Nat.le_of_ble_eq_true rfl) ⟨Nat.le_refl _, Nat.le_refl _⟩ dX7_ringsAs_87) (fun H locs M => ?_)
    clear h16
    refine lv_iconst (v := 3) X.x X.b dX7_ringsAs_90 (by decide) ?_
    refine lv_imul X.x X.b dX7_ringsAs_91 ?_
    exact r_iret X M rfl h dX7_ringsAs_92
  have h := it_f c13 h
  by_cases c17 : x1 = 5
  · have h := it_t c17 h
    refine lv_tableIn (tgt := 102) X.x X.b dX7_ringsAs_1 (by rw [c17]; decide) (by rw [c17]; decide) (by first | (rw [c17]; done) | (rw [c17]; rfl)) (by decide) ?_
    refine lv_aload_n X.x X.b dX7_ringsAs_102 rfl (lv_at hl 0 rfl) ?_
    refine lv_iload_n X.x X.b dX7_ringsAs_103 rfl (lv_at hl 1 rfl) ?_
    obtain ⟨r18, σ18, h18, h⟩ := ob_e h
    refine r_runI M (r_callS (As := [.int x1]) X M (lv_sub hl [] rfl) (T_X7_above h18 _) cal_X7_above q936 ⟨by show 1 + 1 ≤ d + 1; omega, by show 8 + (1 + 11) + 48 * 1 ≤ 48 * (d + 1); omega⟩ rfl rfl (Nat.le_of_ble_eq_true rfl) ⟨Nat.le_refl _, Nat.le_refl _⟩ dX7_ringsAs_104) (fun H locs M => ?_)
    clear h18
    refine lv_iload_n X.x X.b dX7_ringsAs_107 rfl (lv_at hl 2 rfl) ?_
    obtain ⟨r19, σ19, h19, h⟩ := ob_e h
    refine r_runI M (r_callV (As := [.int r18, .int x2]) X M (lv_sub hl [] rfl) (HR _ _ _ _ _ h19 _) cal_X7_ringsAs q1083 ⟨Nat.le_refl _, (by show 8 + (3 + 11) + 48 * d ≤ 48 * (d + 1); omega)⟩ hq_66 (el_66 _ _) rfl rfl rfl (Nat.le_of_ble_eq_true rfl) ⟨Nat.le_refl _, Nat.le_refl _⟩ dX7_ringsAs_108) (fun H locs M => ?_)
    clear h19
    exact r_iret X M rfl h dX7_ringsAs_111
  have h := it_f c17 h
  by_cases c20 : x1 = 6
  · have h := it_t c20 h
    refine lv_tableIn (tgt := 93) X.x X.b dX7_ringsAs_1 (by rw [c20]; decide) (by rw [c20]; decide) (by first | (rw [c20]; done) | (rw [c20]; rfl)) (by decide) ?_
    refine lv_aload_n X.x X.b dX7_ringsAs_93 rfl (lv_at hl 0 rfl) ?_
    refine lv_bipush (v := 70) X.x X.b dX7_ringsAs_94 (by decide) ?_
    obtain ⟨r21, σ21, h21, h⟩ := ob_e h
    refine r_runV M (r_callV (As := [.int 70]) X M (lv_sub hl [] rfl) (T_X7_starts h21 _) cal_X7_starts q1087 ⟨by show 1 + 1 ≤ d + 1; omega, by show 8 + (2 + 11) + 48 * 1 ≤ 48 * (d + 1); omega⟩ hq_66 (el_66 _ _) rfl rfl rfl (Nat.le_of_ble_eq_true rfl) ⟨Nat.le_refl _, Nat.le_refl _⟩ dX7_ringsAs_96) (fun H locs M => ?_)
    clear h21
    refine lv_bipush (v := 9) X.x X.b dX7_ringsAs_99 (by decide) ?_
    exact r_iret X M rfl h dX7_ringsAs_101
  have h := it_f c20 h
  have c1z := lv_neT c1 (show (0 : Int32).toInt = 0 by decide)
  have c3z := lv_neT c3 (show (1 : Int32).toInt = 1 by decide)
  have c7z := lv_neT c7 (show (2 : Int32).toInt = 2 by decide)
  have c10z := lv_neT c10 (show (3 : Int32).toInt = 3 by decide)
  have c13z := lv_neT c13 (show (4 : Int32).toInt = 4 by decide)
  have c17z := lv_neT c17 (show (5 : Int32).toInt = 5 by decide)
  have c20z := lv_neT c20 (show (6 : Int32).toInt = 6 by decide)
  refine lv_tableOut (tgt := 102) X.x X.b dX7_ringsAs_1 (by omega) (by decide) ?_
  refine lv_aload_n X.x X.b dX7_ringsAs_102 rfl (lv_at hl 0 rfl) ?_
  refine lv_iload_n X.x X.b dX7_ringsAs_103 rfl (lv_at hl 1 rfl) ?_
  obtain ⟨r22, σ22, h22, h⟩ := ob_e h
  refine r_runI M (r_callS (As := [.int x1]) X M (lv_sub hl [] rfl) (T_X7_above h22 _) cal_X7_above q936 ⟨by show 1 + 1 ≤ d + 1; omega, by show 8 + (1 + 11) + 48 * 1 ≤ 48 * (d + 1); omega⟩ rfl rfl (Nat.le_of_ble_eq_true rfl) ⟨Nat.le_refl _, Nat.le_refl _⟩ dX7_ringsAs_104) (fun H locs M => ?_)
  clear h22
  refine lv_iload_n X.x X.b dX7_ringsAs_107 rfl (lv_at hl 2 rfl) ?_
  obtain ⟨r23, σ23, h23, h⟩ := ob_e h
  refine r_runI M (r_callV (As := [.int r22, .int x2]) X M (lv_sub hl [] rfl) (HR _ _ _ _ _ h23 _) cal_X7_ringsAs q1083 ⟨Nat.le_refl _, (by show 8 + (3 + 11) + 48 * d ≤ 48 * (d + 1); omega)⟩ hq_66 (el_66 _ _) rfl rfl rfl (Nat.le_of_ble_eq_true rfl) ⟨Nat.le_refl _, Nat.le_refl _⟩ dX7_ringsAs_108) (fun H locs M => ?_)
  clear h23
  exact r_iret X M rfl h dX7_ringsAs_111
def g_X7_ringsAs : Nat → Nat → Int32 → Int32 → St → Rs
  | 0 => fun _ _ _ _ => none
  | n + 1 => fun t a b σ => if t = 0 then f_X7_ringsAs (g_X7_ringsAs n) a b σ else none
theorem TG_X7_ringsAs {l : Launch} {Γ : Gm} : ∀ n : Nat, GC_X7_ringsAs l Γ (2 + n) (g_X7_ringsAs n) := by
  intro n
  induction n with
  | zero => exact fun _ _ _ _ _ h => (by cases h)
  | succ n ih =>
    exact fun _ _ _ _ _ h => T_X7_ringsAs (l := l) (Γ := Γ) ih (by omega) h
def GC_X7_answersAs (l : Launch) (Γ : Gm) (d : Nat) (rec : Nat → Int32 → Int32 → St → Rs) : Prop := (∀ (x1 : Int32) (x2 : Int32) (σ : St) (r : Int32) (σ' : St), rec 0 x1 x2 σ = some (r, σ') → MetI l yX7_answersAs cX7_answersAs 3 .int d Γ σ [.ref (Γ.1 66), .int x1, .int x2] r σ')
/-- StreetNumbersModel.answersAs(II)I -/
def f_X7_answersAs (rec : Nat → Int32 → Int32 → St → Rs) (x1 : Int32) (x2 : Int32) (σ : St) : Rs :=
  if x1 = 0 then (
    ob (f_X7_starts 11 σ) fun _ σ2 => (
    ob (f_X7_kindNow σ2) fun r3 σ3 => (
    ob (g_X7_ringsAs 100 0 r3 x2 σ3) fun r4 σ4 => (
    some ((r4 * 2), σ4))))
  ) else (
  if x1 = 1 then (
    ob (f_X7_above x1 σ) fun r6 σ6 => (
    ob (rec 0 r6 x2 σ6) fun r7 σ7 => (
    some (r7, σ7)))
  ) else (
  if x1 = 2 then (
    ob (f_X7_starts 30 σ) fun _ σ9 => (
    ob (f_X7_above 2 σ9) fun r10 σ10 => (
    ob (rec 0 r10 x2 σ10) fun r11 σ11 => (
    some ((0 - r11), σ11))))
  ) else (
  if x1 = 3 then (
    ob (f_X7_above x1 σ) fun r13 σ13 => (
    ob (rec 0 r13 x2 σ13) fun r14 σ14 => (
    some (r14, σ14)))
  ) else (
  if x1 = 4 then (
    ob (f_X7_above x1 σ) fun r16 σ16 => (
    ob (rec 0 r16 x2 σ16) fun r17 σ17 => (
    some (r17, σ17)))
  ) else (
  if x1 = 5 then (
    ob (f_X7_starts 60 σ) fun _ σ19 => (
    ob (f_X7_above 5 σ19) fun r20 σ20 => (
    ob (rec 0 r20 (x2 + 1) σ20) fun r21 σ21 => (
    some (r21, σ21))))
  ) else (
  if x1 = 6 then (
    ob (f_X7_starts 71 σ) fun _ σ23 => (
    ob (f_X7_above 6 σ23) fun r24 σ24 => (
    ob (rec 0 r24 x2 σ24) fun r25 σ25 => (
    ob (f_X7_mNow σ25) fun r26 σ26 => (
    some ((r25 + r26), σ26)))))
  ) else (
    ob (f_X7_above x1 σ) fun r27 σ27 => (
    ob (rec 0 r27 x2 σ27) fun r28 σ28 => (
    some (r28, σ28)))
  )))))))
set_option maxRecDepth 100000 in
set_option maxHeartbeats 4000000 in
theorem T_X7_answersAs {l : Launch} {Γ : Gm} {d : Nat} {rec : Nat → Int32 → Int32 → St → Rs} (HR : GC_X7_answersAs l Γ d rec) (hd : 103 ≤ d) {x1 : Int32} {x2 : Int32} {σ : St} {r : Int32} {σ' : St} (h : f_X7_answersAs rec x1 x2 σ = some (r, σ')) : MetI l yX7_answersAs cX7_answersAs 3 .int (d + 1) Γ σ [.ref (Γ.1 66), .int x1, .int x2] r σ' := by
  intro sz
  refine met_in (by decide) (Nat.le_of_ble_eq_true rfl) (fun p e s m args below meth c ls X hsz M hl => ?_)
  subst hsz
  have X : Cx p s m args meth c cX7_answersAs RX7 3 (some .int) Γ := X
  have hl : lv_has ls 3 [(0, .ref (Γ.1 66)), (1, .int x1), (2, .int x2)] := hl
  unfold f_X7_answersAs at h
  refine lv_iload_n X.x X.b dX7_answersAs_0 rfl (lv_at hl 1 rfl) ?_
  by_cases c1 : x1 = 0
  · have h := it_t c1 h
    refine lv_tableIn (tgt := 44) X.x X.b dX7_answersAs_1 (by rw [c1]; decide) (by rw [c1]; decide) (by first | (rw [c1]; done) | (rw [c1]; rfl)) (by decide) ?_
    refine lv_aload_n X.x X.b dX7_answersAs_44 rfl (lv_at hl 0 rfl) ?_
    refine lv_bipush (v := 11) X.x X.b dX7_answersAs_45 (by decide) ?_
    obtain ⟨r2, σ2, h2, h⟩ := ob_e h
    refine r_runV M (r_callV (As := [.int 11]) X M (lv_sub hl [] rfl) (T_X7_starts h2 _) cal_X7_starts q1087 ⟨by show 1 + 1 ≤ d + 1; omega, by show 8 + (2 + 11) + 48 * 1 ≤ 48 * (d + 1); omega⟩ hq_66 (el_66 _ _) rfl rfl rfl (Nat.le_of_ble_eq_true rfl) ⟨Nat.le_refl _, Nat.le_refl _⟩ dX7_answersAs_47) (fun H locs M => ?_)
    clear h2
    refine lv_aload_n X.x X.b dX7_answersAs_50 rfl (lv_at hl 0 rfl) ?_
    refine lv_aload_n X.x X.b dX7_answersAs_51 rfl (lv_at hl 0 rfl) ?_
    obtain ⟨r3, σ3, h3, h⟩ := ob_e h
    refine r_runI M (r_callV (As := []) X M (lv_sub hl [] rfl) (T_X7_kindNow h3 _) cal_X7_kindNow q1079 ⟨by show 2 + 1 ≤ d + 1; omega, by show 8 + (1 + 11) + 48 * 2 ≤ 48 * (d + 1); omega⟩ hq_66 (el_66 _ _) rfl rfl rfl (Nat.le_of_ble_eq_true rfl) ⟨Nat.le_refl _, Nat.le_refl _⟩ dX7_answersAs_52) (fun H locs M => ?_)
    clear h3
    refine lv_iload_n X.x X.b dX7_answersAs_55 rfl (lv_at hl 2 rfl) ?_
    obtain ⟨r4, σ4, h4, h⟩ := ob_e h
    refine r_runI M (r_callV (As := [.int r3, .int x2]) X M (lv_sub hl [] rfl) ((TG_X7_ringsAs 100) _ _ _ _ _ h4 _) cal_X7_ringsAs q1083 ⟨by show 102 + 1 ≤ d + 1; omega, by show 8 + (3 + 11) + 48 * 102 ≤ 48 * (d + 1); omega⟩ hq_66 (el_66 _ _) rfl rfl rfl (Nat.le_of_ble_eq_true rfl) ⟨Nat.le_refl _, Nat.le_refl _⟩ dX7_answersAs_56) (fun H locs M => ?_)
    clear h4
    refine lv_iconst (v := 2) X.x X.b dX7_answersAs_59 (by decide) ?_
    refine lv_imul X.x X.b dX7_answersAs_60 ?_
    exact r_iret X M rfl h dX7_answersAs_61
  have h := it_f c1 h
  by_cases c5 : x1 = 1
  · have h := it_t c5 h
    refine lv_tableIn (tgt := 120) X.x X.b dX7_answersAs_1 (by rw [c5]; decide) (by rw [c5]; decide) (by first | (rw [c5]; done) | (rw [c5]; rfl)) (by decide) ?_
    refine lv_aload_n X.x X.b dX7_answersAs_120 rfl (lv_at hl 0 rfl) ?_
    refine lv_iload_n X.x X.b dX7_answersAs_121 rfl (lv_at hl 1 rfl) ?_
    obtain ⟨r6, σ6, h6, h⟩ := ob_e h
    refine r_runI M (r_callS (As := [.int x1]) X M (lv_sub hl [] rfl) (T_X7_above h6 _) cal_X7_above q936 ⟨by show 1 + 1 ≤ d + 1; omega, by show 8 + (1 + 11) + 48 * 1 ≤ 48 * (d + 1); omega⟩ rfl rfl (Nat.le_of_ble_eq_true rfl) ⟨Nat.le_refl _, Nat.le_refl _⟩ dX7_answersAs_122) (fun H locs M => ?_)
    clear h6
    refine lv_iload_n X.x X.b dX7_answersAs_125 rfl (lv_at hl 2 rfl) ?_
    obtain ⟨r7, σ7, h7, h⟩ := ob_e h
    refine r_runI M (r_callV (As := [.int r6, .int x2]) X M (lv_sub hl [] rfl) (HR _ _ _ _ _ h7 _) cal_X7_answersAs q1091 ⟨Nat.le_refl _, (by show 8 + (3 + 11) + 48 * d ≤ 48 * (d + 1); omega)⟩ hq_66 (el_66 _ _) rfl rfl rfl (Nat.le_of_ble_eq_true rfl) ⟨Nat.le_refl _, Nat.le_refl _⟩ dX7_answersAs_126) (fun H locs M => ?_)
    clear h7
    exact r_iret X M rfl h dX7_answersAs_129
  have h := it_f c5 h
  by_cases c8 : x1 = 2
  · have h := it_t c8 h
    refine lv_tableIn (tgt := 62) X.x X.b dX7_answersAs_1 (by rw [c8]; decide) (by rw [c8]; decide) (by first | (rw [c8]; done) | (rw [c8]; rfl)) (by decide) ?_
    refine lv_aload_n X.x X.b dX7_answersAs_62 rfl (lv_at hl 0 rfl) ?_
    refine lv_bipush (v := 30) X.x X.b dX7_answersAs_63 (by decide) ?_
    obtain ⟨r9, σ9, h9, h⟩ := ob_e h
    refine r_runV M (r_callV (As := [.int 30]) X M (lv_sub hl [] rfl) (T_X7_starts h9 _) cal_X7_starts q1087 ⟨by show 1 + 1 ≤ d + 1; omega, by show 8 + (2 + 11) + 48 * 1 ≤ 48 * (d + 1); omega⟩ hq_66 (el_66 _ _) rfl rfl rfl (Nat.le_of_ble_eq_true rfl) ⟨Nat.le_refl _, Nat.le_refl _⟩ dX7_answersAs_65) (fun H locs M => ?_)
    clear h9
    refine lv_iconst (v := 0) X.x X.b dX7_answersAs_68 (by decide) ?_
    refine lv_aload_n X.x X.b dX7_answersAs_69 rfl (lv_at hl 0 rfl) ?_
    refine lv_iconst (v := 2) X.x X.b dX7_answersAs_70 (by decide) ?_
    obtain ⟨r10, σ10, h10, h⟩ := ob_e h
    refine r_runI M (r_callS (As := [.int 2]) X M (lv_sub hl [] rfl) (T_X7_above h10 _) cal_X7_above q936 ⟨by show 1 + 1 ≤ d + 1; omega, by show 8 + (1 + 11) + 48 * 1 ≤ 48 * (d + 1); omega⟩ rfl rfl (Nat.le_of_ble_eq_true rfl) ⟨Nat.le_refl _, Nat.le_refl _⟩ dX7_answersAs_71) (fun H locs M => ?_)
    clear h10
    refine lv_iload_n X.x X.b dX7_answersAs_74 rfl (lv_at hl 2 rfl) ?_
    obtain ⟨r11, σ11, h11, h⟩ := ob_e h
    refine r_runI M (r_callV (As := [.int r10, .int x2]) X M (lv_sub hl [] rfl) (HR _ _ _ _ _ h11 _) cal_X7_answersAs q1091 ⟨Nat.le_refl _, (by show 8 + (3 + 11) + 48 * d ≤ 48 * (d + 1); omega)⟩ hq_66 (el_66 _ _) rfl rfl rfl (Nat.le_of_ble_eq_true rfl) ⟨Nat.le_refl _, Nat.le_refl _⟩ dX7_answersAs_75) (fun H locs M => ?_)
    clear h11
    refine lv_isub X.x X.b dX7_answersAs_78 ?_
    exact r_iret X M rfl h dX7_answersAs_79
  have h := it_f c8 h
  by_cases c12 : x1 = 3
  · have h := it_t c12 h
    refine lv_tableIn (tgt := 120) X.x X.b dX7_answersAs_1 (by rw [c12]; decide) (by rw [c12]; decide) (by first | (rw [c12]; done) | (rw [c12]; rfl)) (by decide) ?_
    refine lv_aload_n X.x X.b dX7_answersAs_120 rfl (lv_at hl 0 rfl) ?_
    refine lv_iload_n X.x X.b dX7_answersAs_121 rfl (lv_at hl 1 rfl) ?_
    obtain ⟨r13, σ13, h13, h⟩ := ob_e h
    refine r_runI M (r_callS (As := [.int x1]) X M (lv_sub hl [] rfl) (T_X7_above h13 _) cal_X7_above q936 ⟨by show 1 + 1 ≤ d + 1; omega, by show 8 + (1 + 11) + 48 * 1 ≤ 48 * (d + 1); omega⟩ rfl rfl (Nat.le_of_ble_eq_true rfl) ⟨Nat.le_refl _, Nat.le_refl _⟩ dX7_answersAs_122) (fun H locs M => ?_)
    clear h13
    refine lv_iload_n X.x X.b dX7_answersAs_125 rfl (lv_at hl 2 rfl) ?_
    obtain ⟨r14, σ14, h14, h⟩ := ob_e h
    refine r_runI M (r_callV (As := [.int r13, .int x2]) X M (lv_sub hl [] rfl) (HR _ _ _ _ _ h14 _) cal_X7_answersAs q1091 ⟨Nat.le_refl _, (by show 8 + (3 + 11) + 48 * d ≤ 48 * (d + 1); omega)⟩ hq_66 (el_66 _ _) rfl rfl rfl (Nat.le_of_ble_eq_true rfl) ⟨Nat.le_refl _, Nat.le_refl _⟩ dX7_answersAs_126) (fun H locs M => ?_)
    clear h14
    exact r_iret X M rfl h dX7_answersAs_129
  have h := it_f c12 h
  by_cases c15 : x1 = 4
  · have h := it_t c15 h
    refine lv_tableIn (tgt := 120) X.x X.b dX7_answersAs_1 (by rw [c15]; decide) (by rw [c15]; decide) (by first | (rw [c15]; done) | (rw [c15]; rfl)) (by decide) ?_
    refine lv_aload_n X.x X.b dX7_answersAs_120 rfl (lv_at hl 0 rfl) ?_
    refine lv_iload_n X.x X.b dX7_answersAs_121 rfl (lv_at hl 1 rfl) ?_
    obtain ⟨r16, σ16, h16, h⟩ := ob_e h
    refine r_runI M (r_callS (As := [.int x1]) X M (lv_sub hl [] rfl) (T_X7_above h16 _) cal_X7_above q936 ⟨by show 1 + 1 ≤ d + 1; omega, by show 8 + (1 + 11) + 48 * 1 ≤ 48 * (d + 1); omega⟩ rfl rfl (Nat.le_of_ble_eq_true rfl) ⟨Nat.le_refl _, Nat.le_refl _⟩ dX7_answersAs_122) (fun H locs M => ?_)
    clear h16
    refine lv_iload_n X.x X.b dX7_answersAs_125 rfl (lv_at hl 2 rfl) ?_
    obtain ⟨r17, σ17, h17, h⟩ := ob_e h
    refine r_runI M (r_callV (As := [.int r16, .int x2]) X M (lv_sub hl [] rfl) (HR _ _ _ _ _ h17 _) cal_X7_answersAs q1091 ⟨Nat.le_refl _, (by show 8 + (3 + 11) + 48 * d ≤ 48 * (d + 1); omega)⟩ hq_66 (el_66 _ _) rfl rfl rfl (Nat.le_of_ble_eq_true rfl) ⟨Nat.le_refl _, Nat.le_refl _⟩ dX7_answersAs_126) (fun H locs M => ?_)
    clear h17
    exact r_iret X M rfl h dX7_answersAs_129
  have h := it_f c15 h
  by_cases c18 : x1 = 5
  · have h := it_t c18 h
    refine lv_tableIn (tgt := 80) X.x X.b dX7_answersAs_1 (by rw [c18]; decide) (by rw [c18]; decide) (by first | (rw [c18]; done) | (rw [c18]; rfl)) (by decide) ?_
    refine lv_aload_n X.x X.b dX7_answersAs_80 rfl (lv_at hl 0 rfl) ?_
    refine lv_bipush (v := 60) X.x X.b dX7_answersAs_81 (by decide) ?_
    obtain ⟨r19, σ19, h19, h⟩ := ob_e h
    refine r_runV M (r_callV (As := [.int 60]) X M (lv_sub hl [] rfl) (T_X7_starts h19 _) cal_X7_starts q1087 ⟨by show 1 + 1 ≤ d + 1; omega, by show 8 + (2 + 11) + 48 * 1 ≤ 48 * (d + 1); omega⟩ hq_66 (el_66 _ _) rfl rfl rfl (Nat.le_of_ble_eq_true rfl) ⟨Nat.le_refl _, Nat.le_refl _⟩ dX7_answersAs_83) (fun H locs M => ?_)
    clear h19
    refine lv_aload_n X.x X.b dX7_answersAs_86 rfl (lv_at hl 0 rfl) ?_
    refine lv_iconst (v := 5) X.x X.b dX7_answersAs_87 (by decide) ?_
    obtain ⟨r20, σ20, h20, h⟩ := ob_e h
    refine r_runI M (r_callS (As := [.int 5]) X M (lv_sub hl [] rfl) (T_X7_above h20 _) cal_X7_above q936 ⟨by show 1 + 1 ≤ d + 1; omega, by show 8 + (1 + 11) + 48 * 1 ≤ 48 * (d + 1); omega⟩ rfl rfl (Nat.le_of_ble_eq_true rfl) ⟨Nat.le_refl _, Nat.le_refl _⟩ dX7_answersAs_88) (fun H locs M => ?_)
    clear h20
    refine lv_iload_n X.x X.b dX7_answersAs_91 rfl (lv_at hl 2 rfl) ?_
    refine lv_iconst (v := 1) X.x X.b dX7_answersAs_92 (by decide) ?_
    refine lv_iadd X.x X.b dX7_answersAs_93 ?_
    obtain ⟨r21, σ21, h21, h⟩ := ob_e h
    refine r_runI M (r_callV (As := [.int r20, .int (x2 + 1)]) X M (lv_sub hl [] rfl) (HR _ _ _ _ _ h21 _) cal_X7_answersAs q1091 ⟨Nat.le_refl _, (by show 8 + (3 + 11) + 48 * d ≤ 48 * (d + 1); omega)⟩ hq_66 (el_66 _ _) rfl rfl rfl (Nat.le_of_ble_eq_true rfl) ⟨Nat.le_refl _, Nat.le_refl _⟩ dX7_answersAs_94) (fun H locs M => ?_)
    clear h21
    exact r_iret X M rfl h dX7_answersAs_97
  have h := it_f c18 h
  by_cases c22 : x1 = 6
  · have h := it_t c22 h
    refine lv_tableIn (tgt := 98) X.x X.b dX7_answersAs_1 (by rw [c22]; decide) (by rw [c22]; decide) (by first | (rw [c22]; done) | (rw [c22]; rfl)) (by decide) ?_
    refine lv_aload_n X.x X.b dX7_answersAs_98 rfl (lv_at hl 0 rfl) ?_
    refine lv_bipush (v := 71) X.x X.b dX7_answersAs_99 (by decide) ?_
    obtain ⟨r23, σ23, h23, h⟩ := ob_e h
    refine r_runV M (r_callV (As := [.int 71]) X M (lv_sub hl [] rfl) (T_X7_starts h23 _) cal_X7_starts q1087 ⟨by show 1 + 1 ≤ d + 1; omega, by show 8 + (2 + 11) + 48 * 1 ≤ 48 * (d + 1); omega⟩ hq_66 (el_66 _ _) rfl rfl rfl (Nat.le_of_ble_eq_true rfl) ⟨Nat.le_refl _, Nat.le_refl _⟩ dX7_answersAs_101) (fun H locs M => ?_)
    clear h23
    refine lv_aload_n X.x X.b dX7_answersAs_104 rfl (lv_at hl 0 rfl) ?_
    refine lv_bipush (v := 6) X.x X.b dX7_answersAs_105 (by decide) ?_
    obtain ⟨r24, σ24, h24, h⟩ := ob_e h
    refine r_runI M (r_callS (As := [.int 6]) X M (lv_sub hl [] rfl) (T_X7_above h24 _) cal_X7_above q936 ⟨by show 1 + 1 ≤ d + 1; omega, by show 8 + (1 + 11) + 48 * 1 ≤ 48 * (d + 1); omega⟩ rfl rfl (Nat.le_of_ble_eq_true rfl) ⟨Nat.le_refl _, Nat.le_refl _⟩ dX7_answersAs_107) (fun H locs M => ?_)
    clear h24
    refine lv_iload_n X.x X.b dX7_answersAs_110 rfl (lv_at hl 2 rfl) ?_
    obtain ⟨r25, σ25, h25, h⟩ := ob_e h
    refine r_runI M (r_callV (As := [.int r24, .int x2]) X M (lv_sub hl [] rfl) (HR _ _ _ _ _ h25 _) cal_X7_answersAs q1091 ⟨Nat.le_refl _, (by show 8 + (3 + 11) + 48 * d ≤ 48 * (d + 1); omega)⟩ hq_66 (el_66 _ _) rfl rfl rfl (Nat.le_of_ble_eq_true rfl) ⟨Nat.le_refl _, Nat.le_refl _⟩ dX7_answersAs_111) (fun H locs M => ?_)
    clear h25
    refine lv_aload_n X.x X.b dX7_answersAs_114 rfl (lv_at hl 0 rfl) ?_
    obtain ⟨r26, σ26, h26, h⟩ := ob_e h
    refine r_runI M (r_callV (As := []) X M (lv_sub hl [] rfl) (T_X7_mNow h26 _) cal_X7_mNow q1095 ⟨by show 2 + 1 ≤ d + 1; omega, by show 8 + (1 + 11) + 48 * 2 ≤ 48 * (d + 1); omega⟩ hq_66 (el_66 _ _) rfl rfl rfl (Nat.le_of_ble_eq_true rfl) ⟨Nat.le_refl _, Nat.le_refl _⟩ dX7_answersAs_115) (fun H locs M => ?_)
    clear h26
    refine lv_iadd X.x X.b dX7_answersAs_118 ?_
    exact r_iret X M rfl h dX7_answersAs_119
  have h := it_f c22 h
  have c1z := lv_neT c1 (show (0 : Int32).toInt = 0 by decide)
  have c5z := lv_neT c5 (show (1 : Int32).toInt = 1 by decide)
  have c8z := lv_neT c8 (show (2 : Int32).toInt = 2 by decide)
  have c12z := lv_neT c12 (show (3 : Int32).toInt = 3 by decide)
  have c15z := lv_neT c15 (show (4 : Int32).toInt = 4 by decide)
  have c18z := lv_neT c18 (show (5 : Int32).toInt = 5 by decide)
  have c22z := lv_neT c22 (show (6 : Int32).toInt = 6 by decide)
  refine lv_tableOut (tgt := 120) X.x X.b dX7_answersAs_1 (by omega) (by decide) ?_
  refine lv_aload_n X.x X.b dX7_answersAs_120 rfl (lv_at hl 0 rfl) ?_
  refine lv_iload_n X.x X.b dX7_answersAs_121 rfl (lv_at hl 1 rfl) ?_
  obtain ⟨r27, σ27, h27, h⟩ := ob_e h
  refine r_runI M (r_callS (As := [.int x1]) X M (lv_sub hl [] rfl) (T_X7_above h27 _) cal_X7_above q936 ⟨by show 1 + 1 ≤ d + 1; omega, by show 8 + (1 + 11) + 48 * 1 ≤ 48 * (d + 1); omega⟩ rfl rfl (Nat.le_of_ble_eq_true rfl) ⟨Nat.le_refl _, Nat.le_refl _⟩ dX7_answersAs_122) (fun H locs M => ?_)
  clear h27
  refine lv_iload_n X.x X.b dX7_answersAs_125 rfl (lv_at hl 2 rfl) ?_
  obtain ⟨r28, σ28, h28, h⟩ := ob_e h
  refine r_runI M (r_callV (As := [.int r27, .int x2]) X M (lv_sub hl [] rfl) (HR _ _ _ _ _ h28 _) cal_X7_answersAs q1091 ⟨Nat.le_refl _, (by show 8 + (3 + 11) + 48 * d ≤ 48 * (d + 1); omega)⟩ hq_66 (el_66 _ _) rfl rfl rfl (Nat.le_of_ble_eq_true rfl) ⟨Nat.le_refl _, Nat.le_refl _⟩ dX7_answersAs_126) (fun H locs M => ?_)
  clear h28
  exact r_iret X M rfl h dX7_answersAs_129
def g_X7_answersAs : Nat → Nat → Int32 → Int32 → St → Rs
  | 0 => fun _ _ _ _ => none
  | n + 1 => fun t a b σ => if t = 0 then f_X7_answersAs (g_X7_answersAs n) a b σ else none
theorem TG_X7_answersAs {l : Launch} {Γ : Gm} : ∀ n : Nat, GC_X7_answersAs l Γ (103 + n) (g_X7_answersAs n) := by
  intro n
  induction n with
  | zero => exact fun _ _ _ _ _ h => (by cases h)
  | succ n ih =>
    exact fun _ _ _ _ _ h => T_X7_answersAs (l := l) (Γ := Γ) ih (by omega) h
def GC_X7_partsAs (l : Launch) (Γ : Gm) (d : Nat) (rec : Nat → Int32 → Int32 → St → Rs) : Prop := (∀ (x1 : Int32) (x2 : Int32) (σ : St) (r : Int32) (σ' : St), rec 0 x1 x2 σ = some (r, σ') → MetI l yX7_partsAs cX7_partsAs 5 .int d Γ σ [.ref (Γ.1 66), .int x1, .int x2] r σ')
def f_X7_partsAs_b54 (rec : Nat → Int32 → Int32 → St → Rs) (x2 : Int32) (x3 : Int32) (y1 : Int32) (σ : St) : Rs :=
  if y1 = 0 ∨ y1 = 1 then (
  ol (st σ 66 17 y1) fun σ2 => (
  if x3 = 0 then (
    some (0, σ2)
  ) else (
    if x3 = (-1) then (
      some ((-x2), σ2)
    ) else (
      if ¬ x3 = 0 then (
      some ((x2 / x3), σ2)) else none
    )
  ))) else none
set_option maxRecDepth 100000 in
set_option maxHeartbeats 4000000 in
theorem u_X7_partsAs_b54 {l : Launch} {Γ : Gm} {p : Program} {e : Env} {s : State} {m : MethodId} {args : Array Value} {below : List Frame} {meth : Method} {c : Code} {r : Int32} {σ' : St} {d : Nat} {rec : Nat → Int32 → Int32 → St → Rs} (X : Cx p s m args meth c cX7_partsAs RX7 5 (some .int) Γ) (HR : GC_X7_partsAs l Γ d rec) (hd : 204 ≤ d) (x2 : Int32) (x3 : Int32) (y1 : Int32) (σ : St) (H : Heap) (locs : List Loc) (ls : Array Slot) (h : f_X7_partsAs_b54 rec x2 x3 y1 σ = some (r, σ')) (M : Mv Γ σ s H locs) (hl : lv_has ls 5 [(2, .int x2), (3, .int x3)]) : W p l e (rmd (d + 1)) s m args below meth c H locs 0 0 (MQ below (Qi Γ r σ' s.heap.size) args s 0 0 (Rg Γ s.heap.size)) (F0 m 54 ls [.int y1, .ref (Γ.1 66)]) := by
  unfold f_X7_partsAs_b54 at h
  obtain ⟨c1, h⟩ := it_n h
  obtain ⟨σ2, e2, h⟩ := ol_e h
  refine r_put (x := y1) (ty := .boolean) X M hq_66 (el_66 _ _) rfl inX7 tyX7_ok nmX7 17 (by decide) q745 rfl rfl rfl (nar_b c1) (fit_b c1) (Nat.le_of_ble_eq_true rfl) (pf_66_17 _ _ _) dX7_partsAs_54 (fun H locs M => ?_)
  rw [← e2] at M
  refine lv_iload_n X.x X.b dX7_partsAs_57 rfl (lv_at hl 1 rfl) ?_
  refine lv_if_ne (tgt := 65) X.x X.b dX7_partsAs_58 (by decide) (fun c5 => ?_) (fun c5 => ?_)
  · have h := it_f c5 h
    refine lv_iload_n X.x X.b dX7_partsAs_65 rfl (lv_at hl 1 rfl) ?_
    refine lv_iconst (v := (-1)) X.x X.b dX7_partsAs_66 (by decide) ?_
    refine lv_icmp_ne (tgt := 75) X.x X.b dX7_partsAs_67 (by decide) (fun c4 => ?_) (fun c4 => ?_)
    · have h := it_f c4 h
      refine lv_iload_n X.x X.b dX7_partsAs_75 rfl (lv_at hl 0 rfl) ?_
      refine lv_iload_n X.x X.b dX7_partsAs_76 rfl (lv_at hl 1 rfl) ?_
      obtain ⟨c3, h⟩ := it_n h
      refine lv_idiv X.x X.b dX7_partsAs_77 c3 ?_
      exact r_iret X M rfl h dX7_partsAs_78
    · have h := it_t c4 h
      refine lv_iload_n X.x X.b dX7_partsAs_70 rfl (lv_at hl 0 rfl) ?_
      refine lv_ineg X.x X.b dX7_partsAs_71 ?_
      refine lv_goto (tgt := 78) X.x X.b dX7_partsAs_72 (by decide) ?_
      exact r_iret X M rfl h dX7_partsAs_78
  · have h := it_t c5 h
    refine lv_iconst (v := 0) X.x X.b dX7_partsAs_61 (by decide) ?_
    refine lv_goto (tgt := 78) X.x X.b dX7_partsAs_62 (by decide) ?_
    exact r_iret X M rfl h dX7_partsAs_78
/-- StreetNumbersModel.partsAs(II)I -/
def f_X7_partsAs (rec : Nat → Int32 → Int32 → St → Rs) (x1 : Int32) (x2 : Int32) (σ : St) : Rs :=
  if x1 = 0 then (
    ob (f_X7_starts 13 σ) fun _ σ2 => (
    ob (f_X7_mNow σ2) fun r3 σ3 => (
    if (r3 - (σ3 66 16)) = 0 then (
      f_X7_partsAs_b54 rec x2 (r3 - (σ3 66 16)) 1 σ3
    ) else (
      f_X7_partsAs_b54 rec x2 (r3 - (σ3 66 16)) 0 σ3
    )))
  ) else (
  if x1 = 1 then (
    ob (f_X7_starts 21 σ) fun _ σ6 => (
    ob (f_X7_above 1 σ6) fun r7 σ7 => (
    ob (rec 0 r7 x2 σ7) fun r8 σ8 => (
    if (σ8 66 17) = 0 then (
      ob (f_X7_kindNow σ8) fun r9 σ9 => (
      ob (g_X7_answersAs 100 0 r9 1 σ9) fun r10 σ10 => (
      some ((r8 + r10), σ10)))
    ) else (
      some (0, σ8)
    ))))
  ) else (
    ob (f_X7_above x1 σ) fun r12 σ12 => (
    ob (rec 0 r12 x2 σ12) fun r13 σ13 => (
    some (r13, σ13)))
  ))
set_option maxRecDepth 100000 in
set_option maxHeartbeats 4000000 in
theorem T_X7_partsAs {l : Launch} {Γ : Gm} {d : Nat} {rec : Nat → Int32 → Int32 → St → Rs} (HR : GC_X7_partsAs l Γ d rec) (hd : 204 ≤ d) {x1 : Int32} {x2 : Int32} {σ : St} {r : Int32} {σ' : St} (h : f_X7_partsAs rec x1 x2 σ = some (r, σ')) : MetI l yX7_partsAs cX7_partsAs 5 .int (d + 1) Γ σ [.ref (Γ.1 66), .int x1, .int x2] r σ' := by
  intro sz
  refine met_in (by decide) (Nat.le_of_ble_eq_true rfl) (fun p e s m args below meth c ls X hsz M hl => ?_)
  subst hsz
  have X : Cx p s m args meth c cX7_partsAs RX7 5 (some .int) Γ := X
  have hl : lv_has ls 5 [(0, .ref (Γ.1 66)), (1, .int x1), (2, .int x2)] := hl
  unfold f_X7_partsAs at h
  refine lv_iload_n X.x X.b dX7_partsAs_0 rfl (lv_at hl 1 rfl) ?_
  by_cases c1 : x1 = 0
  · have h := it_t c1 h
    refine lv_lookup (off := 27) (tgt := 28) X.x X.b dX7_partsAs_1 (by decide) (by first | (rw [c1]; done) | (rw [c1]; rfl)) (by decide) ?_
    refine lv_aload_n X.x X.b dX7_partsAs_28 rfl (lv_at hl 0 rfl) ?_
    refine lv_bipush (v := 13) X.x X.b dX7_partsAs_29 (by decide) ?_
    obtain ⟨r2, σ2, h2, h⟩ := ob_e h
    refine r_runV M (r_callV (As := [.int 13]) X M (lv_sub hl [] rfl) (T_X7_starts h2 _) cal_X7_starts q1087 ⟨by show 1 + 1 ≤ d + 1; omega, by show 8 + (2 + 11) + 48 * 1 ≤ 48 * (d + 1); omega⟩ hq_66 (el_66 _ _) rfl rfl rfl (Nat.le_of_ble_eq_true rfl) ⟨Nat.le_refl _, Nat.le_refl _⟩ dX7_partsAs_31) (fun H locs M => ?_)
    clear h2
    refine lv_aload_n X.x X.b dX7_partsAs_34 rfl (lv_at hl 0 rfl) ?_
    obtain ⟨r3, σ3, h3, h⟩ := ob_e h
    refine r_runI M (r_callV (As := []) X M (lv_sub hl [] rfl) (T_X7_mNow h3 _) cal_X7_mNow q1095 ⟨by show 2 + 1 ≤ d + 1; omega, by show 8 + (1 + 11) + 48 * 2 ≤ 48 * (d + 1); omega⟩ hq_66 (el_66 _ _) rfl rfl rfl (Nat.le_of_ble_eq_true rfl) ⟨Nat.le_refl _, Nat.le_refl _⟩ dX7_partsAs_35) (fun H locs M => ?_)
    clear h3
    refine lv_aload_n X.x X.b dX7_partsAs_38 rfl (lv_at hl 0 rfl) ?_
    refine r_get X M hq_66 (el_66 _ _) rfl inX7 16 (by decide) q744 rfl rfl dX7_partsAs_39 ?_
    refine lv_isub X.x X.b dX7_partsAs_42 ?_
    refine lv_istore_n (lv' := [(3, .int (r3 - (σ3 66 16))), (0, .ref (Γ.1 66)), (1, .int x1), (2, .int x2)]) X.x X.b dX7_partsAs_43 rfl hl (by decide) rfl (fun ls hl => ?_)
    refine lv_aload_n X.x X.b dX7_partsAs_44 rfl (lv_at hl 1 rfl) ?_
    refine lv_iload_n X.x X.b dX7_partsAs_45 rfl (lv_at hl 0 rfl) ?_
    refine lv_if_ne (tgt := 53) X.x X.b dX7_partsAs_46 (by decide) (fun c4 => ?_) (fun c4 => ?_)
    · have h := it_f c4 h
      refine lv_iconst (v := 0) X.x X.b dX7_partsAs_53 (by decide) ?_
      exact u_X7_partsAs_b54 X HR hd x2 (r3 - (σ3 66 16)) 0 σ3 _ _ _ h M (lv_sub hl [3, 0] rfl)
    · have h := it_t c4 h
      refine lv_iconst (v := 1) X.x X.b dX7_partsAs_49 (by decide) ?_
      refine lv_goto (tgt := 54) X.x X.b dX7_partsAs_50 (by decide) ?_
      exact u_X7_partsAs_b54 X HR hd x2 (r3 - (σ3 66 16)) 1 σ3 _ _ _ h M (lv_sub hl [3, 0] rfl)
  have h := it_f c1 h
  by_cases c5 : x1 = 1
  · have h := it_t c5 h
    refine lv_lookup (off := 78) (tgt := 79) X.x X.b dX7_partsAs_1 (by decide) (by first | (rw [c5]; done) | (rw [c5]; rfl)) (by decide) ?_
    refine lv_aload_n X.x X.b dX7_partsAs_79 rfl (lv_at hl 0 rfl) ?_
    refine lv_bipush (v := 21) X.x X.b dX7_partsAs_80 (by decide) ?_
    obtain ⟨r6, σ6, h6, h⟩ := ob_e h
    refine r_runV M (r_callV (As := [.int 21]) X M (lv_sub hl [] rfl) (T_X7_starts h6 _) cal_X7_starts q1087 ⟨by show 1 + 1 ≤ d + 1; omega, by show 8 + (2 + 11) + 48 * 1 ≤ 48 * (d + 1); omega⟩ hq_66 (el_66 _ _) rfl rfl rfl (Nat.le_of_ble_eq_true rfl) ⟨Nat.le_refl _, Nat.le_refl _⟩ dX7_partsAs_82) (fun H locs M => ?_)
    clear h6
    refine lv_aload_n X.x X.b dX7_partsAs_85 rfl (lv_at hl 0 rfl) ?_
    refine lv_iconst (v := 1) X.x X.b dX7_partsAs_86 (by decide) ?_
    obtain ⟨r7, σ7, h7, h⟩ := ob_e h
    refine r_runI M (r_callS (As := [.int 1]) X M (lv_sub hl [] rfl) (T_X7_above h7 _) cal_X7_above q936 ⟨by show 1 + 1 ≤ d + 1; omega, by show 8 + (1 + 11) + 48 * 1 ≤ 48 * (d + 1); omega⟩ rfl rfl (Nat.le_of_ble_eq_true rfl) ⟨Nat.le_refl _, Nat.le_refl _⟩ dX7_partsAs_87) (fun H locs M => ?_)
    clear h7
    refine lv_iload_n X.x X.b dX7_partsAs_90 rfl (lv_at hl 2 rfl) ?_
    obtain ⟨r8, σ8, h8, h⟩ := ob_e h
    refine r_runI M (r_callV (As := [.int r7, .int x2]) X M (lv_sub hl [] rfl) (HR _ _ _ _ _ h8 _) cal_X7_partsAs q1103 ⟨Nat.le_refl _, (by show 8 + (5 + 11) + 48 * d ≤ 48 * (d + 1); omega)⟩ hq_66 (el_66 _ _) rfl rfl rfl (Nat.le_of_ble_eq_true rfl) ⟨Nat.le_refl _, Nat.le_refl _⟩ dX7_partsAs_91) (fun H locs M => ?_)
    clear h8
    refine lv_istore (lv' := [(4, .int r8), (0, .ref (Γ.1 66)), (1, .int x1), (2, .int x2)]) X.x X.b dX7_partsAs_94 hl (by decide) rfl (fun ls hl => ?_)
    refine lv_aload_n X.x X.b dX7_partsAs_96 rfl (lv_at hl 1 rfl) ?_
    refine r_get X M hq_66 (el_66 _ _) rfl inX7 17 (by decide) q745 rfl rfl dX7_partsAs_97 ?_
    refine lv_if_eq (tgt := 107) X.x X.b dX7_partsAs_100 (by decide) (fun c11 => ?_) (fun c11 => ?_)
    · have h := it_t c11 h
      refine lv_iload X.x X.b dX7_partsAs_107 (lv_at hl 0 rfl) ?_
      refine lv_aload_n X.x X.b dX7_partsAs_109 rfl (lv_at hl 1 rfl) ?_
      refine lv_aload_n X.x X.b dX7_partsAs_110 rfl (lv_at hl 1 rfl) ?_
      obtain ⟨r9, σ9, h9, h⟩ := ob_e h
      refine r_runI M (r_callV (As := []) X M (lv_sub hl [] rfl) (T_X7_kindNow h9 _) cal_X7_kindNow q1079 ⟨by show 2 + 1 ≤ d + 1; omega, by show 8 + (1 + 11) + 48 * 2 ≤ 48 * (d + 1); omega⟩ hq_66 (el_66 _ _) rfl rfl rfl (Nat.le_of_ble_eq_true rfl) ⟨Nat.le_refl _, Nat.le_refl _⟩ dX7_partsAs_111) (fun H locs M => ?_)
      clear h9
      refine lv_iconst (v := 1) X.x X.b dX7_partsAs_114 (by decide) ?_
      obtain ⟨r10, σ10, h10, h⟩ := ob_e h
      refine r_runI M (r_callV (As := [.int r9, .int 1]) X M (lv_sub hl [] rfl) ((TG_X7_answersAs 100) _ _ _ _ _ h10 _) cal_X7_answersAs q1091 ⟨by show 203 + 1 ≤ d + 1; omega, by show 8 + (3 + 11) + 48 * 203 ≤ 48 * (d + 1); omega⟩ hq_66 (el_66 _ _) rfl rfl rfl (Nat.le_of_ble_eq_true rfl) ⟨Nat.le_refl _, Nat.le_refl _⟩ dX7_partsAs_115) (fun H locs M => ?_)
      clear h10
      refine lv_iadd X.x X.b dX7_partsAs_118 ?_
      exact r_iret X M rfl h dX7_partsAs_119
    · have h := it_f c11 h
      refine lv_iconst (v := 0) X.x X.b dX7_partsAs_103 (by decide) ?_
      refine lv_goto (tgt := 119) X.x X.b dX7_partsAs_104 (by decide) ?_
      exact r_iret X M rfl h dX7_partsAs_119
  have h := it_f c5 h
  refine lv_lookup (off := 119) (tgt := 120) X.x X.b dX7_partsAs_1 (by decide) (by show Op.lookupswitch.offset [(0, 27), (1, 78)] _ _ = _; first | (rw [lv_osw c1 (by decide), lv_osw c5 (by decide)]; done) | (rw [lv_osw c1 (by decide), lv_osw c5 (by decide)]; rfl)) (by decide) ?_
  refine lv_aload_n X.x X.b dX7_partsAs_120 rfl (lv_at hl 0 rfl) ?_
  refine lv_iload_n X.x X.b dX7_partsAs_121 rfl (lv_at hl 1 rfl) ?_
  obtain ⟨r12, σ12, h12, h⟩ := ob_e h
  refine r_runI M (r_callS (As := [.int x1]) X M (lv_sub hl [] rfl) (T_X7_above h12 _) cal_X7_above q936 ⟨by show 1 + 1 ≤ d + 1; omega, by show 8 + (1 + 11) + 48 * 1 ≤ 48 * (d + 1); omega⟩ rfl rfl (Nat.le_of_ble_eq_true rfl) ⟨Nat.le_refl _, Nat.le_refl _⟩ dX7_partsAs_122) (fun H locs M => ?_)
  clear h12
  refine lv_iload_n X.x X.b dX7_partsAs_125 rfl (lv_at hl 2 rfl) ?_
  obtain ⟨r13, σ13, h13, h⟩ := ob_e h
  refine r_runI M (r_callV (As := [.int r12, .int x2]) X M (lv_sub hl [] rfl) (HR _ _ _ _ _ h13 _) cal_X7_partsAs q1103 ⟨Nat.le_refl _, (by show 8 + (5 + 11) + 48 * d ≤ 48 * (d + 1); omega)⟩ hq_66 (el_66 _ _) rfl rfl rfl (Nat.le_of_ble_eq_true rfl) ⟨Nat.le_refl _, Nat.le_refl _⟩ dX7_partsAs_126) (fun H locs M => ?_)
  clear h13
  exact r_iret X M rfl h dX7_partsAs_129
def g_X7_partsAs : Nat → Nat → Int32 → Int32 → St → Rs
  | 0 => fun _ _ _ _ => none
  | n + 1 => fun t a b σ => if t = 0 then f_X7_partsAs (g_X7_partsAs n) a b σ else none
theorem TG_X7_partsAs {l : Launch} {Γ : Gm} : ∀ n : Nat, GC_X7_partsAs l Γ (204 + n) (g_X7_partsAs n) := by
  intro n
  induction n with
  | zero => exact fun _ _ _ _ _ h => (by cases h)
  | succ n ih =>
    exact fun _ _ _ _ _ h => T_X7_partsAs (l := l) (Γ := Γ) ih (by omega) h
def GC_X7_waitsAs (l : Launch) (Γ : Gm) (d : Nat) (rec : Nat → Int32 → Int32 → St → Rs) : Prop := (∀ (x1 : Int32) (x2 : Int32) (σ : St) (r : Int32) (σ' : St), rec 0 x1 x2 σ = some (r, σ') → MetI l yX7_waitsAs cX7_waitsAs 3 .int d Γ σ [.ref (Γ.1 66), .int x1, .int x2] r σ')
/-- StreetNumbersModel.waitsAs(II)I -/
def f_X7_waitsAs (rec : Nat → Int32 → Int32 → St → Rs) (x1 : Int32) (x2 : Int32) (σ : St) : Rs :=
  if x1 = 0 then (
    ob (f_X7_starts 12 σ) fun _ σ2 => (
    ob (f_X7_kindNow σ2) fun r3 σ3 => (
    ob (g_X7_answersAs 100 0 r3 x2 σ3) fun r4 σ4 => (
    ob (f_X7_mNow σ4) fun r5 σ5 => (
    some ((r4 - r5), σ5)))))
  ) else (
  if x1 = 1 then (
    ob (f_X7_above x1 σ) fun r7 σ7 => (
    ob (rec 0 r7 x2 σ7) fun r8 σ8 => (
    some (r8, σ8)))
  ) else (
  if x1 = 2 then (
    ob (f_X7_above x1 σ) fun r10 σ10 => (
    ob (rec 0 r10 x2 σ10) fun r11 σ11 => (
    some (r11, σ11)))
  ) else (
  if x1 = 3 then (
    ob (f_X7_starts 40 σ) fun _ σ13 => (
    ob (f_X7_above 3 σ13) fun r14 σ14 => (
    ob (rec 0 r14 (x2 / 2) σ14) fun r15 σ15 => (
    some (r15, σ15))))
  ) else (
  if x1 = 4 then (
    ob (f_X7_starts 51 σ) fun _ σ17 => (
    ob (f_X7_above 4 σ17) fun r18 σ18 => (
    ob (rec 0 r18 x2 σ18) fun r19 σ19 => (
    some ((r19 ^^^ (σ19 66 16)), σ19))))
  ) else (
    ob (f_X7_above x1 σ) fun r20 σ20 => (
    ob (rec 0 r20 x2 σ20) fun r21 σ21 => (
    some (r21, σ21)))
  )))))
set_option maxRecDepth 100000 in
set_option maxHeartbeats 4000000 in
theorem T_X7_waitsAs {l : Launch} {Γ : Gm} {d : Nat} {rec : Nat → Int32 → Int32 → St → Rs} (HR : GC_X7_waitsAs l Γ d rec) (hd : 204 ≤ d) {x1 : Int32} {x2 : Int32} {σ : St} {r : Int32} {σ' : St} (h : f_X7_waitsAs rec x1 x2 σ = some (r, σ')) : MetI l yX7_waitsAs cX7_waitsAs 3 .int (d + 1) Γ σ [.ref (Γ.1 66), .int x1, .int x2] r σ' := by
  intro sz
  refine met_in (by decide) (Nat.le_of_ble_eq_true rfl) (fun p e s m args below meth c ls X hsz M hl => ?_)
  subst hsz
  have X : Cx p s m args meth c cX7_waitsAs RX7 3 (some .int) Γ := X
  have hl : lv_has ls 3 [(0, .ref (Γ.1 66)), (1, .int x1), (2, .int x2)] := hl
  unfold f_X7_waitsAs at h
  refine lv_iload_n X.x X.b dX7_waitsAs_0 rfl (lv_at hl 1 rfl) ?_
  by_cases c1 : x1 = 0
  · have h := it_t c1 h
    refine lv_tableIn (tgt := 36) X.x X.b dX7_waitsAs_1 (by rw [c1]; decide) (by rw [c1]; decide) (by first | (rw [c1]; done) | (rw [c1]; rfl)) (by decide) ?_
    refine lv_aload_n X.x X.b dX7_waitsAs_36 rfl (lv_at hl 0 rfl) ?_
    refine lv_bipush (v := 12) X.x X.b dX7_waitsAs_37 (by decide) ?_
    obtain ⟨r2, σ2, h2, h⟩ := ob_e h
    refine r_runV M (r_callV (As := [.int 12]) X M (lv_sub hl [] rfl) (T_X7_starts h2 _) cal_X7_starts q1087 ⟨by show 1 + 1 ≤ d + 1; omega, by show 8 + (2 + 11) + 48 * 1 ≤ 48 * (d + 1); omega⟩ hq_66 (el_66 _ _) rfl rfl rfl (Nat.le_of_ble_eq_true rfl) ⟨Nat.le_refl _, Nat.le_refl _⟩ dX7_waitsAs_39) (fun H locs M => ?_)
    clear h2
    refine lv_aload_n X.x X.b dX7_waitsAs_42 rfl (lv_at hl 0 rfl) ?_
    refine lv_aload_n X.x X.b dX7_waitsAs_43 rfl (lv_at hl 0 rfl) ?_
    obtain ⟨r3, σ3, h3, h⟩ := ob_e h
    refine r_runI M (r_callV (As := []) X M (lv_sub hl [] rfl) (T_X7_kindNow h3 _) cal_X7_kindNow q1079 ⟨by show 2 + 1 ≤ d + 1; omega, by show 8 + (1 + 11) + 48 * 2 ≤ 48 * (d + 1); omega⟩ hq_66 (el_66 _ _) rfl rfl rfl (Nat.le_of_ble_eq_true rfl) ⟨Nat.le_refl _, Nat.le_refl _⟩ dX7_waitsAs_44) (fun H locs M => ?_)
    clear h3
    refine lv_iload_n X.x X.b dX7_waitsAs_47 rfl (lv_at hl 2 rfl) ?_
    obtain ⟨r4, σ4, h4, h⟩ := ob_e h
    refine r_runI M (r_callV (As := [.int r3, .int x2]) X M (lv_sub hl [] rfl) ((TG_X7_answersAs 100) _ _ _ _ _ h4 _) cal_X7_answersAs q1091 ⟨by show 203 + 1 ≤ d + 1; omega, by show 8 + (3 + 11) + 48 * 203 ≤ 48 * (d + 1); omega⟩ hq_66 (el_66 _ _) rfl rfl rfl (Nat.le_of_ble_eq_true rfl) ⟨Nat.le_refl _, Nat.le_refl _⟩ dX7_waitsAs_48) (fun H locs M => ?_)
    clear h4
    refine lv_aload_n X.x X.b dX7_waitsAs_51 rfl (lv_at hl 0 rfl) ?_
    obtain ⟨r5, σ5, h5, h⟩ := ob_e h
    refine r_runI M (r_callV (As := []) X M (lv_sub hl [] rfl) (T_X7_mNow h5 _) cal_X7_mNow q1095 ⟨by show 2 + 1 ≤ d + 1; omega, by show 8 + (1 + 11) + 48 * 2 ≤ 48 * (d + 1); omega⟩ hq_66 (el_66 _ _) rfl rfl rfl (Nat.le_of_ble_eq_true rfl) ⟨Nat.le_refl _, Nat.le_refl _⟩ dX7_waitsAs_52) (fun H locs M => ?_)
    clear h5
    refine lv_isub X.x X.b dX7_waitsAs_55 ?_
    exact r_iret X M rfl h dX7_waitsAs_56
  have h := it_f c1 h
  by_cases c6 : x1 = 1
  · have h := it_t c6 h
    refine lv_tableIn (tgt := 96) X.x X.b dX7_waitsAs_1 (by rw [c6]; decide) (by rw [c6]; decide) (by first | (rw [c6]; done) | (rw [c6]; rfl)) (by decide) ?_
    refine lv_aload_n X.x X.b dX7_waitsAs_96 rfl (lv_at hl 0 rfl) ?_
    refine lv_iload_n X.x X.b dX7_waitsAs_97 rfl (lv_at hl 1 rfl) ?_
    obtain ⟨r7, σ7, h7, h⟩ := ob_e h
    refine r_runI M (r_callS (As := [.int x1]) X M (lv_sub hl [] rfl) (T_X7_above h7 _) cal_X7_above q936 ⟨by show 1 + 1 ≤ d + 1; omega, by show 8 + (1 + 11) + 48 * 1 ≤ 48 * (d + 1); omega⟩ rfl rfl (Nat.le_of_ble_eq_true rfl) ⟨Nat.le_refl _, Nat.le_refl _⟩ dX7_waitsAs_98) (fun H locs M => ?_)
    clear h7
    refine lv_iload_n X.x X.b dX7_waitsAs_101 rfl (lv_at hl 2 rfl) ?_
    obtain ⟨r8, σ8, h8, h⟩ := ob_e h
    refine r_runI M (r_callV (As := [.int r7, .int x2]) X M (lv_sub hl [] rfl) (HR _ _ _ _ _ h8 _) cal_X7_waitsAs q1099 ⟨Nat.le_refl _, (by show 8 + (3 + 11) + 48 * d ≤ 48 * (d + 1); omega)⟩ hq_66 (el_66 _ _) rfl rfl rfl (Nat.le_of_ble_eq_true rfl) ⟨Nat.le_refl _, Nat.le_refl _⟩ dX7_waitsAs_102) (fun H locs M => ?_)
    clear h8
    exact r_iret X M rfl h dX7_waitsAs_105
  have h := it_f c6 h
  by_cases c9 : x1 = 2
  · have h := it_t c9 h
    refine lv_tableIn (tgt := 96) X.x X.b dX7_waitsAs_1 (by rw [c9]; decide) (by rw [c9]; decide) (by first | (rw [c9]; done) | (rw [c9]; rfl)) (by decide) ?_
    refine lv_aload_n X.x X.b dX7_waitsAs_96 rfl (lv_at hl 0 rfl) ?_
    refine lv_iload_n X.x X.b dX7_waitsAs_97 rfl (lv_at hl 1 rfl) ?_
    obtain ⟨r10, σ10, h10, h⟩ := ob_e h
    refine r_runI M (r_callS (As := [.int x1]) X M (lv_sub hl [] rfl) (T_X7_above h10 _) cal_X7_above q936 ⟨by show 1 + 1 ≤ d + 1; omega, by show 8 + (1 + 11) + 48 * 1 ≤ 48 * (d + 1); omega⟩ rfl rfl (Nat.le_of_ble_eq_true rfl) ⟨Nat.le_refl _, Nat.le_refl _⟩ dX7_waitsAs_98) (fun H locs M => ?_)
    clear h10
    refine lv_iload_n X.x X.b dX7_waitsAs_101 rfl (lv_at hl 2 rfl) ?_
    obtain ⟨r11, σ11, h11, h⟩ := ob_e h
    refine r_runI M (r_callV (As := [.int r10, .int x2]) X M (lv_sub hl [] rfl) (HR _ _ _ _ _ h11 _) cal_X7_waitsAs q1099 ⟨Nat.le_refl _, (by show 8 + (3 + 11) + 48 * d ≤ 48 * (d + 1); omega)⟩ hq_66 (el_66 _ _) rfl rfl rfl (Nat.le_of_ble_eq_true rfl) ⟨Nat.le_refl _, Nat.le_refl _⟩ dX7_waitsAs_102) (fun H locs M => ?_)
    clear h11
    exact r_iret X M rfl h dX7_waitsAs_105
  have h := it_f c9 h
  by_cases c12 : x1 = 3
  · have h := it_t c12 h
    refine lv_tableIn (tgt := 57) X.x X.b dX7_waitsAs_1 (by rw [c12]; decide) (by rw [c12]; decide) (by first | (rw [c12]; done) | (rw [c12]; rfl)) (by decide) ?_
    refine lv_aload_n X.x X.b dX7_waitsAs_57 rfl (lv_at hl 0 rfl) ?_
    refine lv_bipush (v := 40) X.x X.b dX7_waitsAs_58 (by decide) ?_
    obtain ⟨r13, σ13, h13, h⟩ := ob_e h
    refine r_runV M (r_callV (As := [.int 40]) X M (lv_sub hl [] rfl) (T_X7_starts h13 _) cal_X7_starts q1087 ⟨by show 1 + 1 ≤ d + 1; omega, by show 8 + (2 + 11) + 48 * 1 ≤ 48 * (d + 1); omega⟩ hq_66 (el_66 _ _) rfl rfl rfl (Nat.le_of_ble_eq_true rfl) ⟨Nat.le_refl _, Nat.le_refl _⟩ dX7_waitsAs_60) (fun H locs M => ?_)
    clear h13
    refine lv_aload_n X.x X.b dX7_waitsAs_63 rfl (lv_at hl 0 rfl) ?_
    refine lv_iconst (v := 3) X.x X.b dX7_waitsAs_64 (by decide) ?_
    obtain ⟨r14, σ14, h14, h⟩ := ob_e h
    refine r_runI M (r_callS (As := [.int 3]) X M (lv_sub hl [] rfl) (T_X7_above h14 _) cal_X7_above q936 ⟨by show 1 + 1 ≤ d + 1; omega, by show 8 + (1 + 11) + 48 * 1 ≤ 48 * (d + 1); omega⟩ rfl rfl (Nat.le_of_ble_eq_true rfl) ⟨Nat.le_refl _, Nat.le_refl _⟩ dX7_waitsAs_65) (fun H locs M => ?_)
    clear h14
    refine lv_iload_n X.x X.b dX7_waitsAs_68 rfl (lv_at hl 2 rfl) ?_
    refine lv_iconst (v := 2) X.x X.b dX7_waitsAs_69 (by decide) ?_
    refine lv_idiv X.x X.b dX7_waitsAs_70 (by decide) ?_
    obtain ⟨r15, σ15, h15, h⟩ := ob_e h
    refine r_runI M (r_callV (As := [.int r14, .int (x2 / 2)]) X M (lv_sub hl [] rfl) (HR _ _ _ _ _ h15 _) cal_X7_waitsAs q1099 ⟨Nat.le_refl _, (by show 8 + (3 + 11) + 48 * d ≤ 48 * (d + 1); omega)⟩ hq_66 (el_66 _ _) rfl rfl rfl (Nat.le_of_ble_eq_true rfl) ⟨Nat.le_refl _, Nat.le_refl _⟩ dX7_waitsAs_71) (fun H locs M => ?_)
    clear h15
    exact r_iret X M rfl h dX7_waitsAs_74
  have h := it_f c12 h
  by_cases c16 : x1 = 4
  · have h := it_t c16 h
    refine lv_tableIn (tgt := 75) X.x X.b dX7_waitsAs_1 (by rw [c16]; decide) (by rw [c16]; decide) (by first | (rw [c16]; done) | (rw [c16]; rfl)) (by decide) ?_
    refine lv_aload_n X.x X.b dX7_waitsAs_75 rfl (lv_at hl 0 rfl) ?_
    refine lv_bipush (v := 51) X.x X.b dX7_waitsAs_76 (by decide) ?_
    obtain ⟨r17, σ17, h17, h⟩ := ob_e h
    refine r_runV M (r_callV (As := [.int 51]) X M (lv_sub hl [] rfl) (T_X7_starts h17 _) cal_X7_starts q1087 ⟨by show 1 + 1 ≤ d + 1; omega, by show 8 + (2 + 11) + 48 * 1 ≤ 48 * (d + 1); omega⟩ hq_66 (el_66 _ _) rfl rfl rfl (Nat.le_of_ble_eq_true rfl) ⟨Nat.le_refl _, Nat.le_refl _⟩ dX7_waitsAs_78) (fun H locs M => ?_)
    clear h17
    refine lv_aload_n X.x X.b dX7_waitsAs_81 rfl (lv_at hl 0 rfl) ?_
    refine lv_iconst (v := 4) X.x X.b dX7_waitsAs_82 (by decide) ?_
    obtain ⟨r18, σ18, h18, h⟩ := ob_e h
    refine r_runI M (r_callS (As := [.int 4]) X M (lv_sub hl [] rfl) (T_X7_above h18 _) cal_X7_above q936 ⟨by show 1 + 1 ≤ d + 1; omega, by show 8 + (1 + 11) + 48 * 1 ≤ 48 * (d + 1); omega⟩ rfl rfl (Nat.le_of_ble_eq_true rfl) ⟨Nat.le_refl _, Nat.le_refl _⟩ dX7_waitsAs_83) (fun H locs M => ?_)
    clear h18
    refine lv_iload_n X.x X.b dX7_waitsAs_86 rfl (lv_at hl 2 rfl) ?_
    obtain ⟨r19, σ19, h19, h⟩ := ob_e h
    refine r_runI M (r_callV (As := [.int r18, .int x2]) X M (lv_sub hl [] rfl) (HR _ _ _ _ _ h19 _) cal_X7_waitsAs q1099 ⟨Nat.le_refl _, (by show 8 + (3 + 11) + 48 * d ≤ 48 * (d + 1); omega)⟩ hq_66 (el_66 _ _) rfl rfl rfl (Nat.le_of_ble_eq_true rfl) ⟨Nat.le_refl _, Nat.le_refl _⟩ dX7_waitsAs_87) (fun H locs M => ?_)
    clear h19
    refine lv_aload_n X.x X.b dX7_waitsAs_90 rfl (lv_at hl 0 rfl) ?_
    refine r_get X M hq_66 (el_66 _ _) rfl inX7 16 (by decide) q744 rfl rfl dX7_waitsAs_91 ?_
    refine lv_ixor X.x X.b dX7_waitsAs_94 ?_
    exact r_iret X M rfl h dX7_waitsAs_95
  have h := it_f c16 h
  have c1z := lv_neT c1 (show (0 : Int32).toInt = 0 by decide)
  have c6z := lv_neT c6 (show (1 : Int32).toInt = 1 by decide)
  have c9z := lv_neT c9 (show (2 : Int32).toInt = 2 by decide)
  have c12z := lv_neT c12 (show (3 : Int32).toInt = 3 by decide)
  have c16z := lv_neT c16 (show (4 : Int32).toInt = 4 by decide)
  refine lv_tableOut (tgt := 96) X.x X.b dX7_waitsAs_1 (by omega) (by decide) ?_
  refine lv_aload_n X.x X.b dX7_waitsAs_96 rfl (lv_at hl 0 rfl) ?_
  refine lv_iload_n X.x X.b dX7_waitsAs_97 rfl (lv_at hl 1 rfl) ?_
  obtain ⟨r20, σ20, h20, h⟩ := ob_e h
  refine r_runI M (r_callS (As := [.int x1]) X M (lv_sub hl [] rfl) (T_X7_above h20 _) cal_X7_above q936 ⟨by show 1 + 1 ≤ d + 1; omega, by show 8 + (1 + 11) + 48 * 1 ≤ 48 * (d + 1); omega⟩ rfl rfl (Nat.le_of_ble_eq_true rfl) ⟨Nat.le_refl _, Nat.le_refl _⟩ dX7_waitsAs_98) (fun H locs M => ?_)
  clear h20
  refine lv_iload_n X.x X.b dX7_waitsAs_101 rfl (lv_at hl 2 rfl) ?_
  obtain ⟨r21, σ21, h21, h⟩ := ob_e h
  refine r_runI M (r_callV (As := [.int r20, .int x2]) X M (lv_sub hl [] rfl) (HR _ _ _ _ _ h21 _) cal_X7_waitsAs q1099 ⟨Nat.le_refl _, (by show 8 + (3 + 11) + 48 * d ≤ 48 * (d + 1); omega)⟩ hq_66 (el_66 _ _) rfl rfl rfl (Nat.le_of_ble_eq_true rfl) ⟨Nat.le_refl _, Nat.le_refl _⟩ dX7_waitsAs_102) (fun H locs M => ?_)
  clear h21
  exact r_iret X M rfl h dX7_waitsAs_105
def g_X7_waitsAs : Nat → Nat → Int32 → Int32 → St → Rs
  | 0 => fun _ _ _ _ => none
  | n + 1 => fun t a b σ => if t = 0 then f_X7_waitsAs (g_X7_waitsAs n) a b σ else none
theorem TG_X7_waitsAs {l : Launch} {Γ : Gm} : ∀ n : Nat, GC_X7_waitsAs l Γ (204 + n) (g_X7_waitsAs n) := by
  intro n
  induction n with
  | zero => exact fun _ _ _ _ _ h => (by cases h)
  | succ n ih =>
    exact fun _ _ _ _ _ h => T_X7_waitsAs (l := l) (Γ := Γ) ih (by omega) h
