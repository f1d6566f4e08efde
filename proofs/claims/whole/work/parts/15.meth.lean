def f_X7_longest_b71 (k4 : (Int32 → Int32 → St → Rs)) (k23 : (Int32 → Int32 → Int32 → St → Rs)) (x1 : Int32) (x2 : Int32) (x3 : Int32) (y0 : Int32) (σ : St) : Rs :=
  if y0 = 0 then (
    if inb x2 10 then (
    if inb x2 10 then (
    ol (st σ 74 x2.toNatClampNeg (σ 74 x2.toNatClampNeg)) fun σ3 => (
    k23 x1 x2 (x3 + 1) σ3)) else none) else none
  ) else (
    if inb x3 10 then (
    if inb x2 10 then (
    ol (st σ 74 x2.toNatClampNeg ((σ 74 x3.toNatClampNeg) + 1)) fun σ6 => (
    k23 x1 x2 (x3 + 1) σ6)) else none) else none
  )
set_option maxRecDepth 100000 in
set_option maxHeartbeats 4000000 in
theorem u_X7_longest_b71 {l : Launch} {Γ : Gm} {p : Program} {e : Env} {s : State} {m : MethodId} {args : Array Value} {below : List Frame} {meth : Method} {c : Code} {r : Int32} {σ' : St} {k4 : Int32 → Int32 → St → Rs} {k23 : Int32 → Int32 → Int32 → St → Rs} (X : Cx p s m args meth c cX7_longest RX7 5 (some .int) Γ) (H4 : ∀ (x1 : Int32) (x2 : Int32) (σ : St) (H : Heap) (locs : List Loc) (ls : Array Slot), k4 x1 x2 σ = some (r, σ') → Mv Γ σ s H locs → lv_has ls 5 [(0, .ref (Γ.1 66)), (1, .int x1), (2, .int x2)] → W p l e (rmd 3) s m args below meth c H locs 0 0 (MQ below (Qi Γ r σ' s.heap.size) args s 0 0 (Rg Γ s.heap.size)) (F0 m 4 ls [])) (H23 : ∀ (x1 : Int32) (x2 : Int32) (x3 : Int32) (σ : St) (H : Heap) (locs : List Loc) (ls : Array Slot), k23 x1 x2 x3 σ = some (r, σ') → Mv Γ σ s H locs → lv_has ls 5 [(0, .ref (Γ.1 66)), (1, .int x1), (2, .int x2), (3, .int x3)] → W p l e (rmd 3) s m args below meth c H locs 0 0 (MQ below (Qi Γ r σ' s.heap.size) args s 0 0 (Rg Γ s.heap.size)) (F0 m 23 ls [])) (x1 : Int32) (x2 : Int32) (x3 : Int32) (y0 : Int32) (σ : St) (H : Heap) (locs : List Loc) (ls : Array Slot) (h : f_X7_longest_b71 k4 k23 x1 x2 x3 y0 σ = some (r, σ')) (M : Mv Γ σ s H locs) (hl : lv_has ls 5 [(0, .ref (Γ.1 66)), (1, .int x1), (2, .int x2), (3, .int x3)]) : W p l e (rmd 3) s m args below meth c H locs 0 0 (MQ below (Qi Γ r σ' s.heap.size) args s 0 0 (Rg Γ s.heap.size)) (F0 m 71 ls [.int y0]) := by
  unfold f_X7_longest_b71 at h
  refine lv_istore (lv' := [(4, .int y0), (0, .ref (Γ.1 66)), (1, .int x1), (2, .int x2), (3, .int x3)]) X.x X.b dX7_longest_71 hl (by decide) rfl (fun ls hl => ?_)
  refine lv_aload_n X.x X.b dX7_longest_73 rfl (lv_at hl 1 rfl) ?_
  refine r_get X M hq_66 (el_66 _ _) rfl inX7 12 (by decide) q740 rfl rfl dX7_longest_74 ?_
  refine lv_iload_n X.x X.b dX7_longest_77 rfl (lv_at hl 3 rfl) ?_
  refine lv_iload X.x X.b dX7_longest_78 (lv_at hl 0 rfl) ?_
  refine lv_if_eq (tgt := 94) X.x X.b dX7_longest_80 (by decide) (fun c7 => ?_) (fun c7 => ?_)
  · have h := it_t c7 h
    refine lv_aload_n X.x X.b dX7_longest_94 rfl (lv_at hl 1 rfl) ?_
    refine r_get X M hq_66 (el_66 _ _) rfl inX7 12 (by decide) q740 rfl rfl dX7_longest_95 ?_
    refine lv_iload_n X.x X.b dX7_longest_98 rfl (lv_at hl 3 rfl) ?_
    obtain ⟨c1, h⟩ := it_n h
    refine r_iald (q := 74) (n := 10) X M rfl c1 dX7_longest_99 ?_
    obtain ⟨c2, h⟩ := it_n h
    obtain ⟨σ3, e3, h⟩ := ol_e h
    refine r_iast (q := 74) (n := 10) X M rfl c2 dX7_longest_100 (fun H locs M => ?_)
    rw [← e3] at M
    refine lv_iinc (v := (x3 + 1)) (lv' := [(3, .int (x3 + 1)), (4, .int y0), (0, .ref (Γ.1 66)), (1, .int x1), (2, .int x2)]) X.x X.b dX7_longest_101 hl (k := 4) rfl rfl (by decide) rfl (fun ls hl => ?_)
    refine lv_goto (tgt := 23) X.x X.b dX7_longest_104 (by decide) ?_
    exact H23 x1 x2 (x3 + 1) σ3 _ _ _ h M (lv_sub hl [2, 3, 4, 0] rfl)
  · have h := it_f c7 h
    refine lv_aload_n X.x X.b dX7_longest_83 rfl (lv_at hl 1 rfl) ?_
    refine r_get X M hq_66 (el_66 _ _) rfl inX7 12 (by decide) q740 rfl rfl dX7_longest_84 ?_
    refine lv_iload_n X.x X.b dX7_longest_87 rfl (lv_at hl 4 rfl) ?_
    obtain ⟨c4, h⟩ := it_n h
    refine r_iald (q := 74) (n := 10) X M rfl c4 dX7_longest_88 ?_
    refine lv_iconst (v := 1) X.x X.b dX7_longest_89 (by decide) ?_
    refine lv_iadd X.x X.b dX7_longest_90 ?_
    refine lv_goto (tgt := 100) X.x X.b dX7_longest_91 (by decide) ?_
    obtain ⟨c5, h⟩ := it_n h
    obtain ⟨σ6, e6, h⟩ := ol_e h
    refine r_iast (q := 74) (n := 10) X M rfl c5 dX7_longest_100 (fun H locs M => ?_)
    rw [← e6] at M
    refine lv_iinc (v := (x3 + 1)) (lv' := [(3, .int (x3 + 1)), (4, .int y0), (0, .ref (Γ.1 66)), (1, .int x1), (2, .int x2)]) X.x X.b dX7_longest_101 hl (k := 4) rfl rfl (by decide) rfl (fun ls hl => ?_)
    refine lv_goto (tgt := 23) X.x X.b dX7_longest_104 (by decide) ?_
    exact H23 x1 x2 (x3 + 1) σ6 _ _ _ h M (lv_sub hl [2, 3, 4, 0] rfl)
def f_X7_longest_b23 (k4 : (Int32 → Int32 → St → Rs)) (k23 : (Int32 → Int32 → Int32 → St → Rs)) (x1 : Int32) (x2 : Int32) (x3 : Int32) (σ : St) : Rs :=
  if x2 ≤ x3 then (
    if inb x2 10 then (
    if (σ 74 x2.toNatClampNeg) ≤ x1 then (
      k4 x1 (x2 + 1) σ
    ) else (
      if inb x2 10 then (
      k4 (σ 74 x2.toNatClampNeg) (x2 + 1) σ) else none
    )) else none
  ) else (
    ob (f_X7_at1 x3 σ) fun r4 σ4 => (
    ob (f_X7_its r4 2 σ4) fun r5 σ5 => (
    ob (f_X7_at1 x2 σ5) fun r6 σ6 => (
    ob (f_X7_its r6 2 σ6) fun r7 σ7 => (
    if r7 ≤ r5 then (
      f_X7_longest_b71 k4 k23 x1 x2 x3 0 σ7
    ) else (
      if inb x3 10 then (
      if inb x2 10 then (
      if (σ7 74 x3.toNatClampNeg) < (σ7 74 x2.toNatClampNeg) then (
        f_X7_longest_b71 k4 k23 x1 x2 x3 0 σ7
      ) else (
        f_X7_longest_b71 k4 k23 x1 x2 x3 1 σ7
      )) else none) else none
    )))))
  )
set_option maxRecDepth 100000 in
set_option maxHeartbeats 4000000 in
theorem u_X7_longest_b23 {l : Launch} {Γ : Gm} {p : Program} {e : Env} {s : State} {m : MethodId} {args : Array Value} {below : List Frame} {meth : Method} {c : Code} {r : Int32} {σ' : St} {k4 : Int32 → Int32 → St → Rs} {k23 : Int32 → Int32 → Int32 → St → Rs} (X : Cx p s m args meth c cX7_longest RX7 5 (some .int) Γ) (H4 : ∀ (x1 : Int32) (x2 : Int32) (σ : St) (H : Heap) (locs : List Loc) (ls : Array Slot), k4 x1 x2 σ = some (r, σ') → Mv Γ σ s H locs → lv_has ls 5 [(0, .ref (Γ.1 66)), (1, .int x1), (2, .int x2)] → W p l e (rmd 3) s m args below meth c H locs 0 0 (MQ below (Qi Γ r σ' s.heap.size) args s 0 0 (Rg Γ s.heap.size)) (F0 m 4 ls [])) (H23 : ∀ (x1 : Int32) (x2 : Int32) (x3 : Int32) (σ : St) (H : Heap) (locs : List Loc) (ls : Array Slot), k23 x1 x2 x3 σ = some (r, σ') → Mv Γ σ s H locs → lv_has ls 5 [(0, .ref (Γ.1 66)), (1, .int x1), (2, .int x2), (3, .int x3)] → W p l e (rmd 3) s m args below meth c H locs 0 0 (MQ below (Qi Γ r σ' s.heap.size) args s 0 0 (Rg Γ s.heap.size)) (F0 m 23 ls [])) (x1 : Int32) (x2 : Int32) (x3 : Int32) (σ : St) (H : Heap) (locs : List Loc) (ls : Array Slot) (h : f_X7_longest_b23 k4 k23 x1 x2 x3 σ = some (r, σ')) (M : Mv Γ σ s H locs) (hl : lv_has ls 5 [(0, .ref (Γ.1 66)), (1, .int x1), (2, .int x2), (3, .int x3)]) : W p l e (rmd 3) s m args below meth c H locs 0 0 (MQ below (Qi Γ r σ' s.heap.size) args s 0 0 (Rg Γ s.heap.size)) (F0 m 23 ls []) := by
  unfold f_X7_longest_b23 at h
  refine lv_iload_n X.x X.b dX7_longest_23 rfl (lv_at hl 3 rfl) ?_
  refine lv_iload_n X.x X.b dX7_longest_24 rfl (lv_at hl 2 rfl) ?_
  refine lv_icmp_ge (tgt := 107) X.x X.b dX7_longest_25 (by decide) (fun c12 => ?_) (fun c12 => ?_)
  · have h := it_t c12 h
    refine lv_aload_n X.x X.b dX7_longest_107 rfl (lv_at hl 0 rfl) ?_
    refine r_get X M hq_66 (el_66 _ _) rfl inX7 12 (by decide) q740 rfl rfl dX7_longest_108 ?_
    refine lv_iload_n X.x X.b dX7_longest_111 rfl (lv_at hl 2 rfl) ?_
    obtain ⟨c1, h⟩ := it_n h
    refine r_iald (q := 74) (n := 10) X M rfl c1 dX7_longest_112 ?_
    refine lv_iload_n X.x X.b dX7_longest_113 rfl (lv_at hl 1 rfl) ?_
    refine lv_icmp_le (tgt := 126) X.x X.b dX7_longest_114 (by decide) (fun c3 => ?_) (fun c3 => ?_)
    · have h := it_t c3 h
      refine lv_iload_n X.x X.b dX7_longest_126 rfl (lv_at hl 1 rfl) ?_
      refine lv_istore_n (lv' := [(1, .int x1), (0, .ref (Γ.1 66)), (2, .int x2), (3, .int x3)]) X.x X.b dX7_longest_127 rfl hl (by decide) rfl (fun ls hl => ?_)
      refine lv_iinc (v := (x2 + 1)) (lv' := [(2, .int (x2 + 1)), (1, .int x1), (0, .ref (Γ.1 66)), (3, .int x3)]) X.x X.b dX7_longest_128 hl (k := 2) rfl rfl (by decide) rfl (fun ls hl => ?_)
      refine lv_goto (tgt := 4) X.x X.b dX7_longest_131 (by decide) ?_
      exact H4 x1 (x2 + 1) σ _ _ _ h M (lv_sub hl [2, 1, 0] rfl)
    · have h := it_f c3 h
      refine lv_aload_n X.x X.b dX7_longest_117 rfl (lv_at hl 0 rfl) ?_
      refine r_get X M hq_66 (el_66 _ _) rfl inX7 12 (by decide) q740 rfl rfl dX7_longest_118 ?_
      refine lv_iload_n X.x X.b dX7_longest_121 rfl (lv_at hl 2 rfl) ?_
      obtain ⟨c2, h⟩ := it_n h
      refine r_iald (q := 74) (n := 10) X M rfl c2 dX7_longest_122 ?_
      refine lv_goto (tgt := 127) X.x X.b dX7_longest_123 (by decide) ?_
      refine lv_istore_n (lv' := [(1, .int (σ 74 x2.toNatClampNeg)), (0, .ref (Γ.1 66)), (2, .int x2), (3, .int x3)]) X.x X.b dX7_longest_127 rfl hl (by decide) rfl (fun ls hl => ?_)
      refine lv_iinc (v := (x2 + 1)) (lv' := [(2, .int (x2 + 1)), (1, .int (σ 74 x2.toNatClampNeg)), (0, .ref (Γ.1 66)), (3, .int x3)]) X.x X.b dX7_longest_128 hl (k := 2) rfl rfl (by decide) rfl (fun ls hl => ?_)
      refine lv_goto (tgt := 4) X.x X.b dX7_longest_131 (by decide) ?_
      exact H4 (σ 74 x2.toNatClampNeg) (x2 + 1) σ _ _ _ h M (lv_sub hl [2, 1, 0] rfl)
  · have h := it_f c12 h
    refine lv_aload_n X.x X.b dX7_longest_28 rfl (lv_at hl 0 rfl) ?_
    refine lv_aload_n X.x X.b dX7_longest_29 rfl (lv_at hl 0 rfl) ?_
    refine lv_iload_n X.x X.b dX7_longest_30 rfl (lv_at hl 3 rfl) ?_
    obtain ⟨r4, σ4, h4, h⟩ := ob_e h
    refine r_runI M (r_callV (As := [.int x3]) X M (lv_sub hl [] rfl) (T_X7_at1 h4 _) cal_X7_at1 q920 ⟨by decide, by decide⟩ hq_66 (el_66 _ _) rfl rfl rfl (Nat.le_of_ble_eq_true rfl) ⟨Nat.le_refl _, Nat.le_refl _⟩ dX7_longest_31) (fun H locs M => ?_)
    clear h4
    refine lv_iconst (v := 2) X.x X.b dX7_longest_34 (by decide) ?_
    obtain ⟨r5, σ5, h5, h⟩ := ob_e h
    refine r_runI M (r_callV (As := [.int r4, .int 2]) X M (lv_sub hl [] rfl) (T_X7_its h5 _) cal_X7_its q874 ⟨by decide, by decide⟩ hq_66 (el_66 _ _) rfl rfl rfl (Nat.le_of_ble_eq_true rfl) ⟨Nat.le_refl _, Nat.le_refl _⟩ dX7_longest_35) (fun H locs M => ?_)
    clear h5
    refine lv_aload_n X.x X.b dX7_longest_38 rfl (lv_at hl 0 rfl) ?_
    refine lv_aload_n X.x X.b dX7_longest_39 rfl (lv_at hl 0 rfl) ?_
    refine lv_iload_n X.x X.b dX7_longest_40 rfl (lv_at hl 2 rfl) ?_
    obtain ⟨r6, σ6, h6, h⟩ := ob_e h
    refine r_runI M (r_callV (As := [.int x2]) X M (lv_sub hl [] rfl) (T_X7_at1 h6 _) cal_X7_at1 q920 ⟨by decide, by decide⟩ hq_66 (el_66 _ _) rfl rfl rfl (Nat.le_of_ble_eq_true rfl) ⟨Nat.le_refl _, Nat.le_refl _⟩ dX7_longest_41) (fun H locs M => ?_)
    clear h6
    refine lv_iconst (v := 2) X.x X.b dX7_longest_44 (by decide) ?_
    obtain ⟨r7, σ7, h7, h⟩ := ob_e h
    refine r_runI M (r_callV (As := [.int r6, .int 2]) X M (lv_sub hl [] rfl) (T_X7_its h7 _) cal_X7_its q874 ⟨by decide, by decide⟩ hq_66 (el_66 _ _) rfl rfl rfl (Nat.le_of_ble_eq_true rfl) ⟨Nat.le_refl _, Nat.le_refl _⟩ dX7_longest_45) (fun H locs M => ?_)
    clear h7
    refine lv_icmp_ge (tgt := 70) X.x X.b dX7_longest_48 (by decide) (fun c11 => ?_) (fun c11 => ?_)
    · have h := it_t c11 h
      refine lv_iconst (v := 0) X.x X.b dX7_longest_70 (by decide) ?_
      exact u_X7_longest_b71 X H4 H23 x1 x2 x3 0 σ7 _ _ _ h M (lv_sub hl [0, 1, 2, 3] rfl)
    · have h := it_f c11 h
      refine lv_aload_n X.x X.b dX7_longest_51 rfl (lv_at hl 0 rfl) ?_
      refine r_get X M hq_66 (el_66 _ _) rfl inX7 12 (by decide) q740 rfl rfl dX7_longest_52 ?_
      refine lv_iload_n X.x X.b dX7_longest_55 rfl (lv_at hl 3 rfl) ?_
      obtain ⟨c8, h⟩ := it_n h
      refine r_iald (q := 74) (n := 10) X M rfl c8 dX7_longest_56 ?_
      refine lv_aload_n X.x X.b dX7_longest_57 rfl (lv_at hl 0 rfl) ?_
      refine r_get X M hq_66 (el_66 _ _) rfl inX7 12 (by decide) q740 rfl rfl dX7_longest_58 ?_
      refine lv_iload_n X.x X.b dX7_longest_61 rfl (lv_at hl 2 rfl) ?_
      obtain ⟨c9, h⟩ := it_n h
      refine r_iald (q := 74) (n := 10) X M rfl c9 dX7_longest_62 ?_
      refine lv_icmp_lt (tgt := 70) X.x X.b dX7_longest_63 (by decide) (fun c10 => ?_) (fun c10 => ?_)
      · have h := it_t c10 h
        refine lv_iconst (v := 0) X.x X.b dX7_longest_70 (by decide) ?_
        exact u_X7_longest_b71 X H4 H23 x1 x2 x3 0 σ7 _ _ _ h M (lv_sub hl [0, 1, 2, 3] rfl)
      · have h := it_f c10 h
        refine lv_iconst (v := 1) X.x X.b dX7_longest_66 (by decide) ?_
        refine lv_goto (tgt := 71) X.x X.b dX7_longest_67 (by decide) ?_
        exact u_X7_longest_b71 X H4 H23 x1 x2 x3 1 σ7 _ _ _ h M (lv_sub hl [0, 1, 2, 3] rfl)
def f_X7_longest_L23 (k4 : (Int32 → Int32 → St → Rs)) : Nat → Int32 → Int32 → Int32 → St → Rs
  | 0 => fun _ _ _ _ => none
  | n + 1 => fun x1 x2 x3 σ => f_X7_longest_b23 k4 (f_X7_longest_L23 k4 n) x1 x2 x3 σ
theorem u_X7_longest_L23 {l : Launch} {Γ : Gm} {p : Program} {e : Env} {s : State} {m : MethodId} {args : Array Value} {below : List Frame} {meth : Method} {c : Code} {r : Int32} {σ' : St} {k4 : Int32 → Int32 → St → Rs} (X : Cx p s m args meth c cX7_longest RX7 5 (some .int) Γ) (H4 : ∀ (x1 : Int32) (x2 : Int32) (σ : St) (H : Heap) (locs : List Loc) (ls : Array Slot), k4 x1 x2 σ = some (r, σ') → Mv Γ σ s H locs → lv_has ls 5 [(0, .ref (Γ.1 66)), (1, .int x1), (2, .int x2)] → W p l e (rmd 3) s m args below meth c H locs 0 0 (MQ below (Qi Γ r σ' s.heap.size) args s 0 0 (Rg Γ s.heap.size)) (F0 m 4 ls [])) : ∀ (n : Nat) (x1 : Int32) (x2 : Int32) (x3 : Int32) (σ : St) (H : Heap) (locs : List Loc) (ls : Array Slot), f_X7_longest_L23 k4 n x1 x2 x3 σ = some (r, σ') → Mv Γ σ s H locs → lv_has ls 5 [(0, .ref (Γ.1 66)), (1, .int x1), (2, .int x2), (3, .int x3)] → W p l e (rmd 3) s m args below meth c H locs 0 0 (MQ below (Qi Γ r σ' s.heap.size) args s 0 0 (Rg Γ s.heap.size)) (F0 m 23 ls []) := by
  intro n
  induction n with
  | zero => intro x1 x2 x3 σ H locs ls h; cases h
  | succ n ih => intro x1 x2 x3 σ H locs ls h; exact u_X7_longest_b23 X H4 ih x1 x2 x3 σ H locs ls h
def f_X7_longest_b4 (k4 : (Int32 → Int32 → St → Rs)) (x1 : Int32) (x2 : Int32) (σ : St) : Rs :=
  if inb 5 382 then (
  if (σ 67 (5 : Int32).toNatClampNeg) ≤ x2 then (
    some (x1, σ)
  ) else (
    if inb x2 10 then (
    ol (st σ 74 x2.toNatClampNeg 1) fun σ3 => (
    f_X7_longest_L23 k4 LF x1 x2 0 σ3)) else none
  )) else none
set_option maxRecDepth 100000 in
set_option maxHeartbeats 4000000 in
theorem u_X7_longest_b4 {l : Launch} {Γ : Gm} {p : Program} {e : Env} {s : State} {m : MethodId} {args : Array Value} {below : List Frame} {meth : Method} {c : Code} {r : Int32} {σ' : St} {k4 : Int32 → Int32 → St → Rs} (X : Cx p s m args meth c cX7_longest RX7 5 (some .int) Γ) (H4 : ∀ (x1 : Int32) (x2 : Int32) (σ : St) (H : Heap) (locs : List Loc) (ls : Array Slot), k4 x1 x2 σ = some (r, σ') → Mv Γ σ s H locs → lv_has ls 5 [(0, .ref (Γ.1 66)), (1, .int x1), (2, .int x2)] → W p l e (rmd 3) s m args below meth c H locs 0 0 (MQ below (Qi Γ r σ' s.heap.size) args s 0 0 (Rg Γ s.heap.size)) (F0 m 4 ls [])) (x1 : Int32) (x2 : Int32) (σ : St) (H : Heap) (locs : List Loc) (ls : Array Slot) (h : f_X7_longest_b4 k4 x1 x2 σ = some (r, σ')) (M : Mv Γ σ s H locs) (hl : lv_has ls 5 [(0, .ref (Γ.1 66)), (1, .int x1), (2, .int x2)]) : W p l e (rmd 3) s m args below meth c H locs 0 0 (MQ below (Qi Γ r σ' s.heap.size) args s 0 0 (Rg Γ s.heap.size)) (F0 m 4 ls []) := by
  unfold f_X7_longest_b4 at h
  refine lv_iload_n X.x X.b dX7_longest_4 rfl (lv_at hl 2 rfl) ?_
  refine lv_aload_n X.x X.b dX7_longest_5 rfl (lv_at hl 0 rfl) ?_
  refine r_get X M hq_66 (el_66 _ _) rfl inX7 0 (by decide) q728 rfl rfl dX7_longest_6 ?_
  refine lv_iconst (v := 5) X.x X.b dX7_longest_9 (by decide) ?_
  obtain ⟨c1, h⟩ := it_n h
  refine r_iald (q := 67) (n := 382) X M rfl c1 dX7_longest_10 ?_
  refine lv_icmp_ge (tgt := 134) X.x X.b dX7_longest_11 (by decide) (fun c4 => ?_) (fun c4 => ?_)
  · have h := it_t c4 h
    refine lv_iload_n X.x X.b dX7_longest_134 rfl (lv_at hl 1 rfl) ?_
    exact r_iret X M rfl h dX7_longest_135
  · have h := it_f c4 h
    refine lv_aload_n X.x X.b dX7_longest_14 rfl (lv_at hl 0 rfl) ?_
    refine r_get X M hq_66 (el_66 _ _) rfl inX7 12 (by decide) q740 rfl rfl dX7_longest_15 ?_
    refine lv_iload_n X.x X.b dX7_longest_18 rfl (lv_at hl 2 rfl) ?_
    refine lv_iconst (v := 1) X.x X.b dX7_longest_19 (by decide) ?_
    obtain ⟨c2, h⟩ := it_n h
    obtain ⟨σ3, e3, h⟩ := ol_e h
    refine r_iast (q := 74) (n := 10) X M rfl c2 dX7_longest_20 (fun H locs M => ?_)
    rw [← e3] at M
    refine lv_iconst (v := 0) X.x X.b dX7_longest_21 (by decide) ?_
    refine lv_istore_n (lv' := [(3, .int 0), (0, .ref (Γ.1 66)), (1, .int x1), (2, .int x2)]) X.x X.b dX7_longest_22 rfl hl (by decide) rfl (fun ls hl => ?_)
    exact u_X7_longest_L23 X H4 LF x1 x2 0 σ3 _ _ _ h M (lv_sub hl [1, 2, 3, 0] rfl)
def f_X7_longest_L4 : Nat → Int32 → Int32 → St → Rs
  | 0 => fun _ _ _ => none
  | n + 1 => fun x1 x2 σ => f_X7_longest_b4 (f_X7_longest_L4 n) x1 x2 σ
theorem u_X7_longest_L4 {l : Launch} {Γ : Gm} {p : Program} {e : Env} {s : State} {m : MethodId} {args : Array Value} {below : List Frame} {meth : Method} {c : Code} {r : Int32} {σ' : St} (X : Cx p s m args meth c cX7_longest RX7 5 (some .int) Γ) : ∀ (n : Nat) (x1 : Int32) (x2 : Int32) (σ : St) (H : Heap) (locs : List Loc) (ls : Array Slot), f_X7_longest_L4 n x1 x2 σ = some (r, σ') → Mv Γ σ s H locs → lv_has ls 5 [(0, .ref (Γ.1 66)), (1, .int x1), (2, .int x2)] → W p l e (rmd 3) s m args below meth c H locs 0 0 (MQ below (Qi Γ r σ' s.heap.size) args s 0 0 (Rg Γ s.heap.size)) (F0 m 4 ls []) := by
  intro n
  induction n with
  | zero => intro x1 x2 σ H locs ls h; cases h
  | succ n ih => intro x1 x2 σ H locs ls h; exact u_X7_longest_b4 X  ih x1 x2 σ H locs ls h
/-- StreetNumbersModel.longest()I -/
def f_X7_longest (σ : St) : Rs :=
  f_X7_longest_L4 LF 0 0 σ
set_option maxRecDepth 100000 in
set_option maxHeartbeats 4000000 in
theorem T_X7_longest {l : Launch} {Γ : Gm} {σ : St} {r : Int32} {σ' : St} (h : f_X7_longest σ = some (r, σ')) : MetI l yX7_longest cX7_longest 5 .int 3 Γ σ [.ref (Γ.1 66)] r σ' := by
  intro sz
  refine met_in (by decide) (Nat.le_of_ble_eq_true rfl) (fun p e s m args below meth c ls X hsz M hl => ?_)
  subst hsz
  have X : Cx p s m args meth c cX7_longest RX7 5 (some .int) Γ := X
  have hl : lv_has ls 5 [(0, .ref (Γ.1 66))] := hl
  unfold f_X7_longest at h
  refine lv_iconst (v := 0) X.x X.b dX7_longest_0 (by decide) ?_
  refine lv_istore_n (lv' := [(1, .int 0), (0, .ref (Γ.1 66))]) X.x X.b dX7_longest_1 rfl hl (by decide) rfl (fun ls hl => ?_)
  refine lv_iconst (v := 0) X.x X.b dX7_longest_2 (by decide) ?_
  refine lv_istore_n (lv' := [(2, .int 0), (1, .int 0), (0, .ref (Γ.1 66))]) X.x X.b dX7_longest_3 rfl hl (by decide) rfl (fun ls hl => ?_)
  exact u_X7_longest_L4 X LF 0 0 σ _ _ _ h M (lv_sub hl [2, 1, 0] rfl)
/-- StreetNumbersModel.fewest()I -/
def f_X7_fewest (σ : St) : Rs :=
  if inb 5 382 then (
  ob (f_X7_longest σ) fun r2 σ2 => (
  some (((σ 67 (5 : Int32).toNatClampNeg) - r2), σ2))) else none
set_option maxRecDepth 100000 in
set_option maxHeartbeats 4000000 in
theorem T_X7_fewest {l : Launch} {Γ : Gm} {σ : St} {r : Int32} {σ' : St} (h : f_X7_fewest σ = some (r, σ')) : MetI l yX7_fewest cX7_fewest 1 .int 4 Γ σ [.ref (Γ.1 66)] r σ' := by
  intro sz
  refine met_in (by decide) (Nat.le_of_ble_eq_true rfl) (fun p e s m args below meth c ls X hsz M hl => ?_)
  subst hsz
  have X : Cx p s m args meth c cX7_fewest RX7 1 (some .int) Γ := X
  have hl : lv_has ls 1 [(0, .ref (Γ.1 66))] := hl
  unfold f_X7_fewest at h
  refine lv_aload_n X.x X.b dX7_fewest_0 rfl (lv_at hl 0 rfl) ?_
  refine r_get X M hq_66 (el_66 _ _) rfl inX7 0 (by decide) q728 rfl rfl dX7_fewest_1 ?_
  refine lv_iconst (v := 5) X.x X.b dX7_fewest_4 (by decide) ?_
  obtain ⟨c1, h⟩ := it_n h
  refine r_iald (q := 67) (n := 382) X M rfl c1 dX7_fewest_5 ?_
  refine lv_aload_n X.x X.b dX7_fewest_6 rfl (lv_at hl 0 rfl) ?_
  obtain ⟨r2, σ2, h2, h⟩ := ob_e h
  refine r_runI M (r_callV (As := []) X M (lv_sub hl [] rfl) (T_X7_longest h2 _) cal_X7_longest q1020 ⟨by decide, by decide⟩ hq_66 (el_66 _ _) rfl rfl rfl (Nat.le_of_ble_eq_true rfl) ⟨Nat.le_refl _, Nat.le_refl _⟩ dX7_fewest_7) (fun H locs M => ?_)
  clear h2
  refine lv_isub X.x X.b dX7_fewest_10 ?_
  exact r_iret X M rfl h dX7_fewest_11
def f_X7_mindsOf_b60 (x1 : Int32) (x2 : Int32) (x4 : Int32) (x5 : Int32) (y0 : Int32) (σ : St) : Rs :=
  ob (f_X7_its x1 0 σ) fun r1 σ1 => (
  if r1 = 1 then (
    some (x5, σ1)
  ) else (
  if r1 = 2 then (
    some (y0, σ1)
  ) else (
  if r1 = 3 then (
    if (irm x2 2) = 1 then (
      ob (f_X7_its x1 1 σ1) fun r5 σ5 => (
      some ((x4 + r5), σ5))
    ) else (
      some ((x4 + 0), σ1)
    )
  ) else (
  if r1 = 4 then (
    some ((3 * x5), σ1)
  ) else (
  if r1 = 5 then (
    if (irm x2 10) = 4 then (
      some ((y0 + 20), σ1)
    ) else (
      some ((y0 + 0), σ1)
    )
  ) else (
  if r1 = 6 then (
    some (0, σ1)
  ) else (
    some (x4, σ1)
  )))))))
set_option maxRecDepth 100000 in
set_option maxHeartbeats 4000000 in
theorem u_X7_mindsOf_b60 {l : Launch} {Γ : Gm} {p : Program} {e : Env} {s : State} {m : MethodId} {args : Array Value} {below : List Frame} {meth : Method} {c : Code} {r : Int32} {σ' : St} (X : Cx p s m args meth c cX7_mindsOf RX7 7 (some .int) Γ) (x1 : Int32) (x2 : Int32) (x4 : Int32) (x5 : Int32) (y0 : Int32) (σ : St) (H : Heap) (locs : List Loc) (ls : Array Slot) (h : f_X7_mindsOf_b60 x1 x2 x4 x5 y0 σ = some (r, σ')) (M : Mv Γ σ s H locs) (hl : lv_has ls 7 [(0, .ref (Γ.1 66)), (1, .int x1), (2, .int x2), (4, .int x4), (5, .int x5)]) : W p l e (rmd 2) s m args below meth c H locs 0 0 (MQ below (Qi Γ r σ' s.heap.size) args s 0 0 (Rg Γ s.heap.size)) (F0 m 60 ls [.int y0]) := by
  unfold f_X7_mindsOf_b60 at h
  refine lv_istore (lv' := [(6, .int y0), (0, .ref (Γ.1 66)), (1, .int x1), (2, .int x2), (4, .int x4), (5, .int x5)]) X.x X.b dX7_mindsOf_60 hl (by decide) rfl (fun ls hl => ?_)
  refine lv_aload_n X.x X.b dX7_mindsOf_62 rfl (lv_at hl 1 rfl) ?_
  refine lv_iload_n X.x X.b dX7_mindsOf_63 rfl (lv_at hl 2 rfl) ?_
  refine lv_iconst (v := 0) X.x X.b dX7_mindsOf_64 (by decide) ?_
  obtain ⟨r1, σ1, h1, h⟩ := ob_e h
  refine r_runI M (r_callV (As := [.int x1, .int 0]) X M (lv_sub hl [] rfl) (T_X7_its h1 _) cal_X7_its q874 ⟨by decide, by decide⟩ hq_66 (el_66 _ _) rfl rfl rfl (Nat.le_of_ble_eq_true rfl) ⟨Nat.le_refl _, Nat.le_refl _⟩ dX7_mindsOf_65) (fun H locs M => ?_)
  clear h1
  by_cases c2 : r1 = 1
  · have h := it_t c2 h
    refine lv_tableIn (tgt := 108) X.x X.b dX7_mindsOf_68 (by rw [c2]; decide) (by rw [c2]; decide) (by first | (rw [c2]; done) | (rw [c2]; rfl)) (by decide) ?_
    refine lv_iload X.x X.b dX7_mindsOf_108 (lv_at hl 5 rfl) ?_
    exact r_iret X M rfl h dX7_mindsOf_110
  have h := it_f c2 h
  by_cases c3 : r1 = 2
  · have h := it_t c3 h
    refine lv_tableIn (tgt := 111) X.x X.b dX7_mindsOf_68 (by rw [c3]; decide) (by rw [c3]; decide) (by first | (rw [c3]; done) | (rw [c3]; rfl)) (by decide) ?_
    refine lv_iload X.x X.b dX7_mindsOf_111 (lv_at hl 0 rfl) ?_
    exact r_iret X M rfl h dX7_mindsOf_113
  have h := it_f c3 h
  by_cases c4 : r1 = 3
  · have h := it_t c4 h
    refine lv_tableIn (tgt := 114) X.x X.b dX7_mindsOf_68 (by rw [c4]; decide) (by rw [c4]; decide) (by first | (rw [c4]; done) | (rw [c4]; rfl)) (by decide) ?_
    refine lv_iload X.x X.b dX7_mindsOf_114 (lv_at hl 4 rfl) ?_
    refine lv_iload_n X.x X.b dX7_mindsOf_116 rfl (lv_at hl 3 rfl) ?_
    refine lv_iconst (v := 2) X.x X.b dX7_mindsOf_117 (by decide) ?_
    refine r_irem X dX7_mindsOf_118 (by decide) ?_
    refine lv_iconst (v := 1) X.x X.b dX7_mindsOf_119 (by decide) ?_
    refine lv_icmp_ne (tgt := 132) X.x X.b dX7_mindsOf_120 (by decide) (fun c6 => ?_) (fun c6 => ?_)
    · have h := it_f c6 h
      refine lv_iconst (v := 0) X.x X.b dX7_mindsOf_132 (by decide) ?_
      refine lv_iadd X.x X.b dX7_mindsOf_133 ?_
      exact r_iret X M rfl h dX7_mindsOf_134
    · have h := it_t c6 h
      refine lv_aload_n X.x X.b dX7_mindsOf_123 rfl (lv_at hl 1 rfl) ?_
      refine lv_iload_n X.x X.b dX7_mindsOf_124 rfl (lv_at hl 2 rfl) ?_
      refine lv_iconst (v := 1) X.x X.b dX7_mindsOf_125 (by decide) ?_
      obtain ⟨r5, σ5, h5, h⟩ := ob_e h
      refine r_runI M (r_callV (As := [.int x1, .int 1]) X M (lv_sub hl [] rfl) (T_X7_its h5 _) cal_X7_its q874 ⟨by decide, by decide⟩ hq_66 (el_66 _ _) rfl rfl rfl (Nat.le_of_ble_eq_true rfl) ⟨Nat.le_refl _, Nat.le_refl _⟩ dX7_mindsOf_126) (fun H locs M => ?_)
      clear h5
      refine lv_goto (tgt := 133) X.x X.b dX7_mindsOf_129 (by decide) ?_
      refine lv_iadd X.x X.b dX7_mindsOf_133 ?_
      exact r_iret X M rfl h dX7_mindsOf_134
  have h := it_f c4 h
  by_cases c7 : r1 = 4
  · have h := it_t c7 h
    refine lv_tableIn (tgt := 135) X.x X.b dX7_mindsOf_68 (by rw [c7]; decide) (by rw [c7]; decide) (by first | (rw [c7]; done) | (rw [c7]; rfl)) (by decide) ?_
    refine lv_iconst (v := 3) X.x X.b dX7_mindsOf_135 (by decide) ?_
    refine lv_iload X.x X.b dX7_mindsOf_136 (lv_at hl 5 rfl) ?_
    refine lv_imul X.x X.b dX7_mindsOf_138 ?_
    exact r_iret X M rfl h dX7_mindsOf_139
  have h := it_f c7 h
  by_cases c8 : r1 = 5
  · have h := it_t c8 h
    refine lv_tableIn (tgt := 140) X.x X.b dX7_mindsOf_68 (by rw [c8]; decide) (by rw [c8]; decide) (by first | (rw [c8]; done) | (rw [c8]; rfl)) (by decide) ?_
    refine lv_iload X.x X.b dX7_mindsOf_140 (lv_at hl 0 rfl) ?_
    refine lv_iload_n X.x X.b dX7_mindsOf_142 rfl (lv_at hl 3 rfl) ?_
    refine lv_bipush (v := 10) X.x X.b dX7_mindsOf_143 (by decide) ?_
    refine r_irem X dX7_mindsOf_145 (by decide) ?_
    refine lv_iconst (v := 4) X.x X.b dX7_mindsOf_146 (by decide) ?_
    refine lv_icmp_ne (tgt := 155) X.x X.b dX7_mindsOf_147 (by decide) (fun c9 => ?_) (fun c9 => ?_)
    · have h := it_f c9 h
      refine lv_iconst (v := 0) X.x X.b dX7_mindsOf_155 (by decide) ?_
      refine lv_iadd X.x X.b dX7_mindsOf_156 ?_
      exact r_iret X M rfl h dX7_mindsOf_157
    · have h := it_t c9 h
      refine lv_bipush (v := 20) X.x X.b dX7_mindsOf_150 (by decide) ?_
      refine lv_goto (tgt := 156) X.x X.b dX7_mindsOf_152 (by decide) ?_
      refine lv_iadd X.x X.b dX7_mindsOf_156 ?_
      exact r_iret X M rfl h dX7_mindsOf_157
  have h := it_f c8 h
  by_cases c10 : r1 = 6
  · have h := it_t c10 h
    refine lv_tableIn (tgt := 158) X.x X.b dX7_mindsOf_68 (by rw [c10]; decide) (by rw [c10]; decide) (by first | (rw [c10]; done) | (rw [c10]; rfl)) (by decide) ?_
    refine lv_iconst (v := 0) X.x X.b dX7_mindsOf_158 (by decide) ?_
    exact r_iret X M rfl h dX7_mindsOf_159
  have h := it_f c10 h
  have c2z := lv_neT c2 (show (1 : Int32).toInt = 1 by decide)
  have c3z := lv_neT c3 (show (2 : Int32).toInt = 2 by decide)
  have c4z := lv_neT c4 (show (3 : Int32).toInt = 3 by decide)
  have c7z := lv_neT c7 (show (4 : Int32).toInt = 4 by decide)
  have c8z := lv_neT c8 (show (5 : Int32).toInt = 5 by decide)
  have c10z := lv_neT c10 (show (6 : Int32).toInt = 6 by decide)
  refine lv_tableOut (tgt := 160) X.x X.b dX7_mindsOf_68 (by omega) (by decide) ?_
  refine lv_iload X.x X.b dX7_mindsOf_160 (lv_at hl 4 rfl) ?_
  exact r_iret X M rfl h dX7_mindsOf_162
def f_X7_mindsOf_b21 (x1 : Int32) (x2 : Int32) (y0 : Int32) (σ : St) : Rs :=
  if (irm x2 100) = 13 then (
    if (irm x2 10) = 8 then (
      f_X7_mindsOf_b60 x1 x2 y0 (y0 + 50) 0 σ
    ) else (
      f_X7_mindsOf_b60 x1 x2 y0 (y0 + 50) (y0 / 2) σ
    )
  ) else (
    if (irm x2 10) = 8 then (
      f_X7_mindsOf_b60 x1 x2 y0 (y0 + 0) 0 σ
    ) else (
      f_X7_mindsOf_b60 x1 x2 y0 (y0 + 0) (y0 / 2) σ
    )
  )
set_option maxRecDepth 100000 in
set_option maxHeartbeats 4000000 in
theorem u_X7_mindsOf_b21 {l : Launch} {Γ : Gm} {p : Program} {e : Env} {s : State} {m : MethodId} {args : Array Value} {below : List Frame} {meth : Method} {c : Code} {r : Int32} {σ' : St} (X : Cx p s m args meth c cX7_mindsOf RX7 7 (some .int) Γ) (x1 : Int32) (x2 : Int32) (y0 : Int32) (σ : St) (H : Heap) (locs : List Loc) (ls : Array Slot) (h : f_X7_mindsOf_b21 x1 x2 y0 σ = some (r, σ')) (M : Mv Γ σ s H locs) (hl : lv_has ls 7 [(0, .ref (Γ.1 66)), (1, .int x1), (2, .int x2)]) : W p l e (rmd 2) s m args below meth c H locs 0 0 (MQ below (Qi Γ r σ' s.heap.size) args s 0 0 (Rg Γ s.heap.size)) (F0 m 21 ls [.int y0]) := by
  unfold f_X7_mindsOf_b21 at h
  refine lv_istore (lv' := [(4, .int y0), (0, .ref (Γ.1 66)), (1, .int x1), (2, .int x2)]) X.x X.b dX7_mindsOf_21 hl (by decide) rfl (fun ls hl => ?_)
  refine lv_iload X.x X.b dX7_mindsOf_23 (lv_at hl 0 rfl) ?_
  refine lv_iload_n X.x X.b dX7_mindsOf_25 rfl (lv_at hl 3 rfl) ?_
  refine lv_bipush (v := 100) X.x X.b dX7_mindsOf_26 (by decide) ?_
  refine r_irem X dX7_mindsOf_28 (by decide) ?_
  refine lv_bipush (v := 13) X.x X.b dX7_mindsOf_29 (by decide) ?_
  refine lv_icmp_ne (tgt := 39) X.x X.b dX7_mindsOf_31 (by decide) (fun c3 => ?_) (fun c3 => ?_)
  · have h := it_f c3 h
    refine lv_iconst (v := 0) X.x X.b dX7_mindsOf_39 (by decide) ?_
    refine lv_iadd X.x X.b dX7_mindsOf_40 ?_
    refine lv_istore (lv' := [(5, .int (y0 + 0)), (4, .int y0), (0, .ref (Γ.1 66)), (1, .int x1), (2, .int x2)]) X.x X.b dX7_mindsOf_41 hl (by decide) rfl (fun ls hl => ?_)
    refine lv_iload_n X.x X.b dX7_mindsOf_43 rfl (lv_at hl 4 rfl) ?_
    refine lv_bipush (v := 10) X.x X.b dX7_mindsOf_44 (by decide) ?_
    refine r_irem X dX7_mindsOf_46 (by decide) ?_
    refine lv_bipush (v := 8) X.x X.b dX7_mindsOf_47 (by decide) ?_
    refine lv_icmp_ne (tgt := 56) X.x X.b dX7_mindsOf_49 (by decide) (fun c1 => ?_) (fun c1 => ?_)
    · have h := it_f c1 h
      refine lv_iload X.x X.b dX7_mindsOf_56 (lv_at hl 1 rfl) ?_
      refine lv_iconst (v := 2) X.x X.b dX7_mindsOf_58 (by decide) ?_
      refine lv_idiv X.x X.b dX7_mindsOf_59 (by decide) ?_
      exact u_X7_mindsOf_b60 X x1 x2 y0 (y0 + 0) (y0 / 2) σ _ _ _ h M (lv_sub hl [2, 3, 4, 1, 0] rfl)
    · have h := it_t c1 h
      refine lv_iconst (v := 0) X.x X.b dX7_mindsOf_52 (by decide) ?_
      refine lv_goto (tgt := 60) X.x X.b dX7_mindsOf_53 (by decide) ?_
      exact u_X7_mindsOf_b60 X x1 x2 y0 (y0 + 0) 0 σ _ _ _ h M (lv_sub hl [2, 3, 4, 1, 0] rfl)
  · have h := it_t c3 h
    refine lv_bipush (v := 50) X.x X.b dX7_mindsOf_34 (by decide) ?_
    refine lv_goto (tgt := 40) X.x X.b dX7_mindsOf_36 (by decide) ?_
    refine lv_iadd X.x X.b dX7_mindsOf_40 ?_
    refine lv_istore (lv' := [(5, .int (y0 + 50)), (4, .int y0), (0, .ref (Γ.1 66)), (1, .int x1), (2, .int x2)]) X.x X.b dX7_mindsOf_41 hl (by decide) rfl (fun ls hl => ?_)
    refine lv_iload_n X.x X.b dX7_mindsOf_43 rfl (lv_at hl 4 rfl) ?_
    refine lv_bipush (v := 10) X.x X.b dX7_mindsOf_44 (by decide) ?_
    refine r_irem X dX7_mindsOf_46 (by decide) ?_
    refine lv_bipush (v := 8) X.x X.b dX7_mindsOf_47 (by decide) ?_
    refine lv_icmp_ne (tgt := 56) X.x X.b dX7_mindsOf_49 (by decide) (fun c2 => ?_) (fun c2 => ?_)
    · have h := it_f c2 h
      refine lv_iload X.x X.b dX7_mindsOf_56 (lv_at hl 1 rfl) ?_
      refine lv_iconst (v := 2) X.x X.b dX7_mindsOf_58 (by decide) ?_
      refine lv_idiv X.x X.b dX7_mindsOf_59 (by decide) ?_
      exact u_X7_mindsOf_b60 X x1 x2 y0 (y0 + 50) (y0 / 2) σ _ _ _ h M (lv_sub hl [2, 3, 4, 1, 0] rfl)
    · have h := it_t c2 h
      refine lv_iconst (v := 0) X.x X.b dX7_mindsOf_52 (by decide) ?_
      refine lv_goto (tgt := 60) X.x X.b dX7_mindsOf_53 (by decide) ?_
      exact u_X7_mindsOf_b60 X x1 x2 y0 (y0 + 50) 0 σ _ _ _ h M (lv_sub hl [2, 3, 4, 1, 0] rfl)
/-- StreetNumbersModel.mindsOf(II)I -/
def f_X7_mindsOf (x1 : Int32) (x2 : Int32) (σ : St) : Rs :=
  ob (f_X7_its x1 2 σ) fun r1 σ1 => (
  if r1 ≤ x2 then (
    f_X7_mindsOf_b21 x1 x2 (x2 - r1) σ1
  ) else (
    f_X7_mindsOf_b21 x1 x2 (r1 - x2) σ1
  ))
set_option maxRecDepth 100000 in
set_option maxHeartbeats 4000000 in
theorem T_X7_mindsOf {l : Launch} {Γ : Gm} {x1 : Int32} {x2 : Int32} {σ : St} {r : Int32} {σ' : St} (h : f_X7_mindsOf x1 x2 σ = some (r, σ')) : MetI l yX7_mindsOf cX7_mindsOf 7 .int 2 Γ σ [.ref (Γ.1 66), .int x1, .int x2] r σ' := by
  intro sz
  refine met_in (by decide) (Nat.le_of_ble_eq_true rfl) (fun p e s m args below meth c ls X hsz M hl => ?_)
  subst hsz
  have X : Cx p s m args meth c cX7_mindsOf RX7 7 (some .int) Γ := X
  have hl : lv_has ls 7 [(0, .ref (Γ.1 66)), (1, .int x1), (2, .int x2)] := hl
  unfold f_X7_mindsOf at h
  refine lv_aload_n X.x X.b dX7_mindsOf_0 rfl (lv_at hl 0 rfl) ?_
  refine lv_iload_n X.x X.b dX7_mindsOf_1 rfl (lv_at hl 1 rfl) ?_
  refine lv_iconst (v := 2) X.x X.b dX7_mindsOf_2 (by decide) ?_
  obtain ⟨r1, σ1, h1, h⟩ := ob_e h
  refine r_runI M (r_callV (As := [.int x1, .int 2]) X M (lv_sub hl [] rfl) (T_X7_its h1 _) cal_X7_its q874 ⟨by decide, by decide⟩ hq_66 (el_66 _ _) rfl rfl rfl (Nat.le_of_ble_eq_true rfl) ⟨Nat.le_refl _, Nat.le_refl _⟩ dX7_mindsOf_3) (fun H locs M => ?_)
  clear h1
  refine lv_istore_n (lv' := [(3, .int r1), (0, .ref (Γ.1 66)), (1, .int x1), (2, .int x2)]) X.x X.b dX7_mindsOf_6 rfl hl (by decide) rfl (fun ls hl => ?_)
  refine lv_iload_n X.x X.b dX7_mindsOf_7 rfl (lv_at hl 3 rfl) ?_
  refine lv_iload_n X.x X.b dX7_mindsOf_8 rfl (lv_at hl 0 rfl) ?_
  refine lv_icmp_ge (tgt := 18) X.x X.b dX7_mindsOf_9 (by decide) (fun c2 => ?_) (fun c2 => ?_)
  · have h := it_t c2 h
    refine lv_iload_n X.x X.b dX7_mindsOf_18 rfl (lv_at hl 3 rfl) ?_
    refine lv_iload_n X.x X.b dX7_mindsOf_19 rfl (lv_at hl 0 rfl) ?_
    refine lv_isub X.x X.b dX7_mindsOf_20 ?_
    exact u_X7_mindsOf_b21 X x1 x2 (x2 - r1) σ1 _ _ _ h M (lv_sub hl [1, 2, 3] rfl)
  · have h := it_f c2 h
    refine lv_iload_n X.x X.b dX7_mindsOf_12 rfl (lv_at hl 0 rfl) ?_
    refine lv_iload_n X.x X.b dX7_mindsOf_13 rfl (lv_at hl 3 rfl) ?_
    refine lv_isub X.x X.b dX7_mindsOf_14 ?_
    refine lv_goto (tgt := 21) X.x X.b dX7_mindsOf_15 (by decide) ?_
    exact u_X7_mindsOf_b21 X x1 x2 (r1 - x2) σ1 _ _ _ h M (lv_sub hl [1, 2, 3] rfl)
/-- StreetNumbersModel.hasText(I)Z -/
def f_X7_hasText (x1 : Int32) (σ : St) : Rs :=
  if inb (48 + (125 * x1)) 382 then (
  if (σ 67 (48 + (125 * x1)).toNatClampNeg) ≤ 0 then (
    some (0, σ)
  ) else (
    some (1, σ)
  )) else none
set_option maxRecDepth 100000 in
set_option maxHeartbeats 4000000 in
theorem T_X7_hasText {l : Launch} {Γ : Gm} {x1 : Int32} {σ : St} {r : Int32} {σ' : St} (h : f_X7_hasText x1 σ = some (r, σ')) : MetI l yX7_hasText cX7_hasText 2 .boolean 1 Γ σ [.ref (Γ.1 66), .int x1] r σ' := by
  intro sz
  refine met_in (by decide) (Nat.le_of_ble_eq_true rfl) (fun p e s m args below meth c ls X hsz M hl => ?_)
  subst hsz
  have X : Cx p s m args meth c cX7_hasText RX7 2 (some .boolean) Γ := X
  have hl : lv_has ls 2 [(0, .ref (Γ.1 66)), (1, .int x1)] := hl
  unfold f_X7_hasText at h
  refine lv_aload_n X.x X.b dX7_hasText_0 rfl (lv_at hl 0 rfl) ?_
  refine r_get X M hq_66 (el_66 _ _) rfl inX7 0 (by decide) q728 rfl rfl dX7_hasText_1 ?_
  refine lv_bipush (v := 48) X.x X.b dX7_hasText_4 (by decide) ?_
  refine lv_bipush (v := 125) X.x X.b dX7_hasText_6 (by decide) ?_
  refine lv_iload_n X.x X.b dX7_hasText_8 rfl (lv_at hl 1 rfl) ?_
  refine lv_imul X.x X.b dX7_hasText_9 ?_
  refine lv_iadd X.x X.b dX7_hasText_10 ?_
  obtain ⟨c1, h⟩ := it_n h
  refine r_iald (q := 67) (n := 382) X M rfl c1 dX7_hasText_11 ?_
  refine lv_if_le (tgt := 19) X.x X.b dX7_hasText_12 (by decide) (fun c2 => ?_) (fun c2 => ?_)
  · have h := it_t c2 h
    refine lv_iconst (v := 0) X.x X.b dX7_hasText_19 (by decide) ?_
    exact r_iret X M rfl h dX7_hasText_20
  · have h := it_f c2 h
    refine lv_iconst (v := 1) X.x X.b dX7_hasText_15 (by decide) ?_
    refine lv_goto (tgt := 20) X.x X.b dX7_hasText_16 (by decide) ?_
    exact r_iret X M rfl h dX7_hasText_20
/-- StreetNumbersModel.held(III)I -/
def f_X7_held (x0 : Int32) (x1 : Int32) (x2 : Int32) (σ : St) : Rs :=
  if x1 ≤ x0 then (
    if x0 ≤ x2 then (
      some (x0, σ)
    ) else (
      some (x2, σ)
    )
  ) else (
    some (x1, σ)
  )
set_option maxRecDepth 100000 in
set_option maxHeartbeats 4000000 in
theorem T_X7_held {l : Launch} {Γ : Gm} {x0 : Int32} {x1 : Int32} {x2 : Int32} {σ : St} {r : Int32} {σ' : St} (h : f_X7_held x0 x1 x2 σ = some (r, σ')) : MetI l yX7_held cX7_held 3 .int 1 Γ σ [.int x0, .int x1, .int x2] r σ' := by
  intro sz
  refine met_in (by decide) (Nat.le_of_ble_eq_true rfl) (fun p e s m args below meth c ls X hsz M hl => ?_)
  subst hsz
  have X : Cx p s m args meth c cX7_held RX7 3 (some .int) Γ := X
  have hl : lv_has ls 3 [(0, .int x0), (1, .int x1), (2, .int x2)] := hl
  unfold f_X7_held at h
  refine lv_iload_n X.x X.b dX7_held_0 rfl (lv_at hl 0 rfl) ?_
  refine lv_iload_n X.x X.b dX7_held_1 rfl (lv_at hl 1 rfl) ?_
  refine lv_icmp_ge (tgt := 9) X.x X.b dX7_held_2 (by decide) (fun c2 => ?_) (fun c2 => ?_)
  · have h := it_t c2 h
    refine lv_iload_n X.x X.b dX7_held_9 rfl (lv_at hl 0 rfl) ?_
    refine lv_iload_n X.x X.b dX7_held_10 rfl (lv_at hl 2 rfl) ?_
    refine lv_icmp_le (tgt := 18) X.x X.b dX7_held_11 (by decide) (fun c1 => ?_) (fun c1 => ?_)
    · have h := it_t c1 h
      refine lv_iload_n X.x X.b dX7_held_18 rfl (lv_at hl 0 rfl) ?_
      exact r_iret X M rfl h dX7_held_19
    · have h := it_f c1 h
      refine lv_iload_n X.x X.b dX7_held_14 rfl (lv_at hl 2 rfl) ?_
      refine lv_goto (tgt := 19) X.x X.b dX7_held_15 (by decide) ?_
      exact r_iret X M rfl h dX7_held_19
  · have h := it_f c2 h
    refine lv_iload_n X.x X.b dX7_held_5 rfl (lv_at hl 1 rfl) ?_
    refine lv_goto (tgt := 19) X.x X.b dX7_held_6 (by decide) ?_
    exact r_iret X M rfl h dX7_held_19
/-- StreetNumbersModel.joined(III)I -/
def f_X7_joined (x0 : Int32) (x1 : Int32) (x2 : Int32) (σ : St) : Rs :=
  if x0 = 37 then (
    if x2 = 0 then (
      some (0, σ)
    ) else (
      if x2 = (-1) then (
        some (0, σ)
      ) else (
        if ¬ x2 = 0 then (
        some ((irm x1 x2), σ)) else none
      )
    )
  ) else (
  if x0 = 38 then (
    if x1 = 0 then (
      some (0, σ)
    ) else (
      if x2 = 0 then (
        some (0, σ)
      ) else (
        some (1, σ)
      )
    )
  ) else (
  if x0 = 39 then (
    if x1 = 0 then (
      if x2 = 0 then (
        some (0, σ)
      ) else (
        some (1, σ)
      )
    ) else (
      some (1, σ)
    )
  ) else (
  if x0 = 40 then (
    if x1 = 0 then (
      if x2 = 0 then (
        some (0, σ)
      ) else (
        some (1, σ)
      )
    ) else (
      some (1, σ)
    )
  ) else (
  if x0 = 41 then (
    if x1 = 0 then (
      if x2 = 0 then (
        some (0, σ)
      ) else (
        some (1, σ)
      )
    ) else (
      some (1, σ)
    )
  ) else (
  if x0 = 42 then (
    some ((x1 * x2), σ)
  ) else (
  if x0 = 43 then (
    some ((x1 + x2), σ)
  ) else (
  if x0 = 44 then (
    if x1 = 0 then (
      if x2 = 0 then (
        some (0, σ)
      ) else (
        some (1, σ)
      )
    ) else (
      some (1, σ)
    )
  ) else (
  if x0 = 45 then (
    some ((x1 - x2), σ)
  ) else (
  if x0 = 46 then (
    if x1 = 0 then (
      if x2 = 0 then (
        some (0, σ)
      ) else (
        some (1, σ)
      )
    ) else (
      some (1, σ)
    )
  ) else (
  if x0 = 47 then (
    if x2 = 0 then (
      some (0, σ)
    ) else (
      if x2 = (-1) then (
        some ((-x1), σ)
      ) else (
        if ¬ x2 = 0 then (
        some ((x1 / x2), σ)) else none
      )
    )
  ) else (
  if x0 = 48 then (
    if x1 = 0 then (
      if x2 = 0 then (
        some (0, σ)
      ) else (
        some (1, σ)
      )
    ) else (
      some (1, σ)
    )
  ) else (
  if x0 = 49 then (
    if x1 = 0 then (
      if x2 = 0 then (
        some (0, σ)
      ) else (
        some (1, σ)
      )
    ) else (
      some (1, σ)
    )
  ) else (
  if x0 = 50 then (
    if x1 = 0 then (
      if x2 = 0 then (
        some (0, σ)
      ) else (
        some (1, σ)
      )
    ) else (
      some (1, σ)
    )
  ) else (
  if x0 = 51 then (
    if x1 = 0 then (
      if x2 = 0 then (
        some (0, σ)
      ) else (
        some (1, σ)
      )
    ) else (
      some (1, σ)
    )
  ) else (
  if x0 = 52 then (
    if x1 = 0 then (
      if x2 = 0 then (
        some (0, σ)
      ) else (
        some (1, σ)
      )
    ) else (
      some (1, σ)
    )
  ) else (
  if x0 = 53 then (
    if x1 = 0 then (
      if x2 = 0 then (
        some (0, σ)
      ) else (
        some (1, σ)
      )
    ) else (
      some (1, σ)
    )
  ) else (
  if x0 = 54 then (
    if x1 = 0 then (
      if x2 = 0 then (
        some (0, σ)
      ) else (
        some (1, σ)
      )
    ) else (
      some (1, σ)
    )
  ) else (
  if x0 = 55 then (
    if x1 = 0 then (
      if x2 = 0 then (
        some (0, σ)
      ) else (
        some (1, σ)
      )
    ) else (
      some (1, σ)
    )
  ) else (
  if x0 = 56 then (
    if x1 = 0 then (
      if x2 = 0 then (
        some (0, σ)
      ) else (
        some (1, σ)
      )
    ) else (
      some (1, σ)
    )
  ) else (
  if x0 = 57 then (
    if x1 = 0 then (
      if x2 = 0 then (
        some (0, σ)
      ) else (
        some (1, σ)
      )
    ) else (
      some (1, σ)
    )
  ) else (
  if x0 = 58 then (
    if x1 = 0 then (
      if x2 = 0 then (
        some (0, σ)
      ) else (
        some (1, σ)
      )
    ) else (
      some (1, σ)
    )
  ) else (
  if x0 = 59 then (
    if x1 = 0 then (
      if x2 = 0 then (
        some (0, σ)
      ) else (
        some (1, σ)
      )
    ) else (
      some (1, σ)
    )
  ) else (
  if x0 = 60 then (
    if x2 ≤ x1 then (
      some (0, σ)
    ) else (
      some (1, σ)
    )
  ) else (
  if x0 = 61 then (
    if x1 = x2 then (
      some (1, σ)
    ) else (
      some (0, σ)
    )
  ) else (
  if x0 = 62 then (
    if x1 ≤ x2 then (
      some (0, σ)
    ) else (
      some (1, σ)
    )
  ) else (
    if x1 = 0 then (
      if x2 = 0 then (
        some (0, σ)
      ) else (
        some (1, σ)
      )
    ) else (
      some (1, σ)
    )
  ))))))))))))))))))))))))))
set_option maxRecDepth 100000 in
set_option maxHeartbeats 4000000 in
theorem T_X7_joined {l : Launch} {Γ : Gm} {x0 : Int32} {x1 : Int32} {x2 : Int32} {σ : St} {r : Int32} {σ' : St} (h : f_X7_joined x0 x1 x2 σ = some (r, σ')) : MetI l yX7_joined cX7_joined 3 .int 1 Γ σ [.int x0, .int x1, .int x2] r σ' := by
  intro sz
  refine met_in (by decide) (Nat.le_of_ble_eq_true rfl) (fun p e s m args below meth c ls X hsz M hl => ?_)
  subst hsz
  have X : Cx p s m args meth c cX7_joined RX7 3 (some .int) Γ := X
  have hl : lv_has ls 3 [(0, .int x0), (1, .int x1), (2, .int x2)] := hl
  unfold f_X7_joined at h
  refine lv_iload_n X.x X.b dX7_joined_0 rfl (lv_at hl 0 rfl) ?_
  by_cases c1 : x0 = 37
  · have h := it_t c1 h
    refine lv_tableIn (tgt := 154) X.x X.b dX7_joined_1 (by rw [c1]; decide) (by rw [c1]; decide) (by first | (rw [c1]; done) | (rw [c1]; rfl)) (by decide) ?_
    refine lv_iload_n X.x X.b dX7_joined_154 rfl (lv_at hl 2 rfl) ?_
    refine lv_if_eq (tgt := 163) X.x X.b dX7_joined_155 (by decide) (fun c4 => ?_) (fun c4 => ?_)
    · have h := it_t c4 h
      refine lv_iconst (v := 0) X.x X.b dX7_joined_163 (by decide) ?_
      refine lv_goto (tgt := 170) X.x X.b dX7_joined_164 (by decide) ?_
      exact r_iret X M rfl h dX7_joined_170
    · have h := it_f c4 h
      refine lv_iload_n X.x X.b dX7_joined_158 rfl (lv_at hl 2 rfl) ?_
      refine lv_iconst (v := (-1)) X.x X.b dX7_joined_159 (by decide) ?_
      refine lv_icmp_ne (tgt := 167) X.x X.b dX7_joined_160 (by decide) (fun c3 => ?_) (fun c3 => ?_)
      · have h := it_f c3 h
        refine lv_iload_n X.x X.b dX7_joined_167 rfl (lv_at hl 1 rfl) ?_
        refine lv_iload_n X.x X.b dX7_joined_168 rfl (lv_at hl 2 rfl) ?_
        obtain ⟨c2, h⟩ := it_n h
        refine r_irem X dX7_joined_169 c2 ?_
        exact r_iret X M rfl h dX7_joined_170
      · have h := it_t c3 h
        refine lv_iconst (v := 0) X.x X.b dX7_joined_163 (by decide) ?_
        refine lv_goto (tgt := 170) X.x X.b dX7_joined_164 (by decide) ?_
        exact r_iret X M rfl h dX7_joined_170
  have h := it_f c1 h
  by_cases c5 : x0 = 38
  · have h := it_t c5 h
    refine lv_tableIn (tgt := 204) X.x X.b dX7_joined_1 (by rw [c5]; decide) (by rw [c5]; decide) (by first | (rw [c5]; done) | (rw [c5]; rfl)) (by decide) ?_
    refine lv_iload_n X.x X.b dX7_joined_204 rfl (lv_at hl 1 rfl) ?_
    refine lv_if_eq (tgt := 216) X.x X.b dX7_joined_205 (by decide) (fun c7 => ?_) (fun c7 => ?_)
    · have h := it_t c7 h
      refine lv_iconst (v := 0) X.x X.b dX7_joined_216 (by decide) ?_
      exact r_iret X M rfl h dX7_joined_217
    · have h := it_f c7 h
      refine lv_iload_n X.x X.b dX7_joined_208 rfl (lv_at hl 2 rfl) ?_
      refine lv_if_eq (tgt := 216) X.x X.b dX7_joined_209 (by decide) (fun c6 => ?_) (fun c6 => ?_)
      · have h := it_t c6 h
        refine lv_iconst (v := 0) X.x X.b dX7_joined_216 (by decide) ?_
        exact r_iret X M rfl h dX7_joined_217
      · have h := it_f c6 h
        refine lv_iconst (v := 1) X.x X.b dX7_joined_212 (by decide) ?_
        refine lv_goto (tgt := 217) X.x X.b dX7_joined_213 (by decide) ?_
        exact r_iret X M rfl h dX7_joined_217
  have h := it_f c5 h
  by_cases c8 : x0 = 39
  · have h := it_t c8 h
    refine lv_tableIn (tgt := 218) X.x X.b dX7_joined_1 (by rw [c8]; decide) (by rw [c8]; decide) (by first | (rw [c8]; done) | (rw [c8]; rfl)) (by decide) ?_
    refine lv_iload_n X.x X.b dX7_joined_218 rfl (lv_at hl 1 rfl) ?_
    refine lv_if_ne (tgt := 226) X.x X.b dX7_joined_219 (by decide) (fun c10 => ?_) (fun c10 => ?_)
    · have h := it_f c10 h
      refine lv_iconst (v := 1) X.x X.b dX7_joined_226 (by decide) ?_
      refine lv_goto (tgt := 231) X.x X.b dX7_joined_227 (by decide) ?_
      exact r_iret X M rfl h dX7_joined_231
    · have h := it_t c10 h
      refine lv_iload_n X.x X.b dX7_joined_222 rfl (lv_at hl 2 rfl) ?_
      refine lv_if_eq (tgt := 230) X.x X.b dX7_joined_223 (by decide) (fun c9 => ?_) (fun c9 => ?_)
      · have h := it_t c9 h
        refine lv_iconst (v := 0) X.x X.b dX7_joined_230 (by decide) ?_
        exact r_iret X M rfl h dX7_joined_231
      · have h := it_f c9 h
        refine lv_iconst (v := 1) X.x X.b dX7_joined_226 (by decide) ?_
        refine lv_goto (tgt := 231) X.x X.b dX7_joined_227 (by decide) ?_
        exact r_iret X M rfl h dX7_joined_231
  have h := it_f c8 h
  by_cases c11 : x0 = 40
  · have h := it_t c11 h
    refine lv_tableIn (tgt := 218) X.x X.b dX7_joined_1 (by rw [c11]; decide) (by rw [c11]; decide) (by first | (rw [c11]; done) | (rw [c11]; rfl)) (by decide) ?_
    refine lv_iload_n X.x X.b dX7_joined_218 rfl (lv_at hl 1 rfl) ?_
    refine lv_if_ne (tgt := 226) X.x X.b dX7_joined_219 (by decide) (fun c13 => ?_) (fun c13 => ?_)
    · have h := it_f c13 h
      refine lv_iconst (v := 1) X.x X.b dX7_joined_226 (by decide) ?_
      refine lv_goto (tgt := 231) X.x X.b dX7_joined_227 (by decide) ?_
      exact r_iret X M rfl h dX7_joined_231
    · have h := it_t c13 h
      refine lv_iload_n X.x X.b dX7_joined_222 rfl (lv_at hl 2 rfl) ?_
      refine lv_if_eq (tgt := 230) X.x X.b dX7_joined_223 (by decide) (fun c12 => ?_) (fun c12 => ?_)
      · have h := it_t c12 h
        refine lv_iconst (v := 0) X.x X.b dX7_joined_230 (by decide) ?_
        exact r_iret X M rfl h dX7_joined_231
      · have h := it_f c12 h
        refine lv_iconst (v := 1) X.x X.b dX7_joined_226 (by decide) ?_
        refine lv_goto (tgt := 231) X.x X.b dX7_joined_227 (by decide) ?_
        exact r_iret X M rfl h dX7_joined_231
  have h := it_f c11 h
  by_cases c14 : x0 = 41
  · have h := it_t c14 h
    refine lv_tableIn (tgt := 218) X.x X.b dX7_joined_1 (by rw [c14]; decide) (by rw [c14]; decide) (by first | (rw [c14]; done) | (rw [c14]; rfl)) (by decide) ?_
    refine lv_iload_n X.x X.b dX7_joined_218 rfl (lv_at hl 1 rfl) ?_
    refine lv_if_ne (tgt := 226) X.x X.b dX7_joined_219 (by decide) (fun c16 => ?_) (fun c16 => ?_)
    · have h := it_f c16 h
      refine lv_iconst (v := 1) X.x X.b dX7_joined_226 (by decide) ?_
      refine lv_goto (tgt := 231) X.x X.b dX7_joined_227 (by decide) ?_
      exact r_iret X M rfl h dX7_joined_231
    · have h := it_t c16 h
      refine lv_iload_n X.x X.b dX7_joined_222 rfl (lv_at hl 2 rfl) ?_
      refine lv_if_eq (tgt := 230) X.x X.b dX7_joined_223 (by decide) (fun c15 => ?_) (fun c15 => ?_)
      · have h := it_t c15 h
        refine lv_iconst (v := 0) X.x X.b dX7_joined_230 (by decide) ?_
        exact r_iret X M rfl h dX7_joined_231
      · have h := it_f c15 h
        refine lv_iconst (v := 1) X.x X.b dX7_joined_226 (by decide) ?_
        refine lv_goto (tgt := 231) X.x X.b dX7_joined_227 (by decide) ?_
        exact r_iret X M rfl h dX7_joined_231
  have h := it_f c14 h
  by_cases c17 : x0 = 42
  · have h := it_t c17 h
    refine lv_tableIn (tgt := 128) X.x X.b dX7_joined_1 (by rw [c17]; decide) (by rw [c17]; decide) (by first | (rw [c17]; done) | (rw [c17]; rfl)) (by decide) ?_
    refine lv_iload_n X.x X.b dX7_joined_128 rfl (lv_at hl 1 rfl) ?_
    refine lv_iload_n X.x X.b dX7_joined_129 rfl (lv_at hl 2 rfl) ?_
    refine lv_imul X.x X.b dX7_joined_130 ?_
    exact r_iret X M rfl h dX7_joined_131
  have h := it_f c17 h
  by_cases c18 : x0 = 43
  · have h := it_t c18 h
    refine lv_tableIn (tgt := 120) X.x X.b dX7_joined_1 (by rw [c18]; decide) (by rw [c18]; decide) (by first | (rw [c18]; done) | (rw [c18]; rfl)) (by decide) ?_
    refine lv_iload_n X.x X.b dX7_joined_120 rfl (lv_at hl 1 rfl) ?_
    refine lv_iload_n X.x X.b dX7_joined_121 rfl (lv_at hl 2 rfl) ?_
    refine lv_iadd X.x X.b dX7_joined_122 ?_
    exact r_iret X M rfl h dX7_joined_123
  have h := it_f c18 h
  by_cases c19 : x0 = 44
  · have h := it_t c19 h
    refine lv_tableIn (tgt := 218) X.x X.b dX7_joined_1 (by rw [c19]; decide) (by rw [c19]; decide) (by first | (rw [c19]; done) | (rw [c19]; rfl)) (by decide) ?_
    refine lv_iload_n X.x X.b dX7_joined_218 rfl (lv_at hl 1 rfl) ?_
    refine lv_if_ne (tgt := 226) X.x X.b dX7_joined_219 (by decide) (fun c21 => ?_) (fun c21 => ?_)
    · have h := it_f c21 h
      refine lv_iconst (v := 1) X.x X.b dX7_joined_226 (by decide) ?_
      refine lv_goto (tgt := 231) X.x X.b dX7_joined_227 (by decide) ?_
      exact r_iret X M rfl h dX7_joined_231
    · have h := it_t c21 h
      refine lv_iload_n X.x X.b dX7_joined_222 rfl (lv_at hl 2 rfl) ?_
      refine lv_if_eq (tgt := 230) X.x X.b dX7_joined_223 (by decide) (fun c20 => ?_) (fun c20 => ?_)
      · have h := it_t c20 h
        refine lv_iconst (v := 0) X.x X.b dX7_joined_230 (by decide) ?_
        exact r_iret X M rfl h dX7_joined_231
      · have h := it_f c20 h
        refine lv_iconst (v := 1) X.x X.b dX7_joined_226 (by decide) ?_
        refine lv_goto (tgt := 231) X.x X.b dX7_joined_227 (by decide) ?_
        exact r_iret X M rfl h dX7_joined_231
  have h := it_f c19 h
  by_cases c22 : x0 = 45
  · have h := it_t c22 h
    refine lv_tableIn (tgt := 124) X.x X.b dX7_joined_1 (by rw [c22]; decide) (by rw [c22]; decide) (by first | (rw [c22]; done) | (rw [c22]; rfl)) (by decide) ?_
    refine lv_iload_n X.x X.b dX7_joined_124 rfl (lv_at hl 1 rfl) ?_
    refine lv_iload_n X.x X.b dX7_joined_125 rfl (lv_at hl 2 rfl) ?_
    refine lv_isub X.x X.b dX7_joined_126 ?_
    exact r_iret X M rfl h dX7_joined_127
  have h := it_f c22 h
  by_cases c23 : x0 = 46
  · have h := it_t c23 h
    refine lv_tableIn (tgt := 218) X.x X.b dX7_joined_1 (by rw [c23]; decide) (by rw [c23]; decide) (by first | (rw [c23]; done) | (rw [c23]; rfl)) (by decide) ?_
    refine lv_iload_n X.x X.b dX7_joined_218 rfl (lv_at hl 1 rfl) ?_
    refine lv_if_ne (tgt := 226) X.x X.b dX7_joined_219 (by decide) (fun c25 => ?_) (fun c25 => ?_)
    · have h := it_f c25 h
      refine lv_iconst (v := 1) X.x X.b dX7_joined_226 (by decide) ?_
      refine lv_goto (tgt := 231) X.x X.b dX7_joined_227 (by decide) ?_
      exact r_iret X M rfl h dX7_joined_231
    · have h := it_t c25 h
      refine lv_iload_n X.x X.b dX7_joined_222 rfl (lv_at hl 2 rfl) ?_
      refine lv_if_eq (tgt := 230) X.x X.b dX7_joined_223 (by decide) (fun c24 => ?_) (fun c24 => ?_)
      · have h := it_t c24 h
        refine lv_iconst (v := 0) X.x X.b dX7_joined_230 (by decide) ?_
        exact r_iret X M rfl h dX7_joined_231
      · have h := it_f c24 h
        refine lv_iconst (v := 1) X.x X.b dX7_joined_226 (by decide) ?_
        refine lv_goto (tgt := 231) X.x X.b dX7_joined_227 (by decide) ?_
        exact r_iret X M rfl h dX7_joined_231
  have h := it_f c23 h
  by_cases c26 : x0 = 47
  · have h := it_t c26 h
    refine lv_tableIn (tgt := 132) X.x X.b dX7_joined_1 (by rw [c26]; decide) (by rw [c26]; decide) (by first | (rw [c26]; done) | (rw [c26]; rfl)) (by decide) ?_
    refine lv_iload_n X.x X.b dX7_joined_132 rfl (lv_at hl 2 rfl) ?_
    refine lv_if_ne (tgt := 140) X.x X.b dX7_joined_133 (by decide) (fun c29 => ?_) (fun c29 => ?_)
    · have h := it_f c29 h
      refine lv_iload_n X.x X.b dX7_joined_140 rfl (lv_at hl 2 rfl) ?_
      refine lv_iconst (v := (-1)) X.x X.b dX7_joined_141 (by decide) ?_
      refine lv_icmp_ne (tgt := 150) X.x X.b dX7_joined_142 (by decide) (fun c28 => ?_) (fun c28 => ?_)
      · have h := it_f c28 h
        refine lv_iload_n X.x X.b dX7_joined_150 rfl (lv_at hl 1 rfl) ?_
        refine lv_iload_n X.x X.b dX7_joined_151 rfl (lv_at hl 2 rfl) ?_
        obtain ⟨c27, h⟩ := it_n h
        refine lv_idiv X.x X.b dX7_joined_152 c27 ?_
        exact r_iret X M rfl h dX7_joined_153
      · have h := it_t c28 h
        refine lv_iload_n X.x X.b dX7_joined_145 rfl (lv_at hl 1 rfl) ?_
        refine lv_ineg X.x X.b dX7_joined_146 ?_
        refine lv_goto (tgt := 153) X.x X.b dX7_joined_147 (by decide) ?_
        exact r_iret X M rfl h dX7_joined_153
    · have h := it_t c29 h
      refine lv_iconst (v := 0) X.x X.b dX7_joined_136 (by decide) ?_
      refine lv_goto (tgt := 153) X.x X.b dX7_joined_137 (by decide) ?_
      exact r_iret X M rfl h dX7_joined_153
  have h := it_f c26 h
  by_cases c30 : x0 = 48
  · have h := it_t c30 h
    refine lv_tableIn (tgt := 218) X.x X.b dX7_joined_1 (by rw [c30]; decide) (by rw [c30]; decide) (by first | (rw [c30]; done) | (rw [c30]; rfl)) (by decide) ?_
    refine lv_iload_n X.x X.b dX7_joined_218 rfl (lv_at hl 1 rfl) ?_
    refine lv_if_ne (tgt := 226) X.x X.b dX7_joined_219 (by decide) (fun c32 => ?_) (fun c32 => ?_)
    · have h := it_f c32 h
      refine lv_iconst (v := 1) X.x X.b dX7_joined_226 (by decide) ?_
      refine lv_goto (tgt := 231) X.x X.b dX7_joined_227 (by decide) ?_
      exact r_iret X M rfl h dX7_joined_231
    · have h := it_t c32 h
      refine lv_iload_n X.x X.b dX7_joined_222 rfl (lv_at hl 2 rfl) ?_
      refine lv_if_eq (tgt := 230) X.x X.b dX7_joined_223 (by decide) (fun c31 => ?_) (fun c31 => ?_)
      · have h := it_t c31 h
        refine lv_iconst (v := 0) X.x X.b dX7_joined_230 (by decide) ?_
        exact r_iret X M rfl h dX7_joined_231
      · have h := it_f c31 h
        refine lv_iconst (v := 1) X.x X.b dX7_joined_226 (by decide) ?_
        refine lv_goto (tgt := 231) X.x X.b dX7_joined_227 (by decide) ?_
        exact r_iret X M rfl h dX7_joined_231
  have h := it_f c30 h
  by_cases c33 : x0 = 49
  · have h := it_t c33 h
    refine lv_tableIn (tgt := 218) X.x X.b dX7_joined_1 (by rw [c33]; decide) (by rw [c33]; decide) (by first | (rw [c33]; done) | (rw [c33]; rfl)) (by decide) ?_
    refine lv_iload_n X.x X.b dX7_joined_218 rfl (lv_at hl 1 rfl) ?_
    refine lv_if_ne (tgt := 226) X.x X.b dX7_joined_219 (by decide) (fun c35 => ?_) (fun c35 => ?_)
    · have h := it_f c35 h
      refine lv_iconst (v := 1) X.x X.b dX7_joined_226 (by decide) ?_
      refine lv_goto (tgt := 231) X.x X.b dX7_joined_227 (by decide) ?_
      exact r_iret X M rfl h dX7_joined_231
    · have h := it_t c35 h
      refine lv_iload_n X.x X.b dX7_joined_222 rfl (lv_at hl 2 rfl) ?_
      refine lv_if_eq (tgt := 230) X.x X.b dX7_joined_223 (by decide) (fun c34 => ?_) (fun c34 => ?_)
      · have h := it_t c34 h
        refine lv_iconst (v := 0) X.x X.b dX7_joined_230 (by decide) ?_
        exact r_iret X M rfl h dX7_joined_231
      · have h := it_f c34 h
        refine lv_iconst (v := 1) X.x X.b dX7_joined_226 (by decide) ?_
        refine lv_goto (tgt := 231) X.x X.b dX7_joined_227 (by decide) ?_
        exact r_iret X M rfl h dX7_joined_231
  have h := it_f c33 h
  by_cases c36 : x0 = 50
  · have h := it_t c36 h
    refine lv_tableIn (tgt := 218) X.x X.b dX7_joined_1 (by rw [c36]; decide) (by rw [c36]; decide) (by first | (rw [c36]; done) | (rw [c36]; rfl)) (by decide) ?_
    refine lv_iload_n X.x X.b dX7_joined_218 rfl (lv_at hl 1 rfl) ?_
    refine lv_if_ne (tgt := 226) X.x X.b dX7_joined_219 (by decide) (fun c38 => ?_) (fun c38 => ?_)
    · have h := it_f c38 h
      refine lv_iconst (v := 1) X.x X.b dX7_joined_226 (by decide) ?_
      refine lv_goto (tgt := 231) X.x X.b dX7_joined_227 (by decide) ?_
      exact r_iret X M rfl h dX7_joined_231
    · have h := it_t c38 h
      refine lv_iload_n X.x X.b dX7_joined_222 rfl (lv_at hl 2 rfl) ?_
      refine lv_if_eq (tgt := 230) X.x X.b dX7_joined_223 (by decide) (fun c37 => ?_) (fun c37 => ?_)
      · have h := it_t c37 h
        refine lv_iconst (v := 0) X.x X.b dX7_joined_230 (by decide) ?_
        exact r_iret X M rfl h dX7_joined_231
      · have h := it_f c37 h
        refine lv_iconst (v := 1) X.x X.b dX7_joined_226 (by decide) ?_
        refine lv_goto (tgt := 231) X.x X.b dX7_joined_227 (by decide) ?_
        exact r_iret X M rfl h dX7_joined_231
  have h := it_f c36 h
  by_cases c39 : x0 = 51
  · have h := it_t c39 h
    refine lv_tableIn (tgt := 218) X.x X.b dX7_joined_1 (by rw [c39]; decide) (by rw [c39]; decide) (by first | (rw [c39]; done) | (rw [c39]; rfl)) (by decide) ?_
    refine lv_iload_n X.x X.b dX7_joined_218 rfl (lv_at hl 1 rfl) ?_
    refine lv_if_ne (tgt := 226) X.x X.b dX7_joined_219 (by decide) (fun c41 => ?_) (fun c41 => ?_)
    · have h := it_f c41 h
      refine lv_iconst (v := 1) X.x X.b dX7_joined_226 (by decide) ?_
      refine lv_goto (tgt := 231) X.x X.b dX7_joined_227 (by decide) ?_
      exact r_iret X M rfl h dX7_joined_231
    · have h := it_t c41 h
      refine lv_iload_n X.x X.b dX7_joined_222 rfl (lv_at hl 2 rfl) ?_
      refine lv_if_eq (tgt := 230) X.x X.b dX7_joined_223 (by decide) (fun c40 => ?_) (fun c40 => ?_)
      · have h := it_t c40 h
        refine lv_iconst (v := 0) X.x X.b dX7_joined_230 (by decide) ?_
        exact r_iret X M rfl h dX7_joined_231
      · have h := it_f c40 h
        refine lv_iconst (v := 1) X.x X.b dX7_joined_226 (by decide) ?_
        refine lv_goto (tgt := 231) X.x X.b dX7_joined_227 (by decide) ?_
        exact r_iret X M rfl h dX7_joined_231
  have h := it_f c39 h
  by_cases c42 : x0 = 52
  · have h := it_t c42 h
    refine lv_tableIn (tgt := 218) X.x X.b dX7_joined_1 (by rw [c42]; decide) (by rw [c42]; decide) (by first | (rw [c42]; done) | (rw [c42]; rfl)) (by decide) ?_
    refine lv_iload_n X.x X.b dX7_joined_218 rfl (lv_at hl 1 rfl) ?_
    refine lv_if_ne (tgt := 226) X.x X.b dX7_joined_219 (by decide) (fun c44 => ?_) (fun c44 => ?_)
    · have h := it_f c44 h
      refine lv_iconst (v := 1) X.x X.b dX7_joined_226 (by decide) ?_
      refine lv_goto (tgt := 231) X.x X.b dX7_joined_227 (by decide) ?_
      exact r_iret X M rfl h dX7_joined_231
    · have h := it_t c44 h
      refine lv_iload_n X.x X.b dX7_joined_222 rfl (lv_at hl 2 rfl) ?_
      refine lv_if_eq (tgt := 230) X.x X.b dX7_joined_223 (by decide) (fun c43 => ?_) (fun c43 => ?_)
      · have h := it_t c43 h
        refine lv_iconst (v := 0) X.x X.b dX7_joined_230 (by decide) ?_
        exact r_iret X M rfl h dX7_joined_231
      · have h := it_f c43 h
        refine lv_iconst (v := 1) X.x X.b dX7_joined_226 (by decide) ?_
        refine lv_goto (tgt := 231) X.x X.b dX7_joined_227 (by decide) ?_
        exact r_iret X M rfl h dX7_joined_231
  have h := it_f c42 h
  by_cases c45 : x0 = 53
  · have h := it_t c45 h
    refine lv_tableIn (tgt := 218) X.x X.b dX7_joined_1 (by rw [c45]; decide) (by rw [c45]; decide) (by first | (rw [c45]; done) | (rw [c45]; rfl)) (by decide) ?_
    refine lv_iload_n X.x X.b dX7_joined_218 rfl (lv_at hl 1 rfl) ?_
    refine lv_if_ne (tgt := 226) X.x X.b dX7_joined_219 (by decide) (fun c47 => ?_) (fun c47 => ?_)
    · have h := it_f c47 h
      refine lv_iconst (v := 1) X.x X.b dX7_joined_226 (by decide) ?_
      refine lv_goto (tgt := 231) X.x X.b dX7_joined_227 (by decide) ?_
      exact r_iret X M rfl h dX7_joined_231
    · have h := it_t c47 h
      refine lv_iload_n X.x X.b dX7_joined_222 rfl (lv_at hl 2 rfl) ?_
      refine lv_if_eq (tgt := 230) X.x X.b dX7_joined_223 (by decide) (fun c46 => ?_) (fun c46 => ?_)
      · have h := it_t c46 h
        refine lv_iconst (v := 0) X.x X.b dX7_joined_230 (by decide) ?_
        exact r_iret X M rfl h dX7_joined_231
      · have h := it_f c46 h
        refine lv_iconst (v := 1) X.x X.b dX7_joined_226 (by decide) ?_
        refine lv_goto (tgt := 231) X.x X.b dX7_joined_227 (by decide) ?_
        exact r_iret X M rfl h dX7_joined_231
  have h := it_f c45 h
  by_cases c48 : x0 = 54
  · have h := it_t c48 h
    refine lv_tableIn (tgt := 218) X.x X.b dX7_joined_1 (by rw [c48]; decide) (by rw [c48]; decide) (by first | (rw [c48]; done) | (rw [c48]; rfl)) (by decide) ?_
    refine lv_iload_n X.x X.b dX7_joined_218 rfl (lv_at hl 1 rfl) ?_
    refine lv_if_ne (tgt := 226) X.x X.b dX7_joined_219 (by decide) (fun c50 => ?_) (fun c50 => ?_)
    · have h := it_f c50 h
      refine lv_iconst (v := 1) X.x X.b dX7_joined_226 (by decide) ?_
      refine lv_goto (tgt := 231) X.x X.b dX7_joined_227 (by decide) ?_
      exact r_iret X M rfl h dX7_joined_231
    · have h := it_t c50 h
      refine lv_iload_n X.x X.b dX7_joined_222 rfl (lv_at hl 2 rfl) ?_
      refine lv_if_eq (tgt := 230) X.x X.b dX7_joined_223 (by decide) (fun c49 => ?_) (fun c49 => ?_)
      · have h := it_t c49 h
        refine lv_iconst (v := 0) X.x X.b dX7_joined_230 (by decide) ?_
        exact r_iret X M rfl h dX7_joined_231
      · have h := it_f c49 h
        refine lv_iconst (v := 1) X.x X.b dX7_joined_226 (by decide) ?_
        refine lv_goto (tgt := 231) X.x X.b dX7_joined_227 (by decide) ?_
        exact r_iret X M rfl h dX7_joined_231
  have h := it_f c48 h
  by_cases c51 : x0 = 55
  · have h := it_t c51 h
    refine lv_tableIn (tgt := 218) X.x X.b dX7_joined_1 (by rw [c51]; decide) (by rw [c51]; decide) (by first | (rw [c51]; done) | (rw [c51]; rfl)) (by decide) ?_
    refine lv_iload_n X.x X.b dX7_joined_218 rfl (lv_at hl 1 rfl) ?_
    refine lv_if_ne (tgt := 226) X.x X.b dX7_joined_219 (by decide) (fun c53 => ?_) (fun c53 => ?_)
    · have h := it_f c53 h
      refine lv_iconst (v := 1) X.x X.b dX7_joined_226 (by decide) ?_
      refine lv_goto (tgt := 231) X.x X.b dX7_joined_227 (by decide) ?_
      exact r_iret X M rfl h dX7_joined_231
    · have h := it_t c53 h
      refine lv_iload_n X.x X.b dX7_joined_222 rfl (lv_at hl 2 rfl) ?_
      refine lv_if_eq (tgt := 230) X.x X.b dX7_joined_223 (by decide) (fun c52 => ?_) (fun c52 => ?_)
      · have h := it_t c52 h
        refine lv_iconst (v := 0) X.x X.b dX7_joined_230 (by decide) ?_
        exact r_iret X M rfl h dX7_joined_231
      · have h := it_f c52 h
        refine lv_iconst (v := 1) X.x X.b dX7_joined_226 (by decide) ?_
        refine lv_goto (tgt := 231) X.x X.b dX7_joined_227 (by decide) ?_
        exact r_iret X M rfl h dX7_joined_231
  have h := it_f c51 h
  by_cases c54 : x0 = 56
  · have h := it_t c54 h
    refine lv_tableIn (tgt := 218) X.x X.b dX7_joined_1 (by rw [c54]; decide) (by rw [c54]; decide) (by first | (rw [c54]; done) | (rw [c54]; rfl)) (by decide) ?_
    refine lv_iload_n X.x X.b dX7_joined_218 rfl (lv_at hl 1 rfl) ?_
    refine lv_if_ne (tgt := 226) X.x X.b dX7_joined_219 (by decide) (fun c56 => ?_) (fun c56 => ?_)
    · have h := it_f c56 h
      refine lv_iconst (v := 1) X.x X.b dX7_joined_226 (by decide) ?_
      refine lv_goto (tgt := 231) X.x X.b dX7_joined_227 (by decide) ?_
      exact r_iret X M rfl h dX7_joined_231
    · have h := it_t c56 h
      refine lv_iload_n X.x X.b dX7_joined_222 rfl (lv_at hl 2 rfl) ?_
      refine lv_if_eq (tgt := 230) X.x X.b dX7_joined_223 (by decide) (fun c55 => ?_) (fun c55 => ?_)
      · have h := it_t c55 h
        refine lv_iconst (v := 0) X.x X.b dX7_joined_230 (by decide) ?_
        exact r_iret X M rfl h dX7_joined_231
      · have h := it_f c55 h
        refine lv_iconst (v := 1) X.x X.b dX7_joined_226 (by decide) ?_
        refine lv_goto (tgt := 231) X.x X.b dX7_joined_227 (by decide) ?_
        exact r_iret X M rfl h dX7_joined_231
  have h := it_f c54 h
  by_cases c57 : x0 = 57
  · have h := it_t c57 h
    refine lv_tableIn (tgt := 218) X.x X.b dX7_joined_1 (by rw [c57]; decide) (by rw [c57]; decide) (by first | (rw [c57]; done) | (rw [c57]; rfl)) (by decide) ?_
    refine lv_iload_n X.x X.b dX7_joined_218 rfl (lv_at hl 1 rfl) ?_
    refine lv_if_ne (tgt := 226) X.x X.b dX7_joined_219 (by decide) (fun c59 => ?_) (fun c59 => ?_)
    · have h := it_f c59 h
      refine lv_iconst (v := 1) X.x X.b dX7_joined_226 (by decide) ?_
      refine lv_goto (tgt := 231) X.x X.b dX7_joined_227 (by decide) ?_
      exact r_iret X M rfl h dX7_joined_231
    · have h := it_t c59 h
      refine lv_iload_n X.x X.b dX7_joined_222 rfl (lv_at hl 2 rfl) ?_
      refine lv_if_eq (tgt := 230) X.x X.b dX7_joined_223 (by decide) (fun c58 => ?_) (fun c58 => ?_)
      · have h := it_t c58 h
        refine lv_iconst (v := 0) X.x X.b dX7_joined_230 (by decide) ?_
        exact r_iret X M rfl h dX7_joined_231
      · have h := it_f c58 h
        refine lv_iconst (v := 1) X.x X.b dX7_joined_226 (by decide) ?_
        refine lv_goto (tgt := 231) X.x X.b dX7_joined_227 (by decide) ?_
        exact r_iret X M rfl h dX7_joined_231
  have h := it_f c57 h
  by_cases c60 : x0 = 58
  · have h := it_t c60 h
    refine lv_tableIn (tgt := 218) X.x X.b dX7_joined_1 (by rw [c60]; decide) (by rw [c60]; decide) (by first | (rw [c60]; done) | (rw [c60]; rfl)) (by decide) ?_
    refine lv_iload_n X.x X.b dX7_joined_218 rfl (lv_at hl 1 rfl) ?_
    refine lv_if_ne (tgt := 226) X.x X.b dX7_joined_219 (by decide) (fun c62 => ?_) (fun c62 => ?_)
    · have h := it_f c62 h
      refine lv_iconst (v := 1) X.x X.b dX7_joined_226 (by decide) ?_
      refine lv_goto (tgt := 231) X.x X.b dX7_joined_227 (by decide) ?_
      exact r_iret X M rfl h dX7_joined_231
    · have h := it_t c62 h
      refine lv_iload_n X.x X.b dX7_joined_222 rfl (lv_at hl 2 rfl) ?_
      refine lv_if_eq (tgt := 230) X.x X.b dX7_joined_223 (by decide) (fun c61 => ?_) (fun c61 => ?_)
      · have h := it_t c61 h
        refine lv_iconst (v := 0) X.x X.b dX7_joined_230 (by decide) ?_
        exact r_iret X M rfl h dX7_joined_231
      · have h := it_f c61 h
        refine lv_iconst (v := 1) X.x X.b dX7_joined_226 (by decide) ?_
        refine lv_goto (tgt := 231) X.x X.b dX7_joined_227 (by decide) ?_
        exact r_iret X M rfl h dX7_joined_231
  have h := it_f c60 h
  by_cases c63 : x0 = 59
  · have h := it_t c63 h
    refine lv_tableIn (tgt := 218) X.x X.b dX7_joined_1 (by rw [c63]; decide) (by rw [c63]; decide) (by first | (rw [c63]; done) | (rw [c63]; rfl)) (by decide) ?_
    refine lv_iload_n X.x X.b dX7_joined_218 rfl (lv_at hl 1 rfl) ?_
    refine lv_if_ne (tgt := 226) X.x X.b dX7_joined_219 (by decide) (fun c65 => ?_) (fun c65 => ?_)
    · have h := it_f c65 h
      refine lv_iconst (v := 1) X.x X.b dX7_joined_226 (by decide) ?_
      refine lv_goto (tgt := 231) X.x X.b dX7_joined_227 (by decide) ?_
      exact r_iret X M rfl h dX7_joined_231
    · have h := it_t c65 h
      refine lv_iload_n X.x X.b dX7_joined_222 rfl (lv_at hl 2 rfl) ?_
      refine lv_if_eq (tgt := 230) X.x X.b dX7_joined_223 (by decide) (fun c64 => ?_) (fun c64 => ?_)
      · have h := it_t c64 h
        refine lv_iconst (v := 0) X.x X.b dX7_joined_230 (by decide) ?_
        exact r_iret X M rfl h dX7_joined_231
      · have h := it_f c64 h
        refine lv_iconst (v := 1) X.x X.b dX7_joined_226 (by decide) ?_
        refine lv_goto (tgt := 231) X.x X.b dX7_joined_227 (by decide) ?_
        exact r_iret X M rfl h dX7_joined_231
  have h := it_f c63 h
  by_cases c66 : x0 = 60
  · have h := it_t c66 h
    refine lv_tableIn (tgt := 171) X.x X.b dX7_joined_1 (by rw [c66]; decide) (by rw [c66]; decide) (by first | (rw [c66]; done) | (rw [c66]; rfl)) (by decide) ?_
    refine lv_iload_n X.x X.b dX7_joined_171 rfl (lv_at hl 1 rfl) ?_
    refine lv_iload_n X.x X.b dX7_joined_172 rfl (lv_at hl 2 rfl) ?_
    refine lv_icmp_ge (tgt := 180) X.x X.b dX7_joined_173 (by decide) (fun c67 => ?_) (fun c67 => ?_)
    · have h := it_t c67 h
      refine lv_iconst (v := 0) X.x X.b dX7_joined_180 (by decide) ?_
      exact r_iret X M rfl h dX7_joined_181
    · have h := it_f c67 h
      refine lv_iconst (v := 1) X.x X.b dX7_joined_176 (by decide) ?_
      refine lv_goto (tgt := 181) X.x X.b dX7_joined_177 (by decide) ?_
      exact r_iret X M rfl h dX7_joined_181
  have h := it_f c66 h
  by_cases c68 : x0 = 61
  · have h := it_t c68 h
    refine lv_tableIn (tgt := 193) X.x X.b dX7_joined_1 (by rw [c68]; decide) (by rw [c68]; decide) (by first | (rw [c68]; done) | (rw [c68]; rfl)) (by decide) ?_
    refine lv_iload_n X.x X.b dX7_joined_193 rfl (lv_at hl 1 rfl) ?_
    refine lv_iload_n X.x X.b dX7_joined_194 rfl (lv_at hl 2 rfl) ?_
    refine lv_icmp_ne (tgt := 202) X.x X.b dX7_joined_195 (by decide) (fun c69 => ?_) (fun c69 => ?_)
    · have h := it_f c69 h
      refine lv_iconst (v := 0) X.x X.b dX7_joined_202 (by decide) ?_
      exact r_iret X M rfl h dX7_joined_203
    · have h := it_t c69 h
      refine lv_iconst (v := 1) X.x X.b dX7_joined_198 (by decide) ?_
      refine lv_goto (tgt := 203) X.x X.b dX7_joined_199 (by decide) ?_
      exact r_iret X M rfl h dX7_joined_203
  have h := it_f c68 h
  by_cases c70 : x0 = 62
  · have h := it_t c70 h
    refine lv_tableIn (tgt := 182) X.x X.b dX7_joined_1 (by rw [c70]; decide) (by rw [c70]; decide) (by first | (rw [c70]; done) | (rw [c70]; rfl)) (by decide) ?_
    refine lv_iload_n X.x X.b dX7_joined_182 rfl (lv_at hl 1 rfl) ?_
    refine lv_iload_n X.x X.b dX7_joined_183 rfl (lv_at hl 2 rfl) ?_
    refine lv_icmp_le (tgt := 191) X.x X.b dX7_joined_184 (by decide) (fun c71 => ?_) (fun c71 => ?_)
    · have h := it_t c71 h
      refine lv_iconst (v := 0) X.x X.b dX7_joined_191 (by decide) ?_
      exact r_iret X M rfl h dX7_joined_192
    · have h := it_f c71 h
      refine lv_iconst (v := 1) X.x X.b dX7_joined_187 (by decide) ?_
      refine lv_goto (tgt := 192) X.x X.b dX7_joined_188 (by decide) ?_
      exact r_iret X M rfl h dX7_joined_192
  have h := it_f c70 h
  have c1z := lv_neT c1 (show (37 : Int32).toInt = 37 by decide)
  have c5z := lv_neT c5 (show (38 : Int32).toInt = 38 by decide)
  have c8z := lv_neT c8 (show (39 : Int32).toInt = 39 by decide)
  have c11z := lv_neT c11 (show (40 : Int32).toInt = 40 by decide)
  have c14z := lv_neT c14 (show (41 : Int32).toInt = 41 by decide)
  have c17z := lv_neT c17 (show (42 : Int32).toInt = 42 by decide)
  have c18z := lv_neT c18 (show (43 : Int32).toInt = 43 by decide)
  have c19z := lv_neT c19 (show (44 : Int32).toInt = 44 by decide)
  have c22z := lv_neT c22 (show (45 : Int32).toInt = 45 by decide)
  have c23z := lv_neT c23 (show (46 : Int32).toInt = 46 by decide)
  have c26z := lv_neT c26 (show (47 : Int32).toInt = 47 by decide)
  have c30z := lv_neT c30 (show (48 : Int32).toInt = 48 by decide)
  have c33z := lv_neT c33 (show (49 : Int32).toInt = 49 by decide)
  have c36z := lv_neT c36 (show (50 : Int32).toInt = 50 by decide)
  have c39z := lv_neT c39 (show (51 : Int32).toInt = 51 by decide)
  have c42z := lv_neT c42 (show (52 : Int32).toInt = 52 by decide)
  have c45z := lv_neT c45 (show (53 : Int32).toInt = 53 by decide)
  have c48z := lv_neT c48 (show (54 : Int32).toInt = 54 by decide)
  have c51z := lv_neT c51 (show (55 : Int32).toInt = 55 by decide)
  have c54z := lv_neT c54 (show (56 : Int32).toInt = 56 by decide)
  have c57z := lv_neT c57 (show (57 : Int32).toInt = 57 by decide)
  have c60z := lv_neT c60 (show (58 : Int32).toInt = 58 by decide)
  have c63z := lv_neT c63 (show (59 : Int32).toInt = 59 by decide)
  have c66z := lv_neT c66 (show (60 : Int32).toInt = 60 by decide)
  have c68z := lv_neT c68 (show (61 : Int32).toInt = 61 by decide)
  have c70z := lv_neT c70 (show (62 : Int32).toInt = 62 by decide)
  refine lv_tableOut (tgt := 218) X.x X.b dX7_joined_1 (by omega) (by decide) ?_
  refine lv_iload_n X.x X.b dX7_joined_218 rfl (lv_at hl 1 rfl) ?_
  refine lv_if_ne (tgt := 226) X.x X.b dX7_joined_219 (by decide) (fun c73 => ?_) (fun c73 => ?_)
  · have h := it_f c73 h
    refine lv_iconst (v := 1) X.x X.b dX7_joined_226 (by decide) ?_
    refine lv_goto (tgt := 231) X.x X.b dX7_joined_227 (by decide) ?_
    exact r_iret X M rfl h dX7_joined_231
  · have h := it_t c73 h
    refine lv_iload_n X.x X.b dX7_joined_222 rfl (lv_at hl 2 rfl) ?_
    refine lv_if_eq (tgt := 230) X.x X.b dX7_joined_223 (by decide) (fun c72 => ?_) (fun c72 => ?_)
    · have h := it_t c72 h
      refine lv_iconst (v := 0) X.x X.b dX7_joined_230 (by decide) ?_
      exact r_iret X M rfl h dX7_joined_231
    · have h := it_f c72 h
      refine lv_iconst (v := 1) X.x X.b dX7_joined_226 (by decide) ?_
      refine lv_goto (tgt := 231) X.x X.b dX7_joined_227 (by decide) ?_
      exact r_iret X M rfl h dX7_joined_231
def f_X7_worked_b65 (k13 : (Int32 → Int32 → Int32 → St → Rs)) (x2 : Int32) (x3 : Int32) (x4 : Int32) (x5 : Int32) (x6 : Int32) (σ : St) : Rs :=
  if x5 = 0 then (
    if inb x3 64 then (
    ol (st σ 72 x3.toNatClampNeg x6) fun σ5 => (
    k13 x2 (x3 + 1) (x4 + 1) σ5)) else none
  ) else (
    if inb x6 128 then (
    if inb x3 64 then (
    ol (st σ 72 x3.toNatClampNeg (σ 71 x6.toNatClampNeg)) fun σ3 => (
    k13 x2 (x3 + 1) (x4 + 1) σ3)) else none) else none
  )
set_option maxRecDepth 100000 in
set_option maxHeartbeats 4000000 in
theorem u_X7_worked_b65 {l : Launch} {Γ : Gm} {p : Program} {e : Env} {s : State} {m : MethodId} {args : Array Value} {below : List Frame} {meth : Method} {c : Code} {r : Int32} {σ' : St} {k13 : Int32 → Int32 → Int32 → St → Rs} (X : Cx p s m args meth c cX7_worked RX7 7 (some .int) Γ) (H13 : ∀ (x2 : Int32) (x3 : Int32) (x4 : Int32) (σ : St) (H : Heap) (locs : List Loc) (ls : Array Slot), k13 x2 x3 x4 σ = some (r, σ') → Mv Γ σ s H locs → lv_has ls 7 [(0, .ref (Γ.1 66)), (2, .int x2), (3, .int x3), (4, .int x4)] → W p l e (rmd 2) s m args below meth c H locs 0 0 (MQ below (Qi Γ r σ' s.heap.size) args s 0 0 (Rg Γ s.heap.size)) (F0 m 13 ls [])) (x2 : Int32) (x3 : Int32) (x4 : Int32) (x5 : Int32) (x6 : Int32) (σ : St) (H : Heap) (locs : List Loc) (ls : Array Slot) (h : f_X7_worked_b65 k13 x2 x3 x4 x5 x6 σ = some (r, σ')) (M : Mv Γ σ s H locs) (hl : lv_has ls 7 [(0, .ref (Γ.1 66)), (2, .int x2), (3, .int x3), (4, .int x4), (5, .int x5), (6, .int x6)]) : W p l e (rmd 2) s m args below meth c H locs 0 0 (MQ below (Qi Γ r σ' s.heap.size) args s 0 0 (Rg Γ s.heap.size)) (F0 m 65 ls []) := by
  unfold f_X7_worked_b65 at h
  refine lv_aload_n X.x X.b dX7_worked_65 rfl (lv_at hl 0 rfl) ?_
  refine r_get X M hq_66 (el_66 _ _) rfl inX7 10 (by decide) q738 rfl rfl dX7_worked_66 ?_
  refine lv_iload_n X.x X.b dX7_worked_69 rfl (lv_at hl 2 rfl) ?_
  refine lv_iload X.x X.b dX7_worked_70 (lv_at hl 4 rfl) ?_
  refine lv_if_ne (tgt := 80) X.x X.b dX7_worked_72 (by decide) (fun c6 => ?_) (fun c6 => ?_)
  · have h := it_f c6 h
    refine lv_aload_n X.x X.b dX7_worked_80 rfl (lv_at hl 0 rfl) ?_
    refine r_get X M hq_66 (el_66 _ _) rfl inX7 9 (by decide) q737 rfl rfl dX7_worked_81 ?_
    refine lv_iload X.x X.b dX7_worked_84 (lv_at hl 5 rfl) ?_
    obtain ⟨c1, h⟩ := it_n h
    refine r_iald (q := 71) (n := 128) X M rfl c1 dX7_worked_86 ?_
    obtain ⟨c2, h⟩ := it_n h
    obtain ⟨σ3, e3, h⟩ := ol_e h
    refine r_iast (q := 72) (n := 64) X M rfl c2 dX7_worked_87 (fun H locs M => ?_)
    rw [← e3] at M
    refine lv_iinc (v := (x3 + 1)) (lv' := [(3, .int (x3 + 1)), (0, .ref (Γ.1 66)), (2, .int x2), (4, .int x4), (5, .int x5), (6, .int x6)]) X.x X.b dX7_worked_88 hl (k := 2) rfl rfl (by decide) rfl (fun ls hl => ?_)
    refine lv_goto (tgt := 157) X.x X.b dX7_worked_91 (by decide) ?_
    refine lv_iinc (v := (x4 + 1)) (lv' := [(4, .int (x4 + 1)), (3, .int (x3 + 1)), (0, .ref (Γ.1 66)), (2, .int x2), (5, .int x5), (6, .int x6)]) X.x X.b dX7_worked_157 hl (k := 3) rfl rfl (by decide) rfl (fun ls hl => ?_)
    refine lv_goto (tgt := 13) X.x X.b dX7_worked_160 (by decide) ?_
    exact H13 x2 (x3 + 1) (x4 + 1) σ3 _ _ _ h M (lv_sub hl [2, 3, 1, 0] rfl)
  · have h := it_t c6 h
    refine lv_iload X.x X.b dX7_worked_75 (lv_at hl 5 rfl) ?_
    refine lv_goto (tgt := 87) X.x X.b dX7_worked_77 (by decide) ?_
    obtain ⟨c4, h⟩ := it_n h
    obtain ⟨σ5, e5, h⟩ := ol_e h
    refine r_iast (q := 72) (n := 64) X M rfl c4 dX7_worked_87 (fun H locs M => ?_)
    rw [← e5] at M
    refine lv_iinc (v := (x3 + 1)) (lv' := [(3, .int (x3 + 1)), (0, .ref (Γ.1 66)), (2, .int x2), (4, .int x4), (5, .int x5), (6, .int x6)]) X.x X.b dX7_worked_88 hl (k := 2) rfl rfl (by decide) rfl (fun ls hl => ?_)
    refine lv_goto (tgt := 157) X.x X.b dX7_worked_91 (by decide) ?_
    refine lv_iinc (v := (x4 + 1)) (lv' := [(4, .int (x4 + 1)), (3, .int (x3 + 1)), (0, .ref (Γ.1 66)), (2, .int x2), (5, .int x5), (6, .int x6)]) X.x X.b dX7_worked_157 hl (k := 3) rfl rfl (by decide) rfl (fun ls hl => ?_)
    refine lv_goto (tgt := 13) X.x X.b dX7_worked_160 (by decide) ?_
    exact H13 x2 (x3 + 1) (x4 + 1) σ5 _ _ _ h M (lv_sub hl [2, 3, 1, 0] rfl)
def f_X7_worked_b13 (k13 : (Int32 → Int32 → Int32 → St → Rs)) (x2 : Int32) (x3 : Int32) (x4 : Int32) (σ : St) : Rs :=
  if inb x2 382 then (
  if (σ 67 x2.toNatClampNeg) ≤ x4 then (
    if inb 0 64 then (
    some ((σ 72 (0 : Int32).toNatClampNeg), σ)) else none
  ) else (
    if inb ((x2 + 1) + (2 * x4)) 382 then (
    if inb ((x2 + 2) + (2 * x4)) 382 then (
    if (σ 67 ((x2 + 1) + (2 * x4)).toNatClampNeg) = 0 then (
      f_X7_worked_b65 k13 x2 x3 x4 (σ 67 ((x2 + 1) + (2 * x4)).toNatClampNeg) (σ 67 ((x2 + 2) + (2 * x4)).toNatClampNeg) σ
    ) else (
      if (σ 67 ((x2 + 1) + (2 * x4)).toNatClampNeg) = 1 then (
        f_X7_worked_b65 k13 x2 x3 x4 (σ 67 ((x2 + 1) + (2 * x4)).toNatClampNeg) (σ 67 ((x2 + 2) + (2 * x4)).toNatClampNeg) σ
      ) else (
        if (σ 67 ((x2 + 1) + (2 * x4)).toNatClampNeg) = 2 then (
          if inb (x3 - 1) 64 then (
          if (σ 72 (x3 - 1).toNatClampNeg) = 0 then (
            if inb (x3 - 1) 64 then (
            ol (st σ 72 (x3 - 1).toNatClampNeg 1) fun σ14 => (
            k13 x2 x3 (x4 + 1) σ14)) else none
          ) else (
            if inb (x3 - 1) 64 then (
            ol (st σ 72 (x3 - 1).toNatClampNeg 0) fun σ12 => (
            k13 x2 x3 (x4 + 1) σ12)) else none
          )) else none
        ) else (
          if inb ((x3 + (-1)) - 1) 64 then (
          if inb (x3 + (-1)) 64 then (
          ob (f_X7_joined (σ 67 ((x2 + 2) + (2 * x4)).toNatClampNeg) (σ 72 ((x3 + (-1)) - 1).toNatClampNeg) (σ 72 (x3 + (-1)).toNatClampNeg) σ) fun r7 σ7 => (
          if inb ((x3 + (-1)) - 1) 64 then (
          ol (st σ7 72 ((x3 + (-1)) - 1).toNatClampNeg r7) fun σ9 => (
          k13 x2 (x3 + (-1)) (x4 + 1) σ9)) else none)) else none) else none
        )
      )
    )) else none) else none
  )) else none
set_option maxRecDepth 100000 in
set_option maxHeartbeats 4000000 in
theorem u_X7_worked_b13 {l : Launch} {Γ : Gm} {p : Program} {e : Env} {s : State} {m : MethodId} {args : Array Value} {below : List Frame} {meth : Method} {c : Code} {r : Int32} {σ' : St} {k13 : Int32 → Int32 → Int32 → St → Rs} (X : Cx p s m args meth c cX7_worked RX7 7 (some .int) Γ) (H13 : ∀ (x2 : Int32) (x3 : Int32) (x4 : Int32) (σ : St) (H : Heap) (locs : List Loc) (ls : Array Slot), k13 x2 x3 x4 σ = some (r, σ') → Mv Γ σ s H locs → lv_has ls 7 [(0, .ref (Γ.1 66)), (2, .int x2), (3, .int x3), (4, .int x4)] → W p l e (rmd 2) s m args below meth c H locs 0 0 (MQ below (Qi Γ r σ' s.heap.size) args s 0 0 (Rg Γ s.heap.size)) (F0 m 13 ls [])) (x2 : Int32) (x3 : Int32) (x4 : Int32) (σ : St) (H : Heap) (locs : List Loc) (ls : Array Slot) (h : f_X7_worked_b13 k13 x2 x3 x4 σ = some (r, σ')) (M : Mv Γ σ s H locs) (hl : lv_has ls 7 [(0, .ref (Γ.1 66)), (2, .int x2), (3, .int x3), (4, .int x4)]) : W p l e (rmd 2) s m args below meth c H locs 0 0 (MQ below (Qi Γ r σ' s.heap.size) args s 0 0 (Rg Γ s.heap.size)) (F0 m 13 ls []) := by
  unfold f_X7_worked_b13 at h
  refine lv_iload X.x X.b dX7_worked_13 (lv_at hl 3 rfl) ?_
  refine lv_aload_n X.x X.b dX7_worked_15 rfl (lv_at hl 0 rfl) ?_
  refine r_get X M hq_66 (el_66 _ _) rfl inX7 0 (by decide) q728 rfl rfl dX7_worked_16 ?_
  refine lv_iload_n X.x X.b dX7_worked_19 rfl (lv_at hl 1 rfl) ?_
  obtain ⟨c1, h⟩ := it_n h
  refine r_iald (q := 67) (n := 382) X M rfl c1 dX7_worked_20 ?_
  refine lv_icmp_ge (tgt := 163) X.x X.b dX7_worked_21 (by decide) (fun c19 => ?_) (fun c19 => ?_)
  · have h := it_t c19 h
    refine lv_aload_n X.x X.b dX7_worked_163 rfl (lv_at hl 0 rfl) ?_
    refine r_get X M hq_66 (el_66 _ _) rfl inX7 10 (by decide) q738 rfl rfl dX7_worked_164 ?_
    refine lv_iconst (v := 0) X.x X.b dX7_worked_167 (by decide) ?_
    obtain ⟨c2, h⟩ := it_n h
    refine r_iald (q := 72) (n := 64) X M rfl c2 dX7_worked_168 ?_
    exact r_iret X M rfl h dX7_worked_169
  · have h := it_f c19 h
    refine lv_aload_n X.x X.b dX7_worked_24 rfl (lv_at hl 0 rfl) ?_
    refine r_get X M hq_66 (el_66 _ _) rfl inX7 0 (by decide) q728 rfl rfl dX7_worked_25 ?_
    refine lv_iload_n X.x X.b dX7_worked_28 rfl (lv_at hl 1 rfl) ?_
    refine lv_iconst (v := 1) X.x X.b dX7_worked_29 (by decide) ?_
    refine lv_iadd X.x X.b dX7_worked_30 ?_
    refine lv_iconst (v := 2) X.x X.b dX7_worked_31 (by decide) ?_
    refine lv_iload X.x X.b dX7_worked_32 (lv_at hl 3 rfl) ?_
    refine lv_imul X.x X.b dX7_worked_34 ?_
    refine lv_iadd X.x X.b dX7_worked_35 ?_
    obtain ⟨c3, h⟩ := it_n h
    refine r_iald (q := 67) (n := 382) X M rfl c3 dX7_worked_36 ?_
    refine lv_istore (lv' := [(5, .int (σ 67 ((x2 + 1) + (2 * x4)).toNatClampNeg)), (0, .ref (Γ.1 66)), (2, .int x2), (3, .int x3), (4, .int x4)]) X.x X.b dX7_worked_37 hl (by decide) rfl (fun ls hl => ?_)
    refine lv_aload_n X.x X.b dX7_worked_39 rfl (lv_at hl 1 rfl) ?_
    refine r_get X M hq_66 (el_66 _ _) rfl inX7 0 (by decide) q728 rfl rfl dX7_worked_40 ?_
    refine lv_iload_n X.x X.b dX7_worked_43 rfl (lv_at hl 2 rfl) ?_
    refine lv_iconst (v := 2) X.x X.b dX7_worked_44 (by decide) ?_
    refine lv_iadd X.x X.b dX7_worked_45 ?_
    refine lv_iconst (v := 2) X.x X.b dX7_worked_46 (by decide) ?_
    refine lv_iload X.x X.b dX7_worked_47 (lv_at hl 4 rfl) ?_
    refine lv_imul X.x X.b dX7_worked_49 ?_
    refine lv_iadd X.x X.b dX7_worked_50 ?_
    obtain ⟨c4, h⟩ := it_n h
    refine r_iald (q := 67) (n := 382) X M rfl c4 dX7_worked_51 ?_
    refine lv_istore (lv' := [(6, .int (σ 67 ((x2 + 2) + (2 * x4)).toNatClampNeg)), (5, .int (σ 67 ((x2 + 1) + (2 * x4)).toNatClampNeg)), (0, .ref (Γ.1 66)), (2, .int x2), (3, .int x3), (4, .int x4)]) X.x X.b dX7_worked_52 hl (by decide) rfl (fun ls hl => ?_)
    refine lv_iload X.x X.b dX7_worked_54 (lv_at hl 1 rfl) ?_
    refine lv_if_eq (tgt := 65) X.x X.b dX7_worked_56 (by decide) (fun c18 => ?_) (fun c18 => ?_)
    · have h := it_t c18 h
      exact u_X7_worked_b65 X H13 x2 x3 x4 (σ 67 ((x2 + 1) + (2 * x4)).toNatClampNeg) (σ 67 ((x2 + 2) + (2 * x4)).toNatClampNeg) σ _ _ _ h M (lv_sub hl [2, 3, 4, 5, 1, 0] rfl)
    · have h := it_f c18 h
      refine lv_iload X.x X.b dX7_worked_59 (lv_at hl 1 rfl) ?_
      refine lv_iconst (v := 1) X.x X.b dX7_worked_61 (by decide) ?_
      refine lv_icmp_ne (tgt := 94) X.x X.b dX7_worked_62 (by decide) (fun c17 => ?_) (fun c17 => ?_)
      · have h := it_f c17 h
        refine lv_iload X.x X.b dX7_worked_94 (lv_at hl 1 rfl) ?_
        refine lv_iconst (v := 2) X.x X.b dX7_worked_96 (by decide) ?_
        refine lv_icmp_ne (tgt := 127) X.x X.b dX7_worked_97 (by decide) (fun c16 => ?_) (fun c16 => ?_)
        · have h := it_f c16 h
          refine lv_iinc (v := (x3 + (-1))) (lv' := [(3, .int (x3 + (-1))), (6, .int (σ 67 ((x2 + 2) + (2 * x4)).toNatClampNeg)), (5, .int (σ 67 ((x2 + 1) + (2 * x4)).toNatClampNeg)), (0, .ref (Γ.1 66)), (2, .int x2), (4, .int x4)]) X.x X.b dX7_worked_127 hl (k := 4) rfl rfl (by decide) rfl (fun ls hl => ?_)
          refine lv_aload_n X.x X.b dX7_worked_130 rfl (lv_at hl 3 rfl) ?_
          refine r_get X M hq_66 (el_66 _ _) rfl inX7 10 (by decide) q738 rfl rfl dX7_worked_131 ?_
          refine lv_iload_n X.x X.b dX7_worked_134 rfl (lv_at hl 0 rfl) ?_
          refine lv_iconst (v := 1) X.x X.b dX7_worked_135 (by decide) ?_
          refine lv_isub X.x X.b dX7_worked_136 ?_
          refine lv_iload X.x X.b dX7_worked_137 (lv_at hl 1 rfl) ?_
          refine lv_aload_n X.x X.b dX7_worked_139 rfl (lv_at hl 3 rfl) ?_
          refine r_get X M hq_66 (el_66 _ _) rfl inX7 10 (by decide) q738 rfl rfl dX7_worked_140 ?_
          refine lv_iload_n X.x X.b dX7_worked_143 rfl (lv_at hl 0 rfl) ?_
          refine lv_iconst (v := 1) X.x X.b dX7_worked_144 (by decide) ?_
          refine lv_isub X.x X.b dX7_worked_145 ?_
          obtain ⟨c5, h⟩ := it_n h
          refine r_iald (q := 72) (n := 64) X M rfl c5 dX7_worked_146 ?_
          refine lv_aload_n X.x X.b dX7_worked_147 rfl (lv_at hl 3 rfl) ?_
          refine r_get X M hq_66 (el_66 _ _) rfl inX7 10 (by decide) q738 rfl rfl dX7_worked_148 ?_
          refine lv_iload_n X.x X.b dX7_worked_151 rfl (lv_at hl 0 rfl) ?_
          obtain ⟨c6, h⟩ := it_n h
          refine r_iald (q := 72) (n := 64) X M rfl c6 dX7_worked_152 ?_
          obtain ⟨r7, σ7, h7, h⟩ := ob_e h
          refine r_runI M (r_callS (As := [.int (σ 67 ((x2 + 2) + (2 * x4)).toNatClampNeg), .int (σ 72 ((x3 + (-1)) - 1).toNatClampNeg), .int (σ 72 (x3 + (-1)).toNatClampNeg)]) X M (lv_sub hl [] rfl) (T_X7_joined h7 _) cal_X7_joined q906 ⟨by decide, by decide⟩ rfl rfl (Nat.le_of_ble_eq_true rfl) ⟨Nat.le_refl _, Nat.le_refl _⟩ dX7_worked_153) (fun H locs M => ?_)
          clear h7
          obtain ⟨c8, h⟩ := it_n h
          obtain ⟨σ9, e9, h⟩ := ol_e h
          refine r_iast (q := 72) (n := 64) X M rfl c8 dX7_worked_156 (fun H locs M => ?_)
          rw [← e9] at M
          refine lv_iinc (v := (x4 + 1)) (lv' := [(4, .int (x4 + 1)), (3, .int (x3 + (-1))), (6, .int (σ 67 ((x2 + 2) + (2 * x4)).toNatClampNeg)), (5, .int (σ 67 ((x2 + 1) + (2 * x4)).toNatClampNeg)), (0, .ref (Γ.1 66)), (2, .int x2)]) X.x X.b dX7_worked_157 hl (k := 5) rfl rfl (by decide) rfl (fun ls hl => ?_)
          refine lv_goto (tgt := 13) X.x X.b dX7_worked_160 (by decide) ?_
          exact H13 x2 (x3 + (-1)) (x4 + 1) σ9 _ _ _ h M (lv_sub hl [4, 5, 1, 0] rfl)
        · have h := it_t c16 h
          refine lv_aload_n X.x X.b dX7_worked_100 rfl (lv_at hl 2 rfl) ?_
          refine r_get X M hq_66 (el_66 _ _) rfl inX7 10 (by decide) q738 rfl rfl dX7_worked_101 ?_
          refine lv_iload_n X.x X.b dX7_worked_104 rfl (lv_at hl 4 rfl) ?_
          refine lv_iconst (v := 1) X.x X.b dX7_worked_105 (by decide) ?_
          refine lv_isub X.x X.b dX7_worked_106 ?_
          refine lv_aload_n X.x X.b dX7_worked_107 rfl (lv_at hl 2 rfl) ?_
          refine r_get X M hq_66 (el_66 _ _) rfl inX7 10 (by decide) q738 rfl rfl dX7_worked_108 ?_
          refine lv_iload_n X.x X.b dX7_worked_111 rfl (lv_at hl 4 rfl) ?_
          refine lv_iconst (v := 1) X.x X.b dX7_worked_112 (by decide) ?_
          refine lv_isub X.x X.b dX7_worked_113 ?_
          obtain ⟨c10, h⟩ := it_n h
          refine r_iald (q := 72) (n := 64) X M rfl c10 dX7_worked_114 ?_
          refine lv_if_ne (tgt := 122) X.x X.b dX7_worked_115 (by decide) (fun c15 => ?_) (fun c15 => ?_)
          · have h := it_f c15 h
            refine lv_iconst (v := 0) X.x X.b dX7_worked_122 (by decide) ?_
            obtain ⟨c11, h⟩ := it_n h
            obtain ⟨σ12, e12, h⟩ := ol_e h
            refine r_iast (q := 72) (n := 64) X M rfl c11 dX7_worked_123 (fun H locs M => ?_)
            rw [← e12] at M
            refine lv_goto (tgt := 157) X.x X.b dX7_worked_124 (by decide) ?_
            refine lv_iinc (v := (x4 + 1)) (lv' := [(4, .int (x4 + 1)), (6, .int (σ 67 ((x2 + 2) + (2 * x4)).toNatClampNeg)), (5, .int (σ 67 ((x2 + 1) + (2 * x4)).toNatClampNeg)), (0, .ref (Γ.1 66)), (2, .int x2), (3, .int x3)]) X.x X.b dX7_worked_157 hl (k := 5) rfl rfl (by decide) rfl (fun ls hl => ?_)
            refine lv_goto (tgt := 13) X.x X.b dX7_worked_160 (by decide) ?_
            exact H13 x2 x3 (x4 + 1) σ12 _ _ _ h M (lv_sub hl [3, 4, 5, 0] rfl)
          · have h := it_t c15 h
            refine lv_iconst (v := 1) X.x X.b dX7_worked_118 (by decide) ?_
            refine lv_goto (tgt := 123) X.x X.b dX7_worked_119 (by decide) ?_
            obtain ⟨c13, h⟩ := it_n h
            obtain ⟨σ14, e14, h⟩ := ol_e h
            refine r_iast (q := 72) (n := 64) X M rfl c13 dX7_worked_123 (fun H locs M => ?_)
            rw [← e14] at M
            refine lv_goto (tgt := 157) X.x X.b dX7_worked_124 (by decide) ?_
            refine lv_iinc (v := (x4 + 1)) (lv' := [(4, .int (x4 + 1)), (6, .int (σ 67 ((x2 + 2) + (2 * x4)).toNatClampNeg)), (5, .int (σ 67 ((x2 + 1) + (2 * x4)).toNatClampNeg)), (0, .ref (Γ.1 66)), (2, .int x2), (3, .int x3)]) X.x X.b dX7_worked_157 hl (k := 5) rfl rfl (by decide) rfl (fun ls hl => ?_)
            refine lv_goto (tgt := 13) X.x X.b dX7_worked_160 (by decide) ?_
            exact H13 x2 x3 (x4 + 1) σ14 _ _ _ h M (lv_sub hl [3, 4, 5, 0] rfl)
      · have h := it_t c17 h
        exact u_X7_worked_b65 X H13 x2 x3 x4 (σ 67 ((x2 + 1) + (2 * x4)).toNatClampNeg) (σ 67 ((x2 + 2) + (2 * x4)).toNatClampNeg) σ _ _ _ h M (lv_sub hl [2, 3, 4, 5, 1, 0] rfl)
def f_X7_worked_L13 : Nat → Int32 → Int32 → Int32 → St → Rs
  | 0 => fun _ _ _ _ => none
  | n + 1 => fun x2 x3 x4 σ => f_X7_worked_b13 (f_X7_worked_L13 n) x2 x3 x4 σ
theorem u_X7_worked_L13 {l : Launch} {Γ : Gm} {p : Program} {e : Env} {s : State} {m : MethodId} {args : Array Value} {below : List Frame} {meth : Method} {c : Code} {r : Int32} {σ' : St} (X : Cx p s m args meth c cX7_worked RX7 7 (some .int) Γ) : ∀ (n : Nat) (x2 : Int32) (x3 : Int32) (x4 : Int32) (σ : St) (H : Heap) (locs : List Loc) (ls : Array Slot), f_X7_worked_L13 n x2 x3 x4 σ = some (r, σ') → Mv Γ σ s H locs → lv_has ls 7 [(0, .ref (Γ.1 66)), (2, .int x2), (3, .int x3), (4, .int x4)] → W p l e (rmd 2) s m args below meth c H locs 0 0 (MQ below (Qi Γ r σ' s.heap.size) args s 0 0 (Rg Γ s.heap.size)) (F0 m 13 ls []) := by
  intro n
  induction n with
  | zero => intro x2 x3 x4 σ H locs ls h; cases h
  | succ n ih => intro x2 x3 x4 σ H locs ls h; exact u_X7_worked_b13 X  ih x2 x3 x4 σ H locs ls h
/-- StreetNumbersModel.worked(I)I -/
def f_X7_worked (x1 : Int32) (σ : St) : Rs :=
  f_X7_worked_L13 LF (48 + (125 * x1)) 0 0 σ
set_option maxRecDepth 100000 in
set_option maxHeartbeats 4000000 in
theorem T_X7_worked {l : Launch} {Γ : Gm} {x1 : Int32} {σ : St} {r : Int32} {σ' : St} (h : f_X7_worked x1 σ = some (r, σ')) : MetI l yX7_worked cX7_worked 7 .int 2 Γ σ [.ref (Γ.1 66), .int x1] r σ' := by
  intro sz
  refine met_in (by decide) (Nat.le_of_ble_eq_true rfl) (fun p e s m args below meth c ls X hsz M hl => ?_)
  subst hsz
  have X : Cx p s m args meth c cX7_worked RX7 7 (some .int) Γ := X
  have hl : lv_has ls 7 [(0, .ref (Γ.1 66)), (1, .int x1)] := hl
  unfold f_X7_worked at h
  refine lv_bipush (v := 48) X.x X.b dX7_worked_0 (by decide) ?_
  refine lv_bipush (v := 125) X.x X.b dX7_worked_2 (by decide) ?_
  refine lv_iload_n X.x X.b dX7_worked_4 rfl (lv_at hl 1 rfl) ?_
  refine lv_imul X.x X.b dX7_worked_5 ?_
  refine lv_iadd X.x X.b dX7_worked_6 ?_
  refine lv_istore_n (lv' := [(2, .int (48 + (125 * x1))), (0, .ref (Γ.1 66)), (1, .int x1)]) X.x X.b dX7_worked_7 rfl hl (by decide) rfl (fun ls hl => ?_)
  refine lv_iconst (v := 0) X.x X.b dX7_worked_8 (by decide) ?_
  refine lv_istore_n (lv' := [(3, .int 0), (2, .int (48 + (125 * x1))), (0, .ref (Γ.1 66)), (1, .int x1)]) X.x X.b dX7_worked_9 rfl hl (by decide) rfl (fun ls hl => ?_)
  refine lv_iconst (v := 0) X.x X.b dX7_worked_10 (by decide) ?_
  refine lv_istore (lv' := [(4, .int 0), (3, .int 0), (2, .int (48 + (125 * x1))), (0, .ref (Γ.1 66)), (1, .int x1)]) X.x X.b dX7_worked_11 hl (by decide) rfl (fun ls hl => ?_)
  exact u_X7_worked_L13 X LF (48 + (125 * x1)) 0 0 σ _ _ _ h M (lv_sub hl [3, 2, 1, 0] rfl)
/-- StreetNumbersModel.harmTold(III)I -/
def f_X7_harmTold (x1 : Int32) (x2 : Int32) (x3 : Int32) (σ : St) : Rs :=
  if inb 104 128 then (
  ol (st σ 71 (104 : Int32).toNatClampNeg x1) fun σ2 => (
  if inb 121 128 then (
  ol (st σ2 71 (121 : Int32).toNatClampNeg x2) fun σ4 => (
  if inb 111 128 then (
  ol (st σ4 71 (111 : Int32).toNatClampNeg x3) fun σ6 => (
  ob (f_X7_hasText 0 σ6) fun r7 σ7 => (
  if r7 = 0 then (
    ob (f_X7_held x1 0 999 σ7) fun r8 σ8 => (
    some (r8, σ8))
  ) else (
    ob (f_X7_worked 0 σ7) fun r9 σ9 => (
    ob (f_X7_held r9 0 999 σ9) fun r10 σ10 => (
    some (r10, σ10)))
  )))) else none)) else none)) else none
set_option maxRecDepth 100000 in
set_option maxHeartbeats 4000000 in
theorem T_X7_harmTold {l : Launch} {Γ : Gm} {x1 : Int32} {x2 : Int32} {x3 : Int32} {σ : St} {r : Int32} {σ' : St} (h : f_X7_harmTold x1 x2 x3 σ = some (r, σ')) : MetI l yX7_harmTold cX7_harmTold 4 .int 3 Γ σ [.ref (Γ.1 66), .int x1, .int x2, .int x3] r σ' := by
  intro sz
  refine met_in (by decide) (Nat.le_of_ble_eq_true rfl) (fun p e s m args below meth c ls X hsz M hl => ?_)
  subst hsz
  have X : Cx p s m args meth c cX7_harmTold RX7 4 (some .int) Γ := X
  have hl : lv_has ls 4 [(0, .ref (Γ.1 66)), (1, .int x1), (2, .int x2), (3, .int x3)] := hl
  unfold f_X7_harmTold at h
  refine lv_aload_n X.x X.b dX7_harmTold_0 rfl (lv_at hl 0 rfl) ?_
  refine r_get X M hq_66 (el_66 _ _) rfl inX7 9 (by decide) q737 rfl rfl dX7_harmTold_1 ?_
  refine lv_bipush (v := 104) X.x X.b dX7_harmTold_4 (by decide) ?_
  refine lv_iload_n X.x X.b dX7_harmTold_6 rfl (lv_at hl 1 rfl) ?_
  obtain ⟨c1, h⟩ := it_n h
  obtain ⟨σ2, e2, h⟩ := ol_e h
  refine r_iast (q := 71) (n := 128) X M rfl c1 dX7_harmTold_7 (fun H locs M => ?_)
  rw [← e2] at M
  refine lv_aload_n X.x X.b dX7_harmTold_8 rfl (lv_at hl 0 rfl) ?_
  refine r_get X M hq_66 (el_66 _ _) rfl inX7 9 (by decide) q737 rfl rfl dX7_harmTold_9 ?_
  refine lv_bipush (v := 121) X.x X.b dX7_harmTold_12 (by decide) ?_
  refine lv_iload_n X.x X.b dX7_harmTold_14 rfl (lv_at hl 2 rfl) ?_
  obtain ⟨c3, h⟩ := it_n h
  obtain ⟨σ4, e4, h⟩ := ol_e h
  refine r_iast (q := 71) (n := 128) X M rfl c3 dX7_harmTold_15 (fun H locs M => ?_)
  rw [← e4] at M
  refine lv_aload_n X.x X.b dX7_harmTold_16 rfl (lv_at hl 0 rfl) ?_
  refine r_get X M hq_66 (el_66 _ _) rfl inX7 9 (by decide) q737 rfl rfl dX7_harmTold_17 ?_
  refine lv_bipush (v := 111) X.x X.b dX7_harmTold_20 (by decide) ?_
  refine lv_iload_n X.x X.b dX7_harmTold_22 rfl (lv_at hl 3 rfl) ?_
  obtain ⟨c5, h⟩ := it_n h
  obtain ⟨σ6, e6, h⟩ := ol_e h
  refine r_iast (q := 71) (n := 128) X M rfl c5 dX7_harmTold_23 (fun H locs M => ?_)
  rw [← e6] at M
  refine lv_aload_n X.x X.b dX7_harmTold_24 rfl (lv_at hl 0 rfl) ?_
  refine lv_iconst (v := 0) X.x X.b dX7_harmTold_25 (by decide) ?_
  obtain ⟨r7, σ7, h7, h⟩ := ob_e h
  refine r_runI M (r_callV (As := [.int 0]) X M (lv_sub hl [] rfl) (T_X7_hasText h7 _) cal_X7_hasText q856 ⟨by decide, by decide⟩ hq_66 (el_66 _ _) rfl rfl rfl (Nat.le_of_ble_eq_true rfl) ⟨Nat.le_refl _, Nat.le_refl _⟩ dX7_harmTold_26) (fun H locs M => ?_)
  clear h7
  refine lv_if_eq (tgt := 40) X.x X.b dX7_harmTold_29 (by decide) (fun c11 => ?_) (fun c11 => ?_)
  · have h := it_t c11 h
    refine lv_iload_n X.x X.b dX7_harmTold_40 rfl (lv_at hl 1 rfl) ?_
    refine lv_iconst (v := 0) X.x X.b dX7_harmTold_41 (by decide) ?_
    refine lv_sipush (v := 999) X.x X.b dX7_harmTold_42 (by decide) ?_
    obtain ⟨r8, σ8, h8, h⟩ := ob_e h
    refine r_runI M (r_callS (As := [.int x1, .int 0, .int 999]) X M (lv_sub hl [] rfl) (T_X7_held h8 _) cal_X7_held q909 ⟨by decide, by decide⟩ rfl rfl (Nat.le_of_ble_eq_true rfl) ⟨Nat.le_refl _, Nat.le_refl _⟩ dX7_harmTold_45) (fun H locs M => ?_)
    clear h8
    exact r_iret X M rfl h dX7_harmTold_48
  · have h := it_f c11 h
    refine lv_aload_n X.x X.b dX7_harmTold_32 rfl (lv_at hl 0 rfl) ?_
    refine lv_iconst (v := 0) X.x X.b dX7_harmTold_33 (by decide) ?_
    obtain ⟨r9, σ9, h9, h⟩ := ob_e h
    refine r_runI M (r_callV (As := [.int 0]) X M (lv_sub hl [] rfl) (T_X7_worked h9 _) cal_X7_worked q902 ⟨by decide, by decide⟩ hq_66 (el_66 _ _) rfl rfl rfl (Nat.le_of_ble_eq_true rfl) ⟨Nat.le_refl _, Nat.le_refl _⟩ dX7_harmTold_34) (fun H locs M => ?_)
    clear h9
    refine lv_goto (tgt := 41) X.x X.b dX7_harmTold_37 (by decide) ?_
    refine lv_iconst (v := 0) X.x X.b dX7_harmTold_41 (by decide) ?_
    refine lv_sipush (v := 999) X.x X.b dX7_harmTold_42 (by decide) ?_
    obtain ⟨r10, σ10, h10, h⟩ := ob_e h
    refine r_runI M (r_callS (As := [.int r9, .int 0, .int 999]) X M (lv_sub hl [] rfl) (T_X7_held h10 _) cal_X7_held q909 ⟨by decide, by decide⟩ rfl rfl (Nat.le_of_ble_eq_true rfl) ⟨Nat.le_refl _, Nat.le_refl _⟩ dX7_harmTold_45) (fun H locs M => ?_)
    clear h10
    exact r_iret X M rfl h dX7_harmTold_48
/-- StreetNumbersModel.harmOf(II)I -/
def f_X7_harmOf (x1 : Int32) (x2 : Int32) (σ : St) : Rs :=
  ob (f_X7_its x1 2 σ) fun r1 σ1 => (
  if x2 = r1 then (
    some (0, σ1)
  ) else (
    ob (f_X7_mindsOf x1 x2 σ1) fun r2 σ2 => (
    if inb 0 382 then (
    ob (f_X7_its x1 2 σ2) fun r4 σ4 => (
    ob (f_X7_harmTold r2 (irm (σ2 67 (0 : Int32).toNatClampNeg) 7) r4 σ4) fun r5 σ5 => (
    some (r5, σ5)))) else none)
  ))
set_option maxRecDepth 100000 in
set_option maxHeartbeats 4000000 in
theorem T_X7_harmOf {l : Launch} {Γ : Gm} {x1 : Int32} {x2 : Int32} {σ : St} {r : Int32} {σ' : St} (h : f_X7_harmOf x1 x2 σ = some (r, σ')) : MetI l yX7_harmOf cX7_harmOf 3 .int 4 Γ σ [.ref (Γ.1 66), .int x1, .int x2] r σ' := by
  intro sz
  refine met_in (by decide) (Nat.le_of_ble_eq_true rfl) (fun p e s m args below meth c ls X hsz M hl => ?_)
  subst hsz
  have X : Cx p s m args meth c cX7_harmOf RX7 3 (some .int) Γ := X
  have hl : lv_has ls 3 [(0, .ref (Γ.1 66)), (1, .int x1), (2, .int x2)] := hl
  unfold f_X7_harmOf at h
  refine lv_iload_n X.x X.b dX7_harmOf_0 rfl (lv_at hl 2 rfl) ?_
  refine lv_aload_n X.x X.b dX7_harmOf_1 rfl (lv_at hl 0 rfl) ?_
  refine lv_iload_n X.x X.b dX7_harmOf_2 rfl (lv_at hl 1 rfl) ?_
  refine lv_iconst (v := 2) X.x X.b dX7_harmOf_3 (by decide) ?_
  obtain ⟨r1, σ1, h1, h⟩ := ob_e h
  refine r_runI M (r_callV (As := [.int x1, .int 2]) X M (lv_sub hl [] rfl) (T_X7_its h1 _) cal_X7_its q874 ⟨by decide, by decide⟩ hq_66 (el_66 _ _) rfl rfl rfl (Nat.le_of_ble_eq_true rfl) ⟨Nat.le_refl _, Nat.le_refl _⟩ dX7_harmOf_4) (fun H locs M => ?_)
  clear h1
  refine lv_icmp_ne (tgt := 14) X.x X.b dX7_harmOf_7 (by decide) (fun c6 => ?_) (fun c6 => ?_)
  · have h := it_f c6 h
    refine lv_aload_n X.x X.b dX7_harmOf_14 rfl (lv_at hl 0 rfl) ?_
    refine lv_aload_n X.x X.b dX7_harmOf_15 rfl (lv_at hl 0 rfl) ?_
    refine lv_iload_n X.x X.b dX7_harmOf_16 rfl (lv_at hl 1 rfl) ?_
    refine lv_iload_n X.x X.b dX7_harmOf_17 rfl (lv_at hl 2 rfl) ?_
    obtain ⟨r2, σ2, h2, h⟩ := ob_e h
    refine r_runI M (r_callV (As := [.int x1, .int x2]) X M (lv_sub hl [] rfl) (T_X7_mindsOf h2 _) cal_X7_mindsOf q947 ⟨by decide, by decide⟩ hq_66 (el_66 _ _) rfl rfl rfl (Nat.le_of_ble_eq_true rfl) ⟨Nat.le_refl _, Nat.le_refl _⟩ dX7_harmOf_18) (fun H locs M => ?_)
    clear h2
    refine lv_aload_n X.x X.b dX7_harmOf_21 rfl (lv_at hl 0 rfl) ?_
    refine r_get X M hq_66 (el_66 _ _) rfl inX7 0 (by decide) q728 rfl rfl dX7_harmOf_22 ?_
    refine lv_iconst (v := 0) X.x X.b dX7_harmOf_25 (by decide) ?_
    obtain ⟨c3, h⟩ := it_n h
    refine r_iald (q := 67) (n := 382) X M rfl c3 dX7_harmOf_26 ?_
    refine lv_bipush (v := 7) X.x X.b dX7_harmOf_27 (by decide) ?_
    refine r_irem X dX7_harmOf_29 (by decide) ?_
    refine lv_aload_n X.x X.b dX7_harmOf_30 rfl (lv_at hl 0 rfl) ?_
    refine lv_iload_n X.x X.b dX7_harmOf_31 rfl (lv_at hl 1 rfl) ?_
    refine lv_iconst (v := 2) X.x X.b dX7_harmOf_32 (by decide) ?_
    obtain ⟨r4, σ4, h4, h⟩ := ob_e h
    refine r_runI M (r_callV (As := [.int x1, .int 2]) X M (lv_sub hl [] rfl) (T_X7_its h4 _) cal_X7_its q874 ⟨by decide, by decide⟩ hq_66 (el_66 _ _) rfl rfl rfl (Nat.le_of_ble_eq_true rfl) ⟨Nat.le_refl _, Nat.le_refl _⟩ dX7_harmOf_33) (fun H locs M => ?_)
    clear h4
    obtain ⟨r5, σ5, h5, h⟩ := ob_e h
    refine r_runI M (r_callV (As := [.int r2, .int (irm (σ2 67 (0 : Int32).toNatClampNeg) 7), .int r4]) X M (lv_sub hl [] rfl) (T_X7_harmTold h5 _) cal_X7_harmTold q951 ⟨by decide, by decide⟩ hq_66 (el_66 _ _) rfl rfl rfl (Nat.le_of_ble_eq_true rfl) ⟨Nat.le_refl _, Nat.le_refl _⟩ dX7_harmOf_36) (fun H locs M => ?_)
    clear h5
    exact r_iret X M rfl h dX7_harmOf_39
  · have h := it_t c6 h
    refine lv_iconst (v := 0) X.x X.b dX7_harmOf_10 (by decide) ?_
    refine lv_goto (tgt := 39) X.x X.b dX7_harmOf_11 (by decide) ?_
    exact r_iret X M rfl h dX7_harmOf_39
def f_X7_harmsSo_b24 (k24 : (Int32 → Int32 → Int32 → Int32 → St → Rs)) (x1 : Int32) (x2 : Int32) (x3 : Int32) (x4 : Int32) (σ : St) : Rs :=
  if inb x1 4 then (
  if (σ 77 x1.toNatClampNeg) ≤ x4 then (
    if x3 = 0 ∨ x3 = 1 then some (x3, σ) else none
  ) else (
    if x3 = 0 then (
      if x3 = 0 ∨ x3 = 1 then some (x3, σ) else none
    ) else (
      ob (f_X7_at1 x4 σ) fun r4 σ4 => (
      ob (f_X7_harmOf r4 (x2 * (x4 + 1)) σ4) fun r5 σ5 => (
      if inb ((24 * x1) + x4) 96 then (
      if r5 = (σ5 78 ((24 * x1) + x4).toNatClampNeg) then (
        k24 x1 x2 1 (x4 + 1) σ5
      ) else (
        k24 x1 x2 0 (x4 + 1) σ5
      )) else none))
    )
  )) else none
set_option maxRecDepth 100000 in
set_option maxHeartbeats 4000000 in
theorem u_X7_harmsSo_b24 {l : Launch} {Γ : Gm} {p : Program} {e : Env} {s : State} {m : MethodId} {args : Array Value} {below : List Frame} {meth : Method} {c : Code} {r : Int32} {σ' : St} {k24 : Int32 → Int32 → Int32 → Int32 → St → Rs} (X : Cx p s m args meth c cX7_harmsSo RX7 5 (some .boolean) Γ) (H24 : ∀ (x1 : Int32) (x2 : Int32) (x3 : Int32) (x4 : Int32) (σ : St) (H : Heap) (locs : List Loc) (ls : Array Slot), k24 x1 x2 x3 x4 σ = some (r, σ') → Mv Γ σ s H locs → lv_has ls 5 [(0, .ref (Γ.1 66)), (1, .int x1), (2, .int x2), (3, .int x3), (4, .int x4)] → W p l e (rmd 5) s m args below meth c H locs 0 0 (MQ below (Qi Γ r σ' s.heap.size) args s 0 0 (Rg Γ s.heap.size)) (F0 m 24 ls [])) (x1 : Int32) (x2 : Int32) (x3 : Int32) (x4 : Int32) (σ : St) (H : Heap) (locs : List Loc) (ls : Array Slot) (h : f_X7_harmsSo_b24 k24 x1 x2 x3 x4 σ = some (r, σ')) (M : Mv Γ σ s H locs) (hl : lv_has ls 5 [(0, .ref (Γ.1 66)), (1, .int x1), (2, .int x2), (3, .int x3), (4, .int x4)]) : W p l e (rmd 5) s m args below meth c H locs 0 0 (MQ below (Qi Γ r σ' s.heap.size) args s 0 0 (Rg Γ s.heap.size)) (F0 m 24 ls []) := by
  unfold f_X7_harmsSo_b24 at h
  refine lv_iload X.x X.b dX7_harmsSo_24 (lv_at hl 4 rfl) ?_
  refine lv_aload_n X.x X.b dX7_harmsSo_26 rfl (lv_at hl 0 rfl) ?_
  refine r_get X M hq_66 (el_66 _ _) rfl inX7 19 (by decide) q747 rfl rfl dX7_harmsSo_27 ?_
  refine lv_iload_n X.x X.b dX7_harmsSo_30 rfl (lv_at hl 1 rfl) ?_
  obtain ⟨c1, h⟩ := it_n h
  refine r_iald (q := 77) (n := 4) X M rfl c1 dX7_harmsSo_31 ?_
  refine lv_icmp_ge (tgt := 82) X.x X.b dX7_harmsSo_32 (by decide) (fun c9 => ?_) (fun c9 => ?_)
  · have h := it_t c9 h
    refine lv_iload_n X.x X.b dX7_harmsSo_82 rfl (lv_at hl 3 rfl) ?_
    obtain ⟨c2, h⟩ := it_n h
    exact r_iret X M (nar_b c2) h dX7_harmsSo_83
  · have h := it_f c9 h
    refine lv_iload_n X.x X.b dX7_harmsSo_35 rfl (lv_at hl 3 rfl) ?_
    refine lv_if_eq (tgt := 82) X.x X.b dX7_harmsSo_36 (by decide) (fun c8 => ?_) (fun c8 => ?_)
    · have h := it_t c8 h
      refine lv_iload_n X.x X.b dX7_harmsSo_82 rfl (lv_at hl 3 rfl) ?_
      obtain ⟨c3, h⟩ := it_n h
      exact r_iret X M (nar_b c3) h dX7_harmsSo_83
    · have h := it_f c8 h
      refine lv_aload_n X.x X.b dX7_harmsSo_39 rfl (lv_at hl 0 rfl) ?_
      refine lv_aload_n X.x X.b dX7_harmsSo_40 rfl (lv_at hl 0 rfl) ?_
      refine lv_iload X.x X.b dX7_harmsSo_41 (lv_at hl 4 rfl) ?_
      obtain ⟨r4, σ4, h4, h⟩ := ob_e h
      refine r_runI M (r_callV (As := [.int x4]) X M (lv_sub hl [] rfl) (T_X7_at1 h4 _) cal_X7_at1 q920 ⟨by decide, by decide⟩ hq_66 (el_66 _ _) rfl rfl rfl (Nat.le_of_ble_eq_true rfl) ⟨Nat.le_refl _, Nat.le_refl _⟩ dX7_harmsSo_43) (fun H locs M => ?_)
      clear h4
      refine lv_iload_n X.x X.b dX7_harmsSo_46 rfl (lv_at hl 2 rfl) ?_
      refine lv_iload X.x X.b dX7_harmsSo_47 (lv_at hl 4 rfl) ?_
      refine lv_iconst (v := 1) X.x X.b dX7_harmsSo_49 (by decide) ?_
      refine lv_iadd X.x X.b dX7_harmsSo_50 ?_
      refine lv_imul X.x X.b dX7_harmsSo_51 ?_
      obtain ⟨r5, σ5, h5, h⟩ := ob_e h
      refine r_runI M (r_callV (As := [.int r4, .int (x2 * (x4 + 1))]) X M (lv_sub hl [] rfl) (T_X7_harmOf h5 _) cal_X7_harmOf q943 ⟨by decide, by decide⟩ hq_66 (el_66 _ _) rfl rfl rfl (Nat.le_of_ble_eq_true rfl) ⟨Nat.le_refl _, Nat.le_refl _⟩ dX7_harmsSo_52) (fun H locs M => ?_)
      clear h5
      refine lv_aload_n X.x X.b dX7_harmsSo_55 rfl (lv_at hl 0 rfl) ?_
      refine r_get X M hq_66 (el_66 _ _) rfl inX7 20 (by decide) q748 rfl rfl dX7_harmsSo_56 ?_
      refine lv_bipush (v := 24) X.x X.b dX7_harmsSo_59 (by decide) ?_
      refine lv_iload_n X.x X.b dX7_harmsSo_61 rfl (lv_at hl 1 rfl) ?_
      refine lv_imul X.x X.b dX7_harmsSo_62 ?_
      refine lv_iload X.x X.b dX7_harmsSo_63 (lv_at hl 4 rfl) ?_
      refine lv_iadd X.x X.b dX7_harmsSo_65 ?_
      obtain ⟨c6, h⟩ := it_n h
      refine r_iald (q := 78) (n := 96) X M rfl c6 dX7_harmsSo_66 ?_
      refine lv_icmp_ne (tgt := 74) X.x X.b dX7_harmsSo_67 (by decide) (fun c7 => ?_) (fun c7 => ?_)
      · have h := it_f c7 h
        refine lv_iconst (v := 0) X.x X.b dX7_harmsSo_74 (by decide) ?_
        refine lv_istore_n (lv' := [(3, .int 0), (0, .ref (Γ.1 66)), (1, .int x1), (2, .int x2), (4, .int x4)]) X.x X.b dX7_harmsSo_75 rfl hl (by decide) rfl (fun ls hl => ?_)
        refine lv_iinc (v := (x4 + 1)) (lv' := [(4, .int (x4 + 1)), (3, .int 0), (0, .ref (Γ.1 66)), (1, .int x1), (2, .int x2)]) X.x X.b dX7_harmsSo_76 hl (k := 4) rfl rfl (by decide) rfl (fun ls hl => ?_)
        refine lv_goto (tgt := 24) X.x X.b dX7_harmsSo_79 (by decide) ?_
        exact H24 x1 x2 0 (x4 + 1) σ5 _ _ _ h M (lv_sub hl [2, 3, 4, 1, 0] rfl)
      · have h := it_t c7 h
        refine lv_iconst (v := 1) X.x X.b dX7_harmsSo_70 (by decide) ?_
        refine lv_goto (tgt := 75) X.x X.b dX7_harmsSo_71 (by decide) ?_
        refine lv_istore_n (lv' := [(3, .int 1), (0, .ref (Γ.1 66)), (1, .int x1), (2, .int x2), (4, .int x4)]) X.x X.b dX7_harmsSo_75 rfl hl (by decide) rfl (fun ls hl => ?_)
        refine lv_iinc (v := (x4 + 1)) (lv' := [(4, .int (x4 + 1)), (3, .int 1), (0, .ref (Γ.1 66)), (1, .int x1), (2, .int x2)]) X.x X.b dX7_harmsSo_76 hl (k := 4) rfl rfl (by decide) rfl (fun ls hl => ?_)
        refine lv_goto (tgt := 24) X.x X.b dX7_harmsSo_79 (by decide) ?_
        exact H24 x1 x2 1 (x4 + 1) σ5 _ _ _ h M (lv_sub hl [2, 3, 4, 1, 0] rfl)
def f_X7_harmsSo_L24 : Nat → Int32 → Int32 → Int32 → Int32 → St → Rs
  | 0 => fun _ _ _ _ _ => none
  | n + 1 => fun x1 x2 x3 x4 σ => f_X7_harmsSo_b24 (f_X7_harmsSo_L24 n) x1 x2 x3 x4 σ
theorem u_X7_harmsSo_L24 {l : Launch} {Γ : Gm} {p : Program} {e : Env} {s : State} {m : MethodId} {args : Array Value} {below : List Frame} {meth : Method} {c : Code} {r : Int32} {σ' : St} (X : Cx p s m args meth c cX7_harmsSo RX7 5 (some .boolean) Γ) : ∀ (n : Nat) (x1 : Int32) (x2 : Int32) (x3 : Int32) (x4 : Int32) (σ : St) (H : Heap) (locs : List Loc) (ls : Array Slot), f_X7_harmsSo_L24 n x1 x2 x3 x4 σ = some (r, σ') → Mv Γ σ s H locs → lv_has ls 5 [(0, .ref (Γ.1 66)), (1, .int x1), (2, .int x2), (3, .int x3), (4, .int x4)] → W p l e (rmd 5) s m args below meth c H locs 0 0 (MQ below (Qi Γ r σ' s.heap.size) args s 0 0 (Rg Γ s.heap.size)) (F0 m 24 ls []) := by
  intro n
  induction n with
  | zero => intro x1 x2 x3 x4 σ H locs ls h; cases h
  | succ n ih => intro x1 x2 x3 x4 σ H locs ls h; exact u_X7_harmsSo_b24 X  ih x1 x2 x3 x4 σ H locs ls h
/-- StreetNumbersModel.harmsSo(II)Z -/
def f_X7_harmsSo (x1 : Int32) (x2 : Int32) (σ : St) : Rs :=
  if inb x1 4 then (
  if inb 5 382 then (
  if (σ 67 (5 : Int32).toNatClampNeg) < (σ 77 x1.toNatClampNeg) then (
    f_X7_harmsSo_L24 LF x1 x2 0 0 σ
  ) else (
    f_X7_harmsSo_L24 LF x1 x2 1 0 σ
  )) else none) else none
set_option maxRecDepth 100000 in
set_option maxHeartbeats 4000000 in
theorem T_X7_harmsSo {l : Launch} {Γ : Gm} {x1 : Int32} {x2 : Int32} {σ : St} {r : Int32} {σ' : St} (h : f_X7_harmsSo x1 x2 σ = some (r, σ')) : MetI l yX7_harmsSo cX7_harmsSo 5 .boolean 5 Γ σ [.ref (Γ.1 66), .int x1, .int x2] r σ' := by
  intro sz
  refine met_in (by decide) (Nat.le_of_ble_eq_true rfl) (fun p e s m args below meth c ls X hsz M hl => ?_)
  subst hsz
  have X : Cx p s m args meth c cX7_harmsSo RX7 5 (some .boolean) Γ := X
  have hl : lv_has ls 5 [(0, .ref (Γ.1 66)), (1, .int x1), (2, .int x2)] := hl
  unfold f_X7_harmsSo at h
  refine lv_aload_n X.x X.b dX7_harmsSo_0 rfl (lv_at hl 0 rfl) ?_
  refine r_get X M hq_66 (el_66 _ _) rfl inX7 19 (by decide) q747 rfl rfl dX7_harmsSo_1 ?_
  refine lv_iload_n X.x X.b dX7_harmsSo_4 rfl (lv_at hl 1 rfl) ?_
  obtain ⟨c1, h⟩ := it_n h
  refine r_iald (q := 77) (n := 4) X M rfl c1 dX7_harmsSo_5 ?_
  refine lv_aload_n X.x X.b dX7_harmsSo_6 rfl (lv_at hl 0 rfl) ?_
  refine r_get X M hq_66 (el_66 _ _) rfl inX7 0 (by decide) q728 rfl rfl dX7_harmsSo_7 ?_
  refine lv_iconst (v := 5) X.x X.b dX7_harmsSo_10 (by decide) ?_
  obtain ⟨c2, h⟩ := it_n h
  refine r_iald (q := 67) (n := 382) X M rfl c2 dX7_harmsSo_11 ?_
  refine lv_icmp_gt (tgt := 19) X.x X.b dX7_harmsSo_12 (by decide) (fun c3 => ?_) (fun c3 => ?_)
  · have h := it_t c3 h
    refine lv_iconst (v := 0) X.x X.b dX7_harmsSo_19 (by decide) ?_
    refine lv_istore_n (lv' := [(3, .int 0), (0, .ref (Γ.1 66)), (1, .int x1), (2, .int x2)]) X.x X.b dX7_harmsSo_20 rfl hl (by decide) rfl (fun ls hl => ?_)
    refine lv_iconst (v := 0) X.x X.b dX7_harmsSo_21 (by decide) ?_
    refine lv_istore (lv' := [(4, .int 0), (3, .int 0), (0, .ref (Γ.1 66)), (1, .int x1), (2, .int x2)]) X.x X.b dX7_harmsSo_22 hl (by decide) rfl (fun ls hl => ?_)
    exact u_X7_harmsSo_L24 X LF x1 x2 0 0 σ _ _ _ h M (lv_sub hl [2, 3, 4, 1, 0] rfl)
  · have h := it_f c3 h
    refine lv_iconst (v := 1) X.x X.b dX7_harmsSo_15 (by decide) ?_
    refine lv_goto (tgt := 20) X.x X.b dX7_harmsSo_16 (by decide) ?_
    refine lv_istore_n (lv' := [(3, .int 1), (0, .ref (Γ.1 66)), (1, .int x1), (2, .int x2)]) X.x X.b dX7_harmsSo_20 rfl hl (by decide) rfl (fun ls hl => ?_)
    refine lv_iconst (v := 0) X.x X.b dX7_harmsSo_21 (by decide) ?_
    refine lv_istore (lv' := [(4, .int 0), (3, .int 1), (0, .ref (Γ.1 66)), (1, .int x1), (2, .int x2)]) X.x X.b dX7_harmsSo_22 hl (by decide) rfl (fun ls hl => ?_)
    exact u_X7_harmsSo_L24 X LF x1 x2 1 0 σ _ _ _ h M (lv_sub hl [2, 3, 4, 1, 0] rfl)
/-- StreetNumbersModel.isSheet(I)Z -/
def f_X7_isSheet (x0 : Int32) (σ : St) : Rs :=
  ob (f_X7_in x0 0 3 σ) fun r1 σ1 => (
  if r1 = 0 ∨ r1 = 1 then some (r1, σ1) else none)
set_option maxRecDepth 100000 in
set_option maxHeartbeats 4000000 in
theorem T_X7_isSheet {l : Launch} {Γ : Gm} {x0 : Int32} {σ : St} {r : Int32} {σ' : St} (h : f_X7_isSheet x0 σ = some (r, σ')) : MetI l yX7_isSheet cX7_isSheet 1 .boolean 2 Γ σ [.int x0] r σ' := by
  intro sz
  refine met_in (by decide) (Nat.le_of_ble_eq_true rfl) (fun p e s m args below meth c ls X hsz M hl => ?_)
  subst hsz
  have X : Cx p s m args meth c cX7_isSheet RX7 1 (some .boolean) Γ := X
  have hl : lv_has ls 1 [(0, .int x0)] := hl
  unfold f_X7_isSheet at h
  refine lv_iload_n X.x X.b dX7_isSheet_0 rfl (lv_at hl 0 rfl) ?_
  refine lv_iconst (v := 0) X.x X.b dX7_isSheet_1 (by decide) ?_
  refine lv_iconst (v := 3) X.x X.b dX7_isSheet_2 (by decide) ?_
  obtain ⟨r1, σ1, h1, h⟩ := ob_e h
  refine r_runI M (r_callS (As := [.int x0, .int 0, .int 3]) X M (lv_sub hl [] rfl) (T_X7_in h1 _) cal_X7_in q799 ⟨by decide, by decide⟩ rfl rfl (Nat.le_of_ble_eq_true rfl) ⟨Nat.le_refl _, Nat.le_refl _⟩ dX7_isSheet_3) (fun H locs M => ?_)
  clear h1
  obtain ⟨c2, h⟩ := it_n h
  exact r_iret X M (nar_b c2) h dX7_isSheet_6
/-- StreetNumbersModel.lacks(I)I -/
def f_X7_lacks (x1 : Int32) (σ : St) : Rs :=
  ob (f_X7_isSheet x1 σ) fun r1 σ1 => (
  if r1 = 0 then (
    some (1, σ1)
  ) else (
    if inb x1 4 then (
    if (σ1 76 x1.toNatClampNeg) = 0 then (
      some (2, σ1)
    ) else (
      some (0, σ1)
    )) else none
  ))
set_option maxRecDepth 100000 in
set_option maxHeartbeats 4000000 in
theorem T_X7_lacks {l : Launch} {Γ : Gm} {x1 : Int32} {σ : St} {r : Int32} {σ' : St} (h : f_X7_lacks x1 σ = some (r, σ')) : MetI l yX7_lacks cX7_lacks 2 .int 3 Γ σ [.ref (Γ.1 66), .int x1] r σ' := by
  intro sz
  refine met_in (by decide) (Nat.le_of_ble_eq_true rfl) (fun p e s m args below meth c ls X hsz M hl => ?_)
  subst hsz
  have X : Cx p s m args meth c cX7_lacks RX7 2 (some .int) Γ := X
  have hl : lv_has ls 2 [(0, .ref (Γ.1 66)), (1, .int x1)] := hl
  unfold f_X7_lacks at h
  refine lv_iload_n X.x X.b dX7_lacks_0 rfl (lv_at hl 1 rfl) ?_
  obtain ⟨r1, σ1, h1, h⟩ := ob_e h
  refine r_runI M (r_callS (As := [.int x1]) X M (lv_sub hl [] rfl) (T_X7_isSheet h1 _) cal_X7_isSheet q1051 ⟨by decide, by decide⟩ rfl rfl (Nat.le_of_ble_eq_true rfl) ⟨Nat.le_refl _, Nat.le_refl _⟩ dX7_lacks_1) (fun H locs M => ?_)
  clear h1
  refine lv_if_ne (tgt := 11) X.x X.b dX7_lacks_4 (by decide) (fun c4 => ?_) (fun c4 => ?_)
  · have h := it_f c4 h
    refine lv_aload_n X.x X.b dX7_lacks_11 rfl (lv_at hl 0 rfl) ?_
    refine r_get X M hq_66 (el_66 _ _) rfl inX7 18 (by decide) q746 rfl rfl dX7_lacks_12 ?_
    refine lv_iload_n X.x X.b dX7_lacks_15 rfl (lv_at hl 1 rfl) ?_
    obtain ⟨c2, h⟩ := it_n h
    refine r_iald (q := 76) (n := 4) X M rfl c2 dX7_lacks_16 ?_
    refine lv_if_ne (tgt := 24) X.x X.b dX7_lacks_17 (by decide) (fun c3 => ?_) (fun c3 => ?_)
    · have h := it_f c3 h
      refine lv_iconst (v := 0) X.x X.b dX7_lacks_24 (by decide) ?_
      exact r_iret X M rfl h dX7_lacks_25
    · have h := it_t c3 h
      refine lv_iconst (v := 2) X.x X.b dX7_lacks_20 (by decide) ?_
      refine lv_goto (tgt := 25) X.x X.b dX7_lacks_21 (by decide) ?_
      exact r_iret X M rfl h dX7_lacks_25
  · have h := it_t c4 h
    refine lv_iconst (v := 1) X.x X.b dX7_lacks_7 (by decide) ?_
    refine lv_goto (tgt := 25) X.x X.b dX7_lacks_8 (by decide) ?_
    exact r_iret X M rfl h dX7_lacks_25
def f_X7_fits_b39 (k39 : (Int32 → Int32 → Int32 → Int32 → Int32 → St → Rs)) (x1 : Int32) (x2 : Int32) (x4 : Int32) (x5 : Int32) (x6 : Int32) (σ : St) : Rs :=
  if x6 ≤ 0 then (
    if x2 = 0 then (
      some (x4, σ)
    ) else (
      if x5 = (-1) then (
        ob (f_X7_error 2 σ) fun r1 σ1 => (
        some (r1, σ1))
      ) else (
        some (x5, σ)
      )
    )
  ) else (
    ob (f_X7_harmsSo x1 x6 σ) fun r4 σ4 => (
    if r4 = 0 then (
      if r4 = 0 then (
        k39 x1 x2 (x4 + 0) x5 (x6 + (-1)) σ4
      ) else (
        k39 x1 x2 (x4 + 0) x6 (x6 + (-1)) σ4
      )
    ) else (
      if r4 = 0 then (
        k39 x1 x2 (x4 + 1) x5 (x6 + (-1)) σ4
      ) else (
        k39 x1 x2 (x4 + 1) x6 (x6 + (-1)) σ4
      )
    ))
  )
set_option maxRecDepth 100000 in
set_option maxHeartbeats 4000000 in
theorem u_X7_fits_b39 {l : Launch} {Γ : Gm} {p : Program} {e : Env} {s : State} {m : MethodId} {args : Array Value} {below : List Frame} {meth : Method} {c : Code} {r : Int32} {σ' : St} {k39 : Int32 → Int32 → Int32 → Int32 → Int32 → St → Rs} (X : Cx p s m args meth c cX7_fits RX7 8 (some .int) Γ) (H39 : ∀ (x1 : Int32) (x2 : Int32) (x4 : Int32) (x5 : Int32) (x6 : Int32) (σ : St) (H : Heap) (locs : List Loc) (ls : Array Slot), k39 x1 x2 x4 x5 x6 σ = some (r, σ') → Mv Γ σ s H locs → lv_has ls 8 [(0, .ref (Γ.1 66)), (1, .int x1), (2, .int x2), (4, .int x4), (5, .int x5), (6, .int x6)] → W p l e (rmd 6) s m args below meth c H locs 0 0 (MQ below (Qi Γ r σ' s.heap.size) args s 0 0 (Rg Γ s.heap.size)) (F0 m 39 ls [])) (x1 : Int32) (x2 : Int32) (x4 : Int32) (x5 : Int32) (x6 : Int32) (σ : St) (H : Heap) (locs : List Loc) (ls : Array Slot) (h : f_X7_fits_b39 k39 x1 x2 x4 x5 x6 σ = some (r, σ')) (M : Mv Γ σ s H locs) (hl : lv_has ls 8 [(0, .ref (Γ.1 66)), (1, .int x1), (2, .int x2), (4, .int x4), (5, .int x5), (6, .int x6)]) : W p l e (rmd 6) s m args below meth c H locs 0 0 (MQ below (Qi Γ r σ' s.heap.size) args s 0 0 (Rg Γ s.heap.size)) (F0 m 39 ls []) := by
  unfold f_X7_fits_b39 at h
  refine lv_iload X.x X.b dX7_fits_39 (lv_at hl 5 rfl) ?_
  refine lv_if_le (tgt := 88) X.x X.b dX7_fits_41 (by decide) (fun c8 => ?_) (fun c8 => ?_)
  · have h := it_t c8 h
    refine lv_iload_n X.x X.b dX7_fits_88 rfl (lv_at hl 2 rfl) ?_
    refine lv_if_ne (tgt := 97) X.x X.b dX7_fits_89 (by decide) (fun c3 => ?_) (fun c3 => ?_)
    · have h := it_f c3 h
      refine lv_iload X.x X.b dX7_fits_97 (lv_at hl 4 rfl) ?_
      refine lv_iconst (v := (-1)) X.x X.b dX7_fits_99 (by decide) ?_
      refine lv_icmp_ne (tgt := 111) X.x X.b dX7_fits_100 (by decide) (fun c2 => ?_) (fun c2 => ?_)
      · have h := it_f c2 h
        refine lv_iload X.x X.b dX7_fits_111 (lv_at hl 4 rfl) ?_
        exact r_iret X M rfl h dX7_fits_113
      · have h := it_t c2 h
        refine lv_aload_n X.x X.b dX7_fits_103 rfl (lv_at hl 0 rfl) ?_
        refine lv_iconst (v := 2) X.x X.b dX7_fits_104 (by decide) ?_
        obtain ⟨r1, σ1, h1, h⟩ := ob_e h
        refine r_runI M (r_callV (As := [.int 2]) X M (lv_sub hl [] rfl) (T_X7_error h1 _) cal_X7_error q802 ⟨by decide, by decide⟩ hq_66 (el_66 _ _) rfl rfl rfl (Nat.le_of_ble_eq_true rfl) ⟨Nat.le_refl _, Nat.le_refl _⟩ dX7_fits_105) (fun H locs M => ?_)
        clear h1
        refine lv_goto (tgt := 113) X.x X.b dX7_fits_108 (by decide) ?_
        exact r_iret X M rfl h dX7_fits_113
    · have h := it_t c3 h
      refine lv_iload X.x X.b dX7_fits_92 (lv_at hl 3 rfl) ?_
      refine lv_goto (tgt := 113) X.x X.b dX7_fits_94 (by decide) ?_
      exact r_iret X M rfl h dX7_fits_113
  · have h := it_f c8 h
    refine lv_aload_n X.x X.b dX7_fits_44 rfl (lv_at hl 0 rfl) ?_
    refine lv_iload_n X.x X.b dX7_fits_45 rfl (lv_at hl 1 rfl) ?_
    refine lv_iload X.x X.b dX7_fits_46 (lv_at hl 5 rfl) ?_
    obtain ⟨r4, σ4, h4, h⟩ := ob_e h
    refine r_runI M (r_callV (As := [.int x1, .int x6]) X M (lv_sub hl [] rfl) (T_X7_harmsSo h4 _) cal_X7_harmsSo q1054 ⟨by decide, by decide⟩ hq_66 (el_66 _ _) rfl rfl rfl (Nat.le_of_ble_eq_true rfl) ⟨Nat.le_refl _, Nat.le_refl _⟩ dX7_fits_48) (fun H locs M => ?_)
    clear h4
    refine lv_istore (lv' := [(7, .int r4), (0, .ref (Γ.1 66)), (1, .int x1), (2, .int x2), (4, .int x4), (5, .int x5), (6, .int x6)]) X.x X.b dX7_fits_51 hl (by decide) rfl (fun ls hl => ?_)
    refine lv_iload X.x X.b dX7_fits_53 (lv_at hl 4 rfl) ?_
    refine lv_iload X.x X.b dX7_fits_55 (lv_at hl 0 rfl) ?_
    refine lv_if_eq (tgt := 64) X.x X.b dX7_fits_57 (by decide) (fun c7 => ?_) (fun c7 => ?_)
    · have h := it_t c7 h
      refine lv_iconst (v := 0) X.x X.b dX7_fits_64 (by decide) ?_
      refine lv_iadd X.x X.b dX7_fits_65 ?_
      refine lv_istore (lv' := [(4, .int (x4 + 0)), (7, .int r4), (0, .ref (Γ.1 66)), (1, .int x1), (2, .int x2), (5, .int x5), (6, .int x6)]) X.x X.b dX7_fits_66 hl (by decide) rfl (fun ls hl => ?_)
      refine lv_iload X.x X.b dX7_fits_68 (lv_at hl 1 rfl) ?_
      refine lv_if_eq (tgt := 78) X.x X.b dX7_fits_70 (by decide) (fun c5 => ?_) (fun c5 => ?_)
      · have h := it_t c5 h
        refine lv_iload X.x X.b dX7_fits_78 (lv_at hl 5 rfl) ?_
        refine lv_istore (lv' := [(5, .int x5), (4, .int (x4 + 0)), (7, .int r4), (0, .ref (Γ.1 66)), (1, .int x1), (2, .int x2), (6, .int x6)]) X.x X.b dX7_fits_80 hl (by decide) rfl (fun ls hl => ?_)
        refine lv_iinc (v := (x6 + (-1))) (lv' := [(6, .int (x6 + (-1))), (5, .int x5), (4, .int (x4 + 0)), (7, .int r4), (0, .ref (Γ.1 66)), (1, .int x1), (2, .int x2)]) X.x X.b dX7_fits_82 hl (k := 6) rfl rfl (by decide) rfl (fun ls hl => ?_)
        refine lv_goto (tgt := 39) X.x X.b dX7_fits_85 (by decide) ?_
        exact H39 x1 x2 (x4 + 0) x5 (x6 + (-1)) σ4 _ _ _ h M (lv_sub hl [4, 5, 6, 2, 1, 0] rfl)
      · have h := it_f c5 h
        refine lv_iload X.x X.b dX7_fits_73 (lv_at hl 6 rfl) ?_
        refine lv_goto (tgt := 80) X.x X.b dX7_fits_75 (by decide) ?_
        refine lv_istore (lv' := [(5, .int x6), (4, .int (x4 + 0)), (7, .int r4), (0, .ref (Γ.1 66)), (1, .int x1), (2, .int x2), (6, .int x6)]) X.x X.b dX7_fits_80 hl (by decide) rfl (fun ls hl => ?_)
        refine lv_iinc (v := (x6 + (-1))) (lv' := [(6, .int (x6 + (-1))), (5, .int x6), (4, .int (x4 + 0)), (7, .int r4), (0, .ref (Γ.1 66)), (1, .int x1), (2, .int x2)]) X.x X.b dX7_fits_82 hl (k := 6) rfl rfl (by decide) rfl (fun ls hl => ?_)
        refine lv_goto (tgt := 39) X.x X.b dX7_fits_85 (by decide) ?_
        exact H39 x1 x2 (x4 + 0) x6 (x6 + (-1)) σ4 _ _ _ h M (lv_sub hl [4, 5, 6, 2, 1, 0] rfl)
    · have h := it_f c7 h
      refine lv_iconst (v := 1) X.x X.b dX7_fits_60 (by decide) ?_
      refine lv_goto (tgt := 65) X.x X.b dX7_fits_61 (by decide) ?_
      refine lv_iadd X.x X.b dX7_fits_65 ?_
      refine lv_istore (lv' := [(4, .int (x4 + 1)), (7, .int r4), (0, .ref (Γ.1 66)), (1, .int x1), (2, .int x2), (5, .int x5), (6, .int x6)]) X.x X.b dX7_fits_66 hl (by decide) rfl (fun ls hl => ?_)
      refine lv_iload X.x X.b dX7_fits_68 (lv_at hl 1 rfl) ?_
      refine lv_if_eq (tgt := 78) X.x X.b dX7_fits_70 (by decide) (fun c6 => ?_) (fun c6 => ?_)
      · have h := it_t c6 h
        refine lv_iload X.x X.b dX7_fits_78 (lv_at hl 5 rfl) ?_
        refine lv_istore (lv' := [(5, .int x5), (4, .int (x4 + 1)), (7, .int r4), (0, .ref (Γ.1 66)), (1, .int x1), (2, .int x2), (6, .int x6)]) X.x X.b dX7_fits_80 hl (by decide) rfl (fun ls hl => ?_)
        refine lv_iinc (v := (x6 + (-1))) (lv' := [(6, .int (x6 + (-1))), (5, .int x5), (4, .int (x4 + 1)), (7, .int r4), (0, .ref (Γ.1 66)), (1, .int x1), (2, .int x2)]) X.x X.b dX7_fits_82 hl (k := 6) rfl rfl (by decide) rfl (fun ls hl => ?_)
        refine lv_goto (tgt := 39) X.x X.b dX7_fits_85 (by decide) ?_
        exact H39 x1 x2 (x4 + 1) x5 (x6 + (-1)) σ4 _ _ _ h M (lv_sub hl [4, 5, 6, 2, 1, 0] rfl)
      · have h := it_f c6 h
        refine lv_iload X.x X.b dX7_fits_73 (lv_at hl 6 rfl) ?_
        refine lv_goto (tgt := 80) X.x X.b dX7_fits_75 (by decide) ?_
        refine lv_istore (lv' := [(5, .int x6), (4, .int (x4 + 1)), (7, .int r4), (0, .ref (Γ.1 66)), (1, .int x1), (2, .int x2), (6, .int x6)]) X.x X.b dX7_fits_80 hl (by decide) rfl (fun ls hl => ?_)
        refine lv_iinc (v := (x6 + (-1))) (lv' := [(6, .int (x6 + (-1))), (5, .int x6), (4, .int (x4 + 1)), (7, .int r4), (0, .ref (Γ.1 66)), (1, .int x1), (2, .int x2)]) X.x X.b dX7_fits_82 hl (k := 6) rfl rfl (by decide) rfl (fun ls hl => ?_)
        refine lv_goto (tgt := 39) X.x X.b dX7_fits_85 (by decide) ?_
        exact H39 x1 x2 (x4 + 1) x6 (x6 + (-1)) σ4 _ _ _ h M (lv_sub hl [4, 5, 6, 2, 1, 0] rfl)
def f_X7_fits_L39 : Nat → Int32 → Int32 → Int32 → Int32 → Int32 → St → Rs
  | 0 => fun _ _ _ _ _ _ => none
  | n + 1 => fun x1 x2 x4 x5 x6 σ => f_X7_fits_b39 (f_X7_fits_L39 n) x1 x2 x4 x5 x6 σ
theorem u_X7_fits_L39 {l : Launch} {Γ : Gm} {p : Program} {e : Env} {s : State} {m : MethodId} {args : Array Value} {below : List Frame} {meth : Method} {c : Code} {r : Int32} {σ' : St} (X : Cx p s m args meth c cX7_fits RX7 8 (some .int) Γ) : ∀ (n : Nat) (x1 : Int32) (x2 : Int32) (x4 : Int32) (x5 : Int32) (x6 : Int32) (σ : St) (H : Heap) (locs : List Loc) (ls : Array Slot), f_X7_fits_L39 n x1 x2 x4 x5 x6 σ = some (r, σ') → Mv Γ σ s H locs → lv_has ls 8 [(0, .ref (Γ.1 66)), (1, .int x1), (2, .int x2), (4, .int x4), (5, .int x5), (6, .int x6)] → W p l e (rmd 6) s m args below meth c H locs 0 0 (MQ below (Qi Γ r σ' s.heap.size) args s 0 0 (Rg Γ s.heap.size)) (F0 m 39 ls []) := by
  intro n
  induction n with
  | zero => intro x1 x2 x4 x5 x6 σ H locs ls h; cases h
  | succ n ih => intro x1 x2 x4 x5 x6 σ H locs ls h; exact u_X7_fits_b39 X  ih x1 x2 x4 x5 x6 σ H locs ls h
def f_X7_fits_b18 (x1 : Int32) (x2 : Int32) (y0 : Int32) (σ : St) : Rs :=
  if y0 = 0 then (
    f_X7_fits_L39 LF x1 x2 0 (-1) 50 σ
  ) else (
    ob (f_X7_error y0 σ) fun r1 σ1 => (
    some (r1, σ1))
  )
set_option maxRecDepth 100000 in
set_option maxHeartbeats 4000000 in
theorem u_X7_fits_b18 {l : Launch} {Γ : Gm} {p : Program} {e : Env} {s : State} {m : MethodId} {args : Array Value} {below : List Frame} {meth : Method} {c : Code} {r : Int32} {σ' : St} (X : Cx p s m args meth c cX7_fits RX7 8 (some .int) Γ) (x1 : Int32) (x2 : Int32) (y0 : Int32) (σ : St) (H : Heap) (locs : List Loc) (ls : Array Slot) (h : f_X7_fits_b18 x1 x2 y0 σ = some (r, σ')) (M : Mv Γ σ s H locs) (hl : lv_has ls 8 [(0, .ref (Γ.1 66)), (1, .int x1), (2, .int x2)]) : W p l e (rmd 6) s m args below meth c H locs 0 0 (MQ below (Qi Γ r σ' s.heap.size) args s 0 0 (Rg Γ s.heap.size)) (F0 m 18 ls [.int y0]) := by
  unfold f_X7_fits_b18 at h
  refine lv_istore_n (lv' := [(3, .int y0), (0, .ref (Γ.1 66)), (1, .int x1), (2, .int x2)]) X.x X.b dX7_fits_18 rfl hl (by decide) rfl (fun ls hl => ?_)
  refine lv_iload_n X.x X.b dX7_fits_19 rfl (lv_at hl 0 rfl) ?_
  refine lv_if_eq (tgt := 29) X.x X.b dX7_fits_20 (by decide) (fun c2 => ?_) (fun c2 => ?_)
  · have h := it_t c2 h
    refine lv_iconst (v := 0) X.x X.b dX7_fits_29 (by decide) ?_
    refine lv_istore (lv' := [(4, .int 0), (3, .int y0), (0, .ref (Γ.1 66)), (1, .int x1), (2, .int x2)]) X.x X.b dX7_fits_30 hl (by decide) rfl (fun ls hl => ?_)
    refine lv_iconst (v := (-1)) X.x X.b dX7_fits_32 (by decide) ?_
    refine lv_istore (lv' := [(5, .int (-1)), (4, .int 0), (3, .int y0), (0, .ref (Γ.1 66)), (1, .int x1), (2, .int x2)]) X.x X.b dX7_fits_33 hl (by decide) rfl (fun ls hl => ?_)
    refine lv_bipush (v := 50) X.x X.b dX7_fits_35 (by decide) ?_
    refine lv_istore (lv' := [(6, .int 50), (5, .int (-1)), (4, .int 0), (3, .int y0), (0, .ref (Γ.1 66)), (1, .int x1), (2, .int x2)]) X.x X.b dX7_fits_37 hl (by decide) rfl (fun ls hl => ?_)
    exact u_X7_fits_L39 X LF x1 x2 0 (-1) 50 σ _ _ _ h M (lv_sub hl [4, 5, 6, 2, 1, 0] rfl)
  · have h := it_f c2 h
    refine lv_aload_n X.x X.b dX7_fits_23 rfl (lv_at hl 1 rfl) ?_
    refine lv_iload_n X.x X.b dX7_fits_24 rfl (lv_at hl 0 rfl) ?_
    obtain ⟨r1, σ1, h1, h⟩ := ob_e h
    refine r_runI M (r_callV (As := [.int y0]) X M (lv_sub hl [] rfl) (T_X7_error h1 _) cal_X7_error q802 ⟨by decide, by decide⟩ hq_66 (el_66 _ _) rfl rfl rfl (Nat.le_of_ble_eq_true rfl) ⟨Nat.le_refl _, Nat.le_refl _⟩ dX7_fits_25) (fun H locs M => ?_)
    clear h1
    exact r_iret X M rfl h dX7_fits_28
/-- StreetNumbersModel.fits(II)I -/
def f_X7_fits (x1 : Int32) (x2 : Int32) (σ : St) : Rs :=
  ob (f_X7_in x2 0 1 σ) fun r1 σ1 => (
  if r1 = 0 then (
    f_X7_fits_b18 x1 x2 1 σ1
  ) else (
    ob (f_X7_lacks x1 σ1) fun r2 σ2 => (
    f_X7_fits_b18 x1 x2 r2 σ2)
  ))
set_option maxRecDepth 100000 in
set_option maxHeartbeats 4000000 in
theorem T_X7_fits {l : Launch} {Γ : Gm} {x1 : Int32} {x2 : Int32} {σ : St} {r : Int32} {σ' : St} (h : f_X7_fits x1 x2 σ = some (r, σ')) : MetI l yX7_fits cX7_fits 8 .int 6 Γ σ [.ref (Γ.1 66), .int x1, .int x2] r σ' := by
  intro sz
  refine met_in (by decide) (Nat.le_of_ble_eq_true rfl) (fun p e s m args below meth c ls X hsz M hl => ?_)
  subst hsz
  have X : Cx p s m args meth c cX7_fits RX7 8 (some .int) Γ := X
  have hl : lv_has ls 8 [(0, .ref (Γ.1 66)), (1, .int x1), (2, .int x2)] := hl
  unfold f_X7_fits at h
  refine lv_iload_n X.x X.b dX7_fits_0 rfl (lv_at hl 2 rfl) ?_
  refine lv_iconst (v := 0) X.x X.b dX7_fits_1 (by decide) ?_
  refine lv_iconst (v := 1) X.x X.b dX7_fits_2 (by decide) ?_
  obtain ⟨r1, σ1, h1, h⟩ := ob_e h
  refine r_runI M (r_callS (As := [.int x2, .int 0, .int 1]) X M (lv_sub hl [] rfl) (T_X7_in h1 _) cal_X7_in q799 ⟨by decide, by decide⟩ rfl rfl (Nat.le_of_ble_eq_true rfl) ⟨Nat.le_refl _, Nat.le_refl _⟩ dX7_fits_3) (fun H locs M => ?_)
  clear h1
  refine lv_if_eq (tgt := 17) X.x X.b dX7_fits_6 (by decide) (fun c3 => ?_) (fun c3 => ?_)
  · have h := it_t c3 h
    refine lv_iconst (v := 1) X.x X.b dX7_fits_17 (by decide) ?_
    exact u_X7_fits_b18 X x1 x2 1 σ1 _ _ _ h M (lv_sub hl [0, 1, 2] rfl)
  · have h := it_f c3 h
    refine lv_aload_n X.x X.b dX7_fits_9 rfl (lv_at hl 0 rfl) ?_
    refine lv_iload_n X.x X.b dX7_fits_10 rfl (lv_at hl 1 rfl) ?_
    obtain ⟨r2, σ2, h2, h⟩ := ob_e h
    refine r_runI M (r_callV (As := [.int x1]) X M (lv_sub hl [] rfl) (T_X7_lacks h2 _) cal_X7_lacks q1047 ⟨by decide, by decide⟩ hq_66 (el_66 _ _) rfl rfl rfl (Nat.le_of_ble_eq_true rfl) ⟨Nat.le_refl _, Nat.le_refl _⟩ dX7_fits_11) (fun H locs M => ?_)
    clear h2
    refine lv_goto (tgt := 18) X.x X.b dX7_fits_14 (by decide) ?_
    exact u_X7_fits_b18 X x1 x2 r2 σ2 _ _ _ h M (lv_sub hl [0, 1, 2] rfl)
def f_X7_wouldBe_b4 (k4 : (Int32 → Int32 → Int32 → St → Rs)) (x1 : Int32) (x2 : Int32) (x3 : Int32) (σ : St) : Rs :=
  if inb 5 382 then (
  if (σ 67 (5 : Int32).toNatClampNeg) ≤ x3 then (
    some (x2, σ)
  ) else (
    ob (f_X7_its x3 3 σ) fun r2 σ2 => (
    ob (f_X7_harmOf x3 (x1 * (r2 + 1)) σ2) fun r3 σ3 => (
    k4 x1 (x2 + r3) (x3 + 1) σ3))
  )) else none
set_option maxRecDepth 100000 in
set_option maxHeartbeats 4000000 in
theorem u_X7_wouldBe_b4 {l : Launch} {Γ : Gm} {p : Program} {e : Env} {s : State} {m : MethodId} {args : Array Value} {below : List Frame} {meth : Method} {c : Code} {r : Int32} {σ' : St} {k4 : Int32 → Int32 → Int32 → St → Rs} (X : Cx p s m args meth c cX7_wouldBe RX7 4 (some .int) Γ) (H4 : ∀ (x1 : Int32) (x2 : Int32) (x3 : Int32) (σ : St) (H : Heap) (locs : List Loc) (ls : Array Slot), k4 x1 x2 x3 σ = some (r, σ') → Mv Γ σ s H locs → lv_has ls 4 [(0, .ref (Γ.1 66)), (1, .int x1), (2, .int x2), (3, .int x3)] → W p l e (rmd 5) s m args below meth c H locs 0 0 (MQ below (Qi Γ r σ' s.heap.size) args s 0 0 (Rg Γ s.heap.size)) (F0 m 4 ls [])) (x1 : Int32) (x2 : Int32) (x3 : Int32) (σ : St) (H : Heap) (locs : List Loc) (ls : Array Slot) (h : f_X7_wouldBe_b4 k4 x1 x2 x3 σ = some (r, σ')) (M : Mv Γ σ s H locs) (hl : lv_has ls 4 [(0, .ref (Γ.1 66)), (1, .int x1), (2, .int x2), (3, .int x3)]) : W p l e (rmd 5) s m args below meth c H locs 0 0 (MQ below (Qi Γ r σ' s.heap.size) args s 0 0 (Rg Γ s.heap.size)) (F0 m 4 ls []) := by
  unfold f_X7_wouldBe_b4 at h
  refine lv_iload_n X.x X.b dX7_wouldBe_4 rfl (lv_at hl 3 rfl) ?_
  refine lv_aload_n X.x X.b dX7_wouldBe_5 rfl (lv_at hl 0 rfl) ?_
  refine r_get X M hq_66 (el_66 _ _) rfl inX7 0 (by decide) q728 rfl rfl dX7_wouldBe_6 ?_
  refine lv_iconst (v := 5) X.x X.b dX7_wouldBe_9 (by decide) ?_
  obtain ⟨c1, h⟩ := it_n h
  refine r_iald (q := 67) (n := 382) X M rfl c1 dX7_wouldBe_10 ?_
  refine lv_icmp_ge (tgt := 38) X.x X.b dX7_wouldBe_11 (by decide) (fun c4 => ?_) (fun c4 => ?_)
  · have h := it_t c4 h
    refine lv_iload_n X.x X.b dX7_wouldBe_38 rfl (lv_at hl 2 rfl) ?_
    exact r_iret X M rfl h dX7_wouldBe_39
  · have h := it_f c4 h
    refine lv_iload_n X.x X.b dX7_wouldBe_14 rfl (lv_at hl 2 rfl) ?_
    refine lv_aload_n X.x X.b dX7_wouldBe_15 rfl (lv_at hl 0 rfl) ?_
    refine lv_iload_n X.x X.b dX7_wouldBe_16 rfl (lv_at hl 3 rfl) ?_
    refine lv_iload_n X.x X.b dX7_wouldBe_17 rfl (lv_at hl 1 rfl) ?_
    refine lv_aload_n X.x X.b dX7_wouldBe_18 rfl (lv_at hl 0 rfl) ?_
    refine lv_iload_n X.x X.b dX7_wouldBe_19 rfl (lv_at hl 3 rfl) ?_
    refine lv_iconst (v := 3) X.x X.b dX7_wouldBe_20 (by decide) ?_
    obtain ⟨r2, σ2, h2, h⟩ := ob_e h
    refine r_runI M (r_callV (As := [.int x3, .int 3]) X M (lv_sub hl [] rfl) (T_X7_its h2 _) cal_X7_its q874 ⟨by decide, by decide⟩ hq_66 (el_66 _ _) rfl rfl rfl (Nat.le_of_ble_eq_true rfl) ⟨Nat.le_refl _, Nat.le_refl _⟩ dX7_wouldBe_21) (fun H locs M => ?_)
    clear h2
    refine lv_iconst (v := 1) X.x X.b dX7_wouldBe_24 (by decide) ?_
    refine lv_iadd X.x X.b dX7_wouldBe_25 ?_
    refine lv_imul X.x X.b dX7_wouldBe_26 ?_
    obtain ⟨r3, σ3, h3, h⟩ := ob_e h
    refine r_runI M (r_callV (As := [.int x3, .int (x1 * (r2 + 1))]) X M (lv_sub hl [] rfl) (T_X7_harmOf h3 _) cal_X7_harmOf q943 ⟨by decide, by decide⟩ hq_66 (el_66 _ _) rfl rfl rfl (Nat.le_of_ble_eq_true rfl) ⟨Nat.le_refl _, Nat.le_refl _⟩ dX7_wouldBe_27) (fun H locs M => ?_)
    clear h3
    refine lv_iadd X.x X.b dX7_wouldBe_30 ?_
    refine lv_istore_n (lv' := [(2, .int (x2 + r3)), (0, .ref (Γ.1 66)), (1, .int x1), (3, .int x3)]) X.x X.b dX7_wouldBe_31 rfl hl (by decide) rfl (fun ls hl => ?_)
    refine lv_iinc (v := (x3 + 1)) (lv' := [(3, .int (x3 + 1)), (2, .int (x2 + r3)), (0, .ref (Γ.1 66)), (1, .int x1)]) X.x X.b dX7_wouldBe_32 hl (k := 3) rfl rfl (by decide) rfl (fun ls hl => ?_)
    refine lv_goto (tgt := 4) X.x X.b dX7_wouldBe_35 (by decide) ?_
    exact H4 x1 (x2 + r3) (x3 + 1) σ3 _ _ _ h M (lv_sub hl [2, 3, 1, 0] rfl)
def f_X7_wouldBe_L4 : Nat → Int32 → Int32 → Int32 → St → Rs
  | 0 => fun _ _ _ _ => none
  | n + 1 => fun x1 x2 x3 σ => f_X7_wouldBe_b4 (f_X7_wouldBe_L4 n) x1 x2 x3 σ
theorem u_X7_wouldBe_L4 {l : Launch} {Γ : Gm} {p : Program} {e : Env} {s : State} {m : MethodId} {args : Array Value} {below : List Frame} {meth : Method} {c : Code} {r : Int32} {σ' : St} (X : Cx p s m args meth c cX7_wouldBe RX7 4 (some .int) Γ) : ∀ (n : Nat) (x1 : Int32) (x2 : Int32) (x3 : Int32) (σ : St) (H : Heap) (locs : List Loc) (ls : Array Slot), f_X7_wouldBe_L4 n x1 x2 x3 σ = some (r, σ') → Mv Γ σ s H locs → lv_has ls 4 [(0, .ref (Γ.1 66)), (1, .int x1), (2, .int x2), (3, .int x3)] → W p l e (rmd 5) s m args below meth c H locs 0 0 (MQ below (Qi Γ r σ' s.heap.size) args s 0 0 (Rg Γ s.heap.size)) (F0 m 4 ls []) := by
  intro n
  induction n with
  | zero => intro x1 x2 x3 σ H locs ls h; cases h
  | succ n ih => intro x1 x2 x3 σ H locs ls h; exact u_X7_wouldBe_b4 X  ih x1 x2 x3 σ H locs ls h
/-- StreetNumbersModel.wouldBe(I)I -/
def f_X7_wouldBe (x1 : Int32) (σ : St) : Rs :=
  f_X7_wouldBe_L4 LF x1 0 0 σ
set_option maxRecDepth 100000 in
set_option maxHeartbeats 4000000 in
theorem T_X7_wouldBe {l : Launch} {Γ : Gm} {x1 : Int32} {σ : St} {r : Int32} {σ' : St} (h : f_X7_wouldBe x1 σ = some (r, σ')) : MetI l yX7_wouldBe cX7_wouldBe 4 .int 5 Γ σ [.ref (Γ.1 66), .int x1] r σ' := by
  intro sz
  refine met_in (by decide) (Nat.le_of_ble_eq_true rfl) (fun p e s m args below meth c ls X hsz M hl => ?_)
  subst hsz
  have X : Cx p s m args meth c cX7_wouldBe RX7 4 (some .int) Γ := X
  have hl : lv_has ls 4 [(0, .ref (Γ.1 66)), (1, .int x1)] := hl
  unfold f_X7_wouldBe at h
  refine lv_iconst (v := 0) X.x X.b dX7_wouldBe_0 (by decide) ?_
  refine lv_istore_n (lv' := [(2, .int 0), (0, .ref (Γ.1 66)), (1, .int x1)]) X.x X.b dX7_wouldBe_1 rfl hl (by decide) rfl (fun ls hl => ?_)
  refine lv_iconst (v := 0) X.x X.b dX7_wouldBe_2 (by decide) ?_
  refine lv_istore_n (lv' := [(3, .int 0), (2, .int 0), (0, .ref (Γ.1 66)), (1, .int x1)]) X.x X.b dX7_wouldBe_3 rfl hl (by decide) rfl (fun ls hl => ?_)
  exact u_X7_wouldBe_L4 X LF x1 0 0 σ _ _ _ h M (lv_sub hl [2, 3, 1, 0] rfl)
def f_X7_gap_b26 (k26 : (Int32 → Int32 → Int32 → Int32 → St → Rs)) (x1 : Int32) (x2 : Int32) (x3 : Int32) (x4 : Int32) (σ : St) : Rs :=
  if 50 < x4 then (
    if x1 = 0 then (
      some (x2, σ)
    ) else (
      some (x3, σ)
    )
  ) else (
    ob (f_X7_wouldBe x4 σ) fun r2 σ2 => (
    if x3 ≤ r2 then (
      if x3 ≤ r2 then (
        k26 x1 x2 x3 (x4 + 1) σ2
      ) else (
        k26 x1 x2 r2 (x4 + 1) σ2
      )
    ) else (
      if x3 ≤ r2 then (
        k26 x1 x4 x3 (x4 + 1) σ2
      ) else (
        k26 x1 x4 r2 (x4 + 1) σ2
      )
    ))
  )
set_option maxRecDepth 100000 in
set_option maxHeartbeats 4000000 in
theorem u_X7_gap_b26 {l : Launch} {Γ : Gm} {p : Program} {e : Env} {s : State} {m : MethodId} {args : Array Value} {below : List Frame} {meth : Method} {c : Code} {r : Int32} {σ' : St} {k26 : Int32 → Int32 → Int32 → Int32 → St → Rs} (X : Cx p s m args meth c cX7_gap RX7 6 (some .int) Γ) (H26 : ∀ (x1 : Int32) (x2 : Int32) (x3 : Int32) (x4 : Int32) (σ : St) (H : Heap) (locs : List Loc) (ls : Array Slot), k26 x1 x2 x3 x4 σ = some (r, σ') → Mv Γ σ s H locs → lv_has ls 6 [(0, .ref (Γ.1 66)), (1, .int x1), (2, .int x2), (3, .int x3), (4, .int x4)] → W p l e (rmd 6) s m args below meth c H locs 0 0 (MQ below (Qi Γ r σ' s.heap.size) args s 0 0 (Rg Γ s.heap.size)) (F0 m 26 ls [])) (x1 : Int32) (x2 : Int32) (x3 : Int32) (x4 : Int32) (σ : St) (H : Heap) (locs : List Loc) (ls : Array Slot) (h : f_X7_gap_b26 k26 x1 x2 x3 x4 σ = some (r, σ')) (M : Mv Γ σ s H locs) (hl : lv_has ls 6 [(0, .ref (Γ.1 66)), (1, .int x1), (2, .int x2), (3, .int x3), (4, .int x4)]) : W p l e (rmd 6) s m args below meth c H locs 0 0 (MQ below (Qi Γ r σ' s.heap.size) args s 0 0 (Rg Γ s.heap.size)) (F0 m 26 ls []) := by
  unfold f_X7_gap_b26 at h
  refine lv_iload X.x X.b dX7_gap_26 (lv_at hl 4 rfl) ?_
  refine lv_bipush (v := 50) X.x X.b dX7_gap_28 (by decide) ?_
  refine lv_icmp_gt (tgt := 73) X.x X.b dX7_gap_30 (by decide) (fun c6 => ?_) (fun c6 => ?_)
  · have h := it_t c6 h
    refine lv_iload_n X.x X.b dX7_gap_73 rfl (lv_at hl 1 rfl) ?_
    refine lv_if_ne (tgt := 81) X.x X.b dX7_gap_74 (by decide) (fun c1 => ?_) (fun c1 => ?_)
    · have h := it_f c1 h
      refine lv_iload_n X.x X.b dX7_gap_81 rfl (lv_at hl 3 rfl) ?_
      exact r_iret X M rfl h dX7_gap_82
    · have h := it_t c1 h
      refine lv_iload_n X.x X.b dX7_gap_77 rfl (lv_at hl 2 rfl) ?_
      refine lv_goto (tgt := 82) X.x X.b dX7_gap_78 (by decide) ?_
      exact r_iret X M rfl h dX7_gap_82
  · have h := it_f c6 h
    refine lv_aload_n X.x X.b dX7_gap_33 rfl (lv_at hl 0 rfl) ?_
    refine lv_iload X.x X.b dX7_gap_34 (lv_at hl 4 rfl) ?_
    obtain ⟨r2, σ2, h2, h⟩ := ob_e h
    refine r_runI M (r_callV (As := [.int x4]) X M (lv_sub hl [] rfl) (T_X7_wouldBe h2 _) cal_X7_wouldBe q987 ⟨by decide, by decide⟩ hq_66 (el_66 _ _) rfl rfl rfl (Nat.le_of_ble_eq_true rfl) ⟨Nat.le_refl _, Nat.le_refl _⟩ dX7_gap_36) (fun H locs M => ?_)
    clear h2
    refine lv_istore (lv' := [(5, .int r2), (0, .ref (Γ.1 66)), (1, .int x1), (2, .int x2), (3, .int x3), (4, .int x4)]) X.x X.b dX7_gap_39 hl (by decide) rfl (fun ls hl => ?_)
    refine lv_iload X.x X.b dX7_gap_41 (lv_at hl 0 rfl) ?_
    refine lv_iload_n X.x X.b dX7_gap_43 rfl (lv_at hl 4 rfl) ?_
    refine lv_icmp_ge (tgt := 52) X.x X.b dX7_gap_44 (by decide) (fun c5 => ?_) (fun c5 => ?_)
    · have h := it_t c5 h
      refine lv_iload_n X.x X.b dX7_gap_52 rfl (lv_at hl 3 rfl) ?_
      refine lv_istore_n (lv' := [(2, .int x2), (5, .int r2), (0, .ref (Γ.1 66)), (1, .int x1), (3, .int x3), (4, .int x4)]) X.x X.b dX7_gap_53 rfl hl (by decide) rfl (fun ls hl => ?_)
      refine lv_iload X.x X.b dX7_gap_54 (lv_at hl 1 rfl) ?_
      refine lv_iload_n X.x X.b dX7_gap_56 rfl (lv_at hl 4 rfl) ?_
      refine lv_icmp_ge (tgt := 65) X.x X.b dX7_gap_57 (by decide) (fun c3 => ?_) (fun c3 => ?_)
      · have h := it_t c3 h
        refine lv_iload_n X.x X.b dX7_gap_65 rfl (lv_at hl 4 rfl) ?_
        refine lv_istore_n (lv' := [(3, .int x3), (2, .int x2), (5, .int r2), (0, .ref (Γ.1 66)), (1, .int x1), (4, .int x4)]) X.x X.b dX7_gap_66 rfl hl (by decide) rfl (fun ls hl => ?_)
        refine lv_iinc (v := (x4 + 1)) (lv' := [(4, .int (x4 + 1)), (3, .int x3), (2, .int x2), (5, .int r2), (0, .ref (Γ.1 66)), (1, .int x1)]) X.x X.b dX7_gap_67 hl (k := 5) rfl rfl (by decide) rfl (fun ls hl => ?_)
        refine lv_goto (tgt := 26) X.x X.b dX7_gap_70 (by decide) ?_
        exact H26 x1 x2 x3 (x4 + 1) σ2 _ _ _ h M (lv_sub hl [4, 5, 2, 1, 0] rfl)
      · have h := it_f c3 h
        refine lv_iload X.x X.b dX7_gap_60 (lv_at hl 1 rfl) ?_
        refine lv_goto (tgt := 66) X.x X.b dX7_gap_62 (by decide) ?_
        refine lv_istore_n (lv' := [(3, .int r2), (2, .int x2), (5, .int r2), (0, .ref (Γ.1 66)), (1, .int x1), (4, .int x4)]) X.x X.b dX7_gap_66 rfl hl (by decide) rfl (fun ls hl => ?_)
        refine lv_iinc (v := (x4 + 1)) (lv' := [(4, .int (x4 + 1)), (3, .int r2), (2, .int x2), (5, .int r2), (0, .ref (Γ.1 66)), (1, .int x1)]) X.x X.b dX7_gap_67 hl (k := 5) rfl rfl (by decide) rfl (fun ls hl => ?_)
        refine lv_goto (tgt := 26) X.x X.b dX7_gap_70 (by decide) ?_
        exact H26 x1 x2 r2 (x4 + 1) σ2 _ _ _ h M (lv_sub hl [4, 5, 2, 1, 0] rfl)
    · have h := it_f c5 h
      refine lv_iload X.x X.b dX7_gap_47 (lv_at hl 5 rfl) ?_
      refine lv_goto (tgt := 53) X.x X.b dX7_gap_49 (by decide) ?_
      refine lv_istore_n (lv' := [(2, .int x4), (5, .int r2), (0, .ref (Γ.1 66)), (1, .int x1), (3, .int x3), (4, .int x4)]) X.x X.b dX7_gap_53 rfl hl (by decide) rfl (fun ls hl => ?_)
      refine lv_iload X.x X.b dX7_gap_54 (lv_at hl 1 rfl) ?_
      refine lv_iload_n X.x X.b dX7_gap_56 rfl (lv_at hl 4 rfl) ?_
      refine lv_icmp_ge (tgt := 65) X.x X.b dX7_gap_57 (by decide) (fun c4 => ?_) (fun c4 => ?_)
      · have h := it_t c4 h
        refine lv_iload_n X.x X.b dX7_gap_65 rfl (lv_at hl 4 rfl) ?_
        refine lv_istore_n (lv' := [(3, .int x3), (2, .int x4), (5, .int r2), (0, .ref (Γ.1 66)), (1, .int x1), (4, .int x4)]) X.x X.b dX7_gap_66 rfl hl (by decide) rfl (fun ls hl => ?_)
        refine lv_iinc (v := (x4 + 1)) (lv' := [(4, .int (x4 + 1)), (3, .int x3), (2, .int x4), (5, .int r2), (0, .ref (Γ.1 66)), (1, .int x1)]) X.x X.b dX7_gap_67 hl (k := 5) rfl rfl (by decide) rfl (fun ls hl => ?_)
        refine lv_goto (tgt := 26) X.x X.b dX7_gap_70 (by decide) ?_
        exact H26 x1 x4 x3 (x4 + 1) σ2 _ _ _ h M (lv_sub hl [4, 5, 2, 1, 0] rfl)
      · have h := it_f c4 h
        refine lv_iload X.x X.b dX7_gap_60 (lv_at hl 1 rfl) ?_
        refine lv_goto (tgt := 66) X.x X.b dX7_gap_62 (by decide) ?_
        refine lv_istore_n (lv' := [(3, .int r2), (2, .int x4), (5, .int r2), (0, .ref (Γ.1 66)), (1, .int x1), (4, .int x4)]) X.x X.b dX7_gap_66 rfl hl (by decide) rfl (fun ls hl => ?_)
        refine lv_iinc (v := (x4 + 1)) (lv' := [(4, .int (x4 + 1)), (3, .int r2), (2, .int x4), (5, .int r2), (0, .ref (Γ.1 66)), (1, .int x1)]) X.x X.b dX7_gap_67 hl (k := 5) rfl rfl (by decide) rfl (fun ls hl => ?_)
        refine lv_goto (tgt := 26) X.x X.b dX7_gap_70 (by decide) ?_
        exact H26 x1 x4 r2 (x4 + 1) σ2 _ _ _ h M (lv_sub hl [4, 5, 2, 1, 0] rfl)
def f_X7_gap_L26 : Nat → Int32 → Int32 → Int32 → Int32 → St → Rs
  | 0 => fun _ _ _ _ _ => none
  | n + 1 => fun x1 x2 x3 x4 σ => f_X7_gap_b26 (f_X7_gap_L26 n) x1 x2 x3 x4 σ
theorem u_X7_gap_L26 {l : Launch} {Γ : Gm} {p : Program} {e : Env} {s : State} {m : MethodId} {args : Array Value} {below : List Frame} {meth : Method} {c : Code} {r : Int32} {σ' : St} (X : Cx p s m args meth c cX7_gap RX7 6 (some .int) Γ) : ∀ (n : Nat) (x1 : Int32) (x2 : Int32) (x3 : Int32) (x4 : Int32) (σ : St) (H : Heap) (locs : List Loc) (ls : Array Slot), f_X7_gap_L26 n x1 x2 x3 x4 σ = some (r, σ') → Mv Γ σ s H locs → lv_has ls 6 [(0, .ref (Γ.1 66)), (1, .int x1), (2, .int x2), (3, .int x3), (4, .int x4)] → W p l e (rmd 6) s m args below meth c H locs 0 0 (MQ below (Qi Γ r σ' s.heap.size) args s 0 0 (Rg Γ s.heap.size)) (F0 m 26 ls []) := by
  intro n
  induction n with
  | zero => intro x1 x2 x3 x4 σ H locs ls h; cases h
  | succ n ih => intro x1 x2 x3 x4 σ H locs ls h; exact u_X7_gap_b26 X  ih x1 x2 x3 x4 σ H locs ls h
/-- StreetNumbersModel.gap(I)I -/
def f_X7_gap (x1 : Int32) (σ : St) : Rs :=
  ob (f_X7_in x1 0 1 σ) fun r1 σ1 => (
  if r1 = 0 then (
    ob (f_X7_error 1 σ1) fun r3 σ3 => (
    some (r3, σ3))
  ) else (
    ob (f_X7_wouldBe 1 σ1) fun r2 σ2 => (
    f_X7_gap_L26 LF x1 1 r2 2 σ2)
  ))
set_option maxRecDepth 100000 in
set_option maxHeartbeats 4000000 in
theorem T_X7_gap {l : Launch} {Γ : Gm} {x1 : Int32} {σ : St} {r : Int32} {σ' : St} (h : f_X7_gap x1 σ = some (r, σ')) : MetI l yX7_gap cX7_gap 6 .int 6 Γ σ [.ref (Γ.1 66), .int x1] r σ' := by
  intro sz
  refine met_in (by decide) (Nat.le_of_ble_eq_true rfl) (fun p e s m args below meth c ls X hsz M hl => ?_)
  subst hsz
  have X : Cx p s m args meth c cX7_gap RX7 6 (some .int) Γ := X
  have hl : lv_has ls 6 [(0, .ref (Γ.1 66)), (1, .int x1)] := hl
  unfold f_X7_gap at h
  refine lv_iload_n X.x X.b dX7_gap_0 rfl (lv_at hl 1 rfl) ?_
  refine lv_iconst (v := 0) X.x X.b dX7_gap_1 (by decide) ?_
  refine lv_iconst (v := 1) X.x X.b dX7_gap_2 (by decide) ?_
  obtain ⟨r1, σ1, h1, h⟩ := ob_e h
  refine r_runI M (r_callS (As := [.int x1, .int 0, .int 1]) X M (lv_sub hl [] rfl) (T_X7_in h1 _) cal_X7_in q799 ⟨by decide, by decide⟩ rfl rfl (Nat.le_of_ble_eq_true rfl) ⟨Nat.le_refl _, Nat.le_refl _⟩ dX7_gap_3) (fun H locs M => ?_)
  clear h1
  refine lv_if_ne (tgt := 15) X.x X.b dX7_gap_6 (by decide) (fun c4 => ?_) (fun c4 => ?_)
  · have h := it_f c4 h
    refine lv_iconst (v := 1) X.x X.b dX7_gap_15 (by decide) ?_
    refine lv_istore_n (lv' := [(2, .int 1), (0, .ref (Γ.1 66)), (1, .int x1)]) X.x X.b dX7_gap_16 rfl hl (by decide) rfl (fun ls hl => ?_)
    refine lv_aload_n X.x X.b dX7_gap_17 rfl (lv_at hl 1 rfl) ?_
    refine lv_iconst (v := 1) X.x X.b dX7_gap_18 (by decide) ?_
    obtain ⟨r2, σ2, h2, h⟩ := ob_e h
    refine r_runI M (r_callV (As := [.int 1]) X M (lv_sub hl [] rfl) (T_X7_wouldBe h2 _) cal_X7_wouldBe q987 ⟨by decide, by decide⟩ hq_66 (el_66 _ _) rfl rfl rfl (Nat.le_of_ble_eq_true rfl) ⟨Nat.le_refl _, Nat.le_refl _⟩ dX7_gap_19) (fun H locs M => ?_)
    clear h2
    refine lv_istore_n (lv' := [(3, .int r2), (2, .int 1), (0, .ref (Γ.1 66)), (1, .int x1)]) X.x X.b dX7_gap_22 rfl hl (by decide) rfl (fun ls hl => ?_)
    refine lv_iconst (v := 2) X.x X.b dX7_gap_23 (by decide) ?_
    refine lv_istore (lv' := [(4, .int 2), (3, .int r2), (2, .int 1), (0, .ref (Γ.1 66)), (1, .int x1)]) X.x X.b dX7_gap_24 hl (by decide) rfl (fun ls hl => ?_)
    exact u_X7_gap_L26 X LF x1 1 r2 2 σ2 _ _ _ h M (lv_sub hl [3, 4, 2, 1, 0] rfl)
  · have h := it_t c4 h
    refine lv_aload_n X.x X.b dX7_gap_9 rfl (lv_at hl 0 rfl) ?_
    refine lv_iconst (v := 1) X.x X.b dX7_gap_10 (by decide) ?_
    obtain ⟨r3, σ3, h3, h⟩ := ob_e h
    refine r_runI M (r_callV (As := [.int 1]) X M (lv_sub hl [] rfl) (T_X7_error h3 _) cal_X7_error q802 ⟨by decide, by decide⟩ hq_66 (el_66 _ _) rfl rfl rfl (Nat.le_of_ble_eq_true rfl) ⟨Nat.le_refl _, Nat.le_refl _⟩ dX7_gap_11) (fun H locs M => ?_)
    clear h3
    exact r_iret X M rfl h dX7_gap_14
/-- StreetNumbersModel.harm(II)I -/
def f_X7_harm (x1 : Int32) (x2 : Int32) (σ : St) : Rs :=
  ob (f_X7_isHouse x1 σ) fun r1 σ1 => (
  if r1 = 0 then (
    ob (f_X7_error 1 σ1) fun r2 σ2 => (
    some (r2, σ2))
  ) else (
    ob (f_X7_isNumber x2 σ1) fun r3 σ3 => (
    if r3 = 0 then (
      ob (f_X7_error 1 σ3) fun r4 σ4 => (
      some (r4, σ4))
    ) else (
      ob (f_X7_harmOf x1 x2 σ3) fun r5 σ5 => (
      some (r5, σ5))
    ))
  ))
set_option maxRecDepth 100000 in
set_option maxHeartbeats 4000000 in
theorem T_X7_harm {l : Launch} {Γ : Gm} {x1 : Int32} {x2 : Int32} {σ : St} {r : Int32} {σ' : St} (h : f_X7_harm x1 x2 σ = some (r, σ')) : MetI l yX7_harm cX7_harm 3 .int 5 Γ σ [.ref (Γ.1 66), .int x1, .int x2] r σ' := by
  intro sz
  refine met_in (by decide) (Nat.le_of_ble_eq_true rfl) (fun p e s m args below meth c ls X hsz M hl => ?_)
  subst hsz
  have X : Cx p s m args meth c cX7_harm RX7 3 (some .int) Γ := X
  have hl : lv_has ls 3 [(0, .ref (Γ.1 66)), (1, .int x1), (2, .int x2)] := hl
  unfold f_X7_harm at h
  refine lv_aload_n X.x X.b dX7_harm_0 rfl (lv_at hl 0 rfl) ?_
  refine lv_iload_n X.x X.b dX7_harm_1 rfl (lv_at hl 1 rfl) ?_
  obtain ⟨r1, σ1, h1, h⟩ := ob_e h
  refine r_runI M (r_callV (As := [.int x1]) X M (lv_sub hl [] rfl) (T_X7_isHouse h1 _) cal_X7_isHouse q886 ⟨by decide, by decide⟩ hq_66 (el_66 _ _) rfl rfl rfl (Nat.le_of_ble_eq_true rfl) ⟨Nat.le_refl _, Nat.le_refl _⟩ dX7_harm_2) (fun H locs M => ?_)
  clear h1
  refine lv_if_eq (tgt := 24) X.x X.b dX7_harm_5 (by decide) (fun c7 => ?_) (fun c7 => ?_)
  · have h := it_t c7 h
    refine lv_aload_n X.x X.b dX7_harm_24 rfl (lv_at hl 0 rfl) ?_
    refine lv_iconst (v := 1) X.x X.b dX7_harm_25 (by decide) ?_
    obtain ⟨r2, σ2, h2, h⟩ := ob_e h
    refine r_runI M (r_callV (As := [.int 1]) X M (lv_sub hl [] rfl) (T_X7_error h2 _) cal_X7_error q802 ⟨by decide, by decide⟩ hq_66 (el_66 _ _) rfl rfl rfl (Nat.le_of_ble_eq_true rfl) ⟨Nat.le_refl _, Nat.le_refl _⟩ dX7_harm_26) (fun H locs M => ?_)
    clear h2
    exact r_iret X M rfl h dX7_harm_29
  · have h := it_f c7 h
    refine lv_iload_n X.x X.b dX7_harm_8 rfl (lv_at hl 2 rfl) ?_
    obtain ⟨r3, σ3, h3, h⟩ := ob_e h
    refine r_runI M (r_callS (As := [.int x2]) X M (lv_sub hl [] rfl) (T_X7_isNumber h3 _) cal_X7_isNumber q867 ⟨by decide, by decide⟩ rfl rfl (Nat.le_of_ble_eq_true rfl) ⟨Nat.le_refl _, Nat.le_refl _⟩ dX7_harm_9) (fun H locs M => ?_)
    clear h3
    refine lv_if_eq (tgt := 24) X.x X.b dX7_harm_12 (by decide) (fun c6 => ?_) (fun c6 => ?_)
    · have h := it_t c6 h
      refine lv_aload_n X.x X.b dX7_harm_24 rfl (lv_at hl 0 rfl) ?_
      refine lv_iconst (v := 1) X.x X.b dX7_harm_25 (by decide) ?_
      obtain ⟨r4, σ4, h4, h⟩ := ob_e h
      refine r_runI M (r_callV (As := [.int 1]) X M (lv_sub hl [] rfl) (T_X7_error h4 _) cal_X7_error q802 ⟨by decide, by decide⟩ hq_66 (el_66 _ _) rfl rfl rfl (Nat.le_of_ble_eq_true rfl) ⟨Nat.le_refl _, Nat.le_refl _⟩ dX7_harm_26) (fun H locs M => ?_)
      clear h4
      exact r_iret X M rfl h dX7_harm_29
    · have h := it_f c6 h
      refine lv_aload_n X.x X.b dX7_harm_15 rfl (lv_at hl 0 rfl) ?_
      refine lv_iload_n X.x X.b dX7_harm_16 rfl (lv_at hl 1 rfl) ?_
      refine lv_iload_n X.x X.b dX7_harm_17 rfl (lv_at hl 2 rfl) ?_
      obtain ⟨r5, σ5, h5, h⟩ := ob_e h
      refine r_runI M (r_callV (As := [.int x1, .int x2]) X M (lv_sub hl [] rfl) (T_X7_harmOf h5 _) cal_X7_harmOf q943 ⟨by decide, by decide⟩ hq_66 (el_66 _ _) rfl rfl rfl (Nat.le_of_ble_eq_true rfl) ⟨Nat.le_refl _, Nat.le_refl _⟩ dX7_harm_18) (fun H locs M => ?_)
      clear h5
      refine lv_goto (tgt := 29) X.x X.b dX7_harm_21 (by decide) ?_
      exact r_iret X M rfl h dX7_harm_29
