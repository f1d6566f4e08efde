def f_X4_sumUpTo_b111 (k47 : (Int32 → Int32 → Int32 → Int32 → Int32 → St → Rs)) (x2 : Int32) (x3 : Int32) (x4 : Int32) (x5 : Int32) (x6 : Int32) (σ : St) : Rs :=
  if inb x2 10 then (
  if inb x6 121 then (
  ol (st σ (32 + x2.toNatClampNeg) x6.toNatClampNeg x4) fun σ3 => (
  if inb x2 10 then (
  if inb x6 121 then (
  ol (st σ3 (43 + x2.toNatClampNeg) x6.toNatClampNeg x5) fun σ6 => (
  k47 x2 x3 x4 x5 (x6 + 1) σ6)) else none) else none)) else none) else none
set_option maxRecDepth 100000 in
set_option maxHeartbeats 4000000 in
theorem u_X4_sumUpTo_b111 {l : Launch} {Γ : Gm} {p : Program} {e : Env} {s : State} {m : MethodId} {args : Array Value} {below : List Frame} {meth : Method} {c : Code} {r : Int32} {σ' : St} {k47 : Int32 → Int32 → Int32 → Int32 → Int32 → St → Rs} (X : Cx p s m args meth c cX4_sumUpTo RX4 9 none Γ) (H47 : ∀ (x2 : Int32) (x3 : Int32) (x4 : Int32) (x5 : Int32) (x6 : Int32) (σ : St) (H : Heap) (locs : List Loc) (ls : Array Slot), k47 x2 x3 x4 x5 x6 σ = some (r, σ') → Mv Γ σ s H locs → lv_has ls 9 [(0, .ref (Γ.1 30)), (1, .ref (Γ.1 1)), (2, .int x2), (3, .int x3), (4, .int x4), (5, .int x5), (6, .int x6)] → W p l e (rmd 5) s m args below meth c H locs 0 0 (MQ below (Qv Γ σ' s.heap.size) args s 0 0 (Rg Γ s.heap.size)) (F0 m 47 ls [])) (x2 : Int32) (x3 : Int32) (x4 : Int32) (x5 : Int32) (x6 : Int32) (σ : St) (H : Heap) (locs : List Loc) (ls : Array Slot) (h : f_X4_sumUpTo_b111 k47 x2 x3 x4 x5 x6 σ = some (r, σ')) (M : Mv Γ σ s H locs) (hl : lv_has ls 9 [(0, .ref (Γ.1 30)), (1, .ref (Γ.1 1)), (2, .int x2), (3, .int x3), (4, .int x4), (5, .int x5), (6, .int x6)]) : W p l e (rmd 5) s m args below meth c H locs 0 0 (MQ below (Qv Γ σ' s.heap.size) args s 0 0 (Rg Γ s.heap.size)) (F0 m 111 ls []) := by
  unfold f_X4_sumUpTo_b111 at h
  refine lv_aload_n X.x X.b dX4_sumUpTo_111 rfl (lv_at hl 0 rfl) ?_
  refine r_get X M hq_30 (el_30 _ _) rfl inX4 1 (by decide) q129 rfl rfl dX4_sumUpTo_112 ?_
  refine lv_iload_n X.x X.b dX4_sumUpTo_115 rfl (lv_at hl 2 rfl) ?_
  obtain ⟨c1, h⟩ := it_n h
  refine r_aald X M hq_31 (el_31 _ _) c1 dX4_sumUpTo_116 ?_
  refine lv_iload X.x X.b dX4_sumUpTo_117 (lv_at hl 6 rfl) ?_
  refine lv_iload X.x X.b dX4_sumUpTo_119 (lv_at hl 4 rfl) ?_
  obtain ⟨c2, h⟩ := it_n h
  obtain ⟨σ3, e3, h⟩ := ol_e h
  refine r_iast (q := (32 + x2.toNatClampNeg)) (n := 121) X M (al_31 _ (in_lt c1)) c2 dX4_sumUpTo_121 (fun H locs M => ?_)
  rw [← e3] at M
  refine lv_aload_n X.x X.b dX4_sumUpTo_122 rfl (lv_at hl 0 rfl) ?_
  refine r_get X M hq_30 (el_30 _ _) rfl inX4 2 (by decide) q130 rfl rfl dX4_sumUpTo_123 ?_
  refine lv_iload_n X.x X.b dX4_sumUpTo_126 rfl (lv_at hl 2 rfl) ?_
  obtain ⟨c4, h⟩ := it_n h
  refine r_aald X M hq_42 (el_42 _ _) c4 dX4_sumUpTo_127 ?_
  refine lv_iload X.x X.b dX4_sumUpTo_128 (lv_at hl 6 rfl) ?_
  refine lv_iload X.x X.b dX4_sumUpTo_130 (lv_at hl 5 rfl) ?_
  obtain ⟨c5, h⟩ := it_n h
  obtain ⟨σ6, e6, h⟩ := ol_e h
  refine r_iast (q := (43 + x2.toNatClampNeg)) (n := 121) X M (al_42 _ (in_lt c4)) c5 dX4_sumUpTo_132 (fun H locs M => ?_)
  rw [← e6] at M
  refine lv_iinc (v := (x6 + 1)) (lv' := [(6, .int (x6 + 1)), (0, .ref (Γ.1 30)), (1, .ref (Γ.1 1)), (2, .int x2), (3, .int x3), (4, .int x4), (5, .int x5)]) X.x X.b dX4_sumUpTo_133 hl (k := 6) rfl rfl (by decide) rfl (fun ls hl => ?_)
  refine lv_goto (tgt := 47) X.x X.b dX4_sumUpTo_136 (by decide) ?_
  exact H47 x2 x3 x4 x5 (x6 + 1) σ6 _ _ _ h M (lv_sub hl [1, 2, 3, 4, 5, 6, 0] rfl)
def f_X4_sumUpTo_b75 (k47 : (Int32 → Int32 → Int32 → Int32 → Int32 → St → Rs)) (x2 : Int32) (x3 : Int32) (x4 : Int32) (x5 : Int32) (x6 : Int32) (y0 : Int32) (σ : St) : Rs :=
  ob (f_X3_harmTo x3 x6 σ) fun r1 σ1 => (
  if 1000000 ≤ y0 then (
    f_X4_sumUpTo_b111 k47 x2 x3 x4 x5 x6 σ1
  ) else (
    if x4 ≤ (y0 + r1) then (
      f_X4_sumUpTo_b111 k47 x2 x3 x4 x5 x6 σ1
    ) else (
      f_X4_sumUpTo_b111 k47 x2 x3 (y0 + r1) x6 x6 σ1
    )
  ))
set_option maxRecDepth 100000 in
set_option maxHeartbeats 4000000 in
theorem u_X4_sumUpTo_b75 {l : Launch} {Γ : Gm} {p : Program} {e : Env} {s : State} {m : MethodId} {args : Array Value} {below : List Frame} {meth : Method} {c : Code} {r : Int32} {σ' : St} {k47 : Int32 → Int32 → Int32 → Int32 → Int32 → St → Rs} (X : Cx p s m args meth c cX4_sumUpTo RX4 9 none Γ) (H47 : ∀ (x2 : Int32) (x3 : Int32) (x4 : Int32) (x5 : Int32) (x6 : Int32) (σ : St) (H : Heap) (locs : List Loc) (ls : Array Slot), k47 x2 x3 x4 x5 x6 σ = some (r, σ') → Mv Γ σ s H locs → lv_has ls 9 [(0, .ref (Γ.1 30)), (1, .ref (Γ.1 1)), (2, .int x2), (3, .int x3), (4, .int x4), (5, .int x5), (6, .int x6)] → W p l e (rmd 5) s m args below meth c H locs 0 0 (MQ below (Qv Γ σ' s.heap.size) args s 0 0 (Rg Γ s.heap.size)) (F0 m 47 ls [])) (x2 : Int32) (x3 : Int32) (x4 : Int32) (x5 : Int32) (x6 : Int32) (y0 : Int32) (σ : St) (H : Heap) (locs : List Loc) (ls : Array Slot) (h : f_X4_sumUpTo_b75 k47 x2 x3 x4 x5 x6 y0 σ = some (r, σ')) (M : Mv Γ σ s H locs) (hl : lv_has ls 9 [(0, .ref (Γ.1 30)), (1, .ref (Γ.1 1)), (2, .int x2), (3, .int x3), (4, .int x4), (5, .int x5), (6, .int x6)]) : W p l e (rmd 5) s m args below meth c H locs 0 0 (MQ below (Qv Γ σ' s.heap.size) args s 0 0 (Rg Γ s.heap.size)) (F0 m 75 ls [.int y0]) := by
  unfold f_X4_sumUpTo_b75 at h
  refine lv_istore (lv' := [(7, .int y0), (0, .ref (Γ.1 30)), (1, .ref (Γ.1 1)), (2, .int x2), (3, .int x3), (4, .int x4), (5, .int x5), (6, .int x6)]) X.x X.b dX4_sumUpTo_75 hl (by decide) rfl (fun ls hl => ?_)
  refine lv_iload X.x X.b dX4_sumUpTo_77 (lv_at hl 0 rfl) ?_
  refine lv_aload_n X.x X.b dX4_sumUpTo_79 rfl (lv_at hl 2 rfl) ?_
  refine lv_iload_n X.x X.b dX4_sumUpTo_80 rfl (lv_at hl 4 rfl) ?_
  refine lv_iload X.x X.b dX4_sumUpTo_81 (lv_at hl 7 rfl) ?_
  obtain ⟨r1, σ1, h1, h⟩ := ob_e h
  refine r_runI M (r_callV (As := [.int x3, .int x6]) X M (lv_sub hl [] rfl) (T_X3_harmTo h1 _) cal_X3_harmTo q483 ⟨by decide, by decide⟩ hq_1 (el_1 _ _) rfl rfl rfl (Nat.le_of_ble_eq_true rfl) ⟨Nat.le_refl _, Nat.le_refl _⟩ dX4_sumUpTo_83) (fun H locs M => ?_)
  clear h1
  refine lv_iadd X.x X.b dX4_sumUpTo_86 ?_
  refine lv_istore (lv' := [(8, .int (y0 + r1)), (7, .int y0), (0, .ref (Γ.1 30)), (1, .ref (Γ.1 1)), (2, .int x2), (3, .int x3), (4, .int x4), (5, .int x5), (6, .int x6)]) X.x X.b dX4_sumUpTo_87 hl (by decide) rfl (fun ls hl => ?_)
  refine lv_iload X.x X.b dX4_sumUpTo_89 (lv_at hl 1 rfl) ?_
  refine lv_ldc (v := 1000000) X.x X.b X.ow (X.ts _ q482) dX4_sumUpTo_91 ?_
  refine lv_icmp_ge (tgt := 111) X.x X.b dX4_sumUpTo_93 (by decide) (fun c3 => ?_) (fun c3 => ?_)
  · have h := it_t c3 h
    exact u_X4_sumUpTo_b111 X H47 x2 x3 x4 x5 x6 σ1 _ _ _ h M (lv_sub hl [2, 3, 4, 5, 6, 7, 8] rfl)
  · have h := it_f c3 h
    refine lv_iload X.x X.b dX4_sumUpTo_96 (lv_at hl 0 rfl) ?_
    refine lv_iload X.x X.b dX4_sumUpTo_98 (lv_at hl 6 rfl) ?_
    refine lv_icmp_ge (tgt := 111) X.x X.b dX4_sumUpTo_100 (by decide) (fun c2 => ?_) (fun c2 => ?_)
    · have h := it_t c2 h
      exact u_X4_sumUpTo_b111 X H47 x2 x3 x4 x5 x6 σ1 _ _ _ h M (lv_sub hl [2, 3, 4, 5, 6, 7, 8] rfl)
    · have h := it_f c2 h
      refine lv_iload X.x X.b dX4_sumUpTo_103 (lv_at hl 0 rfl) ?_
      refine lv_istore (lv' := [(4, .int (y0 + r1)), (8, .int (y0 + r1)), (7, .int y0), (0, .ref (Γ.1 30)), (1, .ref (Γ.1 1)), (2, .int x2), (3, .int x3), (5, .int x5), (6, .int x6)]) X.x X.b dX4_sumUpTo_105 hl (by decide) rfl (fun ls hl => ?_)
      refine lv_iload X.x X.b dX4_sumUpTo_107 (lv_at hl 8 rfl) ?_
      refine lv_istore (lv' := [(5, .int x6), (4, .int (y0 + r1)), (8, .int (y0 + r1)), (7, .int y0), (0, .ref (Γ.1 30)), (1, .ref (Γ.1 1)), (2, .int x2), (3, .int x3), (6, .int x6)]) X.x X.b dX4_sumUpTo_109 hl (by decide) rfl (fun ls hl => ?_)
      exact u_X4_sumUpTo_b111 X H47 x2 x3 (y0 + r1) x6 x6 σ1 _ _ _ h M (lv_sub hl [4, 5, 6, 7, 1, 0, 8] rfl)
def f_X4_sumUpTo_b47 (k47 : (Int32 → Int32 → Int32 → Int32 → Int32 → St → Rs)) (x2 : Int32) (x3 : Int32) (x4 : Int32) (x5 : Int32) (x6 : Int32) (σ : St) : Rs :=
  if 120 < x6 then (
    some (0, σ)
  ) else (
    if x2 ≤ 0 then (
      f_X4_sumUpTo_b75 k47 x2 x3 x4 x5 x6 0 σ
    ) else (
      if inb (x2 - 1) 10 then (
      if inb (x6 - 1) 121 then (
      f_X4_sumUpTo_b75 k47 x2 x3 x4 x5 x6 (σ (32 + (x2 - 1).toNatClampNeg) (x6 - 1).toNatClampNeg) σ) else none) else none
    )
  )
set_option maxRecDepth 100000 in
set_option maxHeartbeats 4000000 in
theorem u_X4_sumUpTo_b47 {l : Launch} {Γ : Gm} {p : Program} {e : Env} {s : State} {m : MethodId} {args : Array Value} {below : List Frame} {meth : Method} {c : Code} {r : Int32} {σ' : St} {k47 : Int32 → Int32 → Int32 → Int32 → Int32 → St → Rs} (X : Cx p s m args meth c cX4_sumUpTo RX4 9 none Γ) (H47 : ∀ (x2 : Int32) (x3 : Int32) (x4 : Int32) (x5 : Int32) (x6 : Int32) (σ : St) (H : Heap) (locs : List Loc) (ls : Array Slot), k47 x2 x3 x4 x5 x6 σ = some (r, σ') → Mv Γ σ s H locs → lv_has ls 9 [(0, .ref (Γ.1 30)), (1, .ref (Γ.1 1)), (2, .int x2), (3, .int x3), (4, .int x4), (5, .int x5), (6, .int x6)] → W p l e (rmd 5) s m args below meth c H locs 0 0 (MQ below (Qv Γ σ' s.heap.size) args s 0 0 (Rg Γ s.heap.size)) (F0 m 47 ls [])) (x2 : Int32) (x3 : Int32) (x4 : Int32) (x5 : Int32) (x6 : Int32) (σ : St) (H : Heap) (locs : List Loc) (ls : Array Slot) (h : f_X4_sumUpTo_b47 k47 x2 x3 x4 x5 x6 σ = some (r, σ')) (M : Mv Γ σ s H locs) (hl : lv_has ls 9 [(0, .ref (Γ.1 30)), (1, .ref (Γ.1 1)), (2, .int x2), (3, .int x3), (4, .int x4), (5, .int x5), (6, .int x6)]) : W p l e (rmd 5) s m args below meth c H locs 0 0 (MQ below (Qv Γ σ' s.heap.size) args s 0 0 (Rg Γ s.heap.size)) (F0 m 47 ls []) := by
  unfold f_X4_sumUpTo_b47 at h
  refine lv_iload X.x X.b dX4_sumUpTo_47 (lv_at hl 6 rfl) ?_
  refine lv_bipush (v := 120) X.x X.b dX4_sumUpTo_49 (by decide) ?_
  refine lv_icmp_gt (tgt := 139) X.x X.b dX4_sumUpTo_51 (by decide) (fun c4 => ?_) (fun c4 => ?_)
  · have h := it_t c4 h
    exact r_vret X M h dX4_sumUpTo_139
  · have h := it_f c4 h
    refine lv_iload_n X.x X.b dX4_sumUpTo_54 rfl (lv_at hl 2 rfl) ?_
    refine lv_if_le (tgt := 74) X.x X.b dX4_sumUpTo_55 (by decide) (fun c3 => ?_) (fun c3 => ?_)
    · have h := it_t c3 h
      refine lv_iconst (v := 0) X.x X.b dX4_sumUpTo_74 (by decide) ?_
      exact u_X4_sumUpTo_b75 X H47 x2 x3 x4 x5 x6 0 σ _ _ _ h M (lv_sub hl [0, 1, 2, 3, 4, 5, 6] rfl)
    · have h := it_f c3 h
      refine lv_aload_n X.x X.b dX4_sumUpTo_58 rfl (lv_at hl 0 rfl) ?_
      refine r_get X M hq_30 (el_30 _ _) rfl inX4 1 (by decide) q129 rfl rfl dX4_sumUpTo_59 ?_
      refine lv_iload_n X.x X.b dX4_sumUpTo_62 rfl (lv_at hl 2 rfl) ?_
      refine lv_iconst (v := 1) X.x X.b dX4_sumUpTo_63 (by decide) ?_
      refine lv_isub X.x X.b dX4_sumUpTo_64 ?_
      obtain ⟨c1, h⟩ := it_n h
      refine r_aald X M hq_31 (el_31 _ _) c1 dX4_sumUpTo_65 ?_
      refine lv_iload X.x X.b dX4_sumUpTo_66 (lv_at hl 6 rfl) ?_
      refine lv_iconst (v := 1) X.x X.b dX4_sumUpTo_68 (by decide) ?_
      refine lv_isub X.x X.b dX4_sumUpTo_69 ?_
      obtain ⟨c2, h⟩ := it_n h
      refine r_iald (q := (32 + (x2 - 1).toNatClampNeg)) (n := 121) X M (al_31 _ (in_lt c1)) c2 dX4_sumUpTo_70 ?_
      refine lv_goto (tgt := 75) X.x X.b dX4_sumUpTo_71 (by decide) ?_
      exact u_X4_sumUpTo_b75 X H47 x2 x3 x4 x5 x6 (σ (32 + (x2 - 1).toNatClampNeg) (x6 - 1).toNatClampNeg) σ _ _ _ h M (lv_sub hl [0, 1, 2, 3, 4, 5, 6] rfl)
def f_X4_sumUpTo_L47 : Nat → Int32 → Int32 → Int32 → Int32 → Int32 → St → Rs
  | 0 => fun _ _ _ _ _ _ => none
  | n + 1 => fun x2 x3 x4 x5 x6 σ => f_X4_sumUpTo_b47 (f_X4_sumUpTo_L47 n) x2 x3 x4 x5 x6 σ
theorem u_X4_sumUpTo_L47 {l : Launch} {Γ : Gm} {p : Program} {e : Env} {s : State} {m : MethodId} {args : Array Value} {below : List Frame} {meth : Method} {c : Code} {r : Int32} {σ' : St} (X : Cx p s m args meth c cX4_sumUpTo RX4 9 none Γ) : ∀ (n : Nat) (x2 : Int32) (x3 : Int32) (x4 : Int32) (x5 : Int32) (x6 : Int32) (σ : St) (H : Heap) (locs : List Loc) (ls : Array Slot), f_X4_sumUpTo_L47 n x2 x3 x4 x5 x6 σ = some (r, σ') → Mv Γ σ s H locs → lv_has ls 9 [(0, .ref (Γ.1 30)), (1, .ref (Γ.1 1)), (2, .int x2), (3, .int x3), (4, .int x4), (5, .int x5), (6, .int x6)] → W p l e (rmd 5) s m args below meth c H locs 0 0 (MQ below (Qv Γ σ' s.heap.size) args s 0 0 (Rg Γ s.heap.size)) (F0 m 47 ls []) := by
  intro n
  induction n with
  | zero => intro x2 x3 x4 x5 x6 σ H locs ls h; cases h
  | succ n ih => intro x2 x3 x4 x5 x6 σ H locs ls h; exact u_X4_sumUpTo_b47 X  ih x2 x3 x4 x5 x6 σ H locs ls h
/-- StreetNumbers$Thoughts.sumUpTo(LStreetNumbers$Street;I)V -/
def f_X4_sumUpTo (x2 : Int32) (σ : St) : Rs :=
  if x2 < 0 then (
    some (0, σ)
  ) else (
    if x2 < 10 then (
      ob (f_X3_houseAt x2 σ) fun r1 σ1 => (
      if inb x2 10 then (
      if inb 0 121 then (
      ol (st σ1 (32 + x2.toNatClampNeg) (0 : Int32).toNatClampNeg 1000000) fun σ4 => (
      if inb x2 10 then (
      if inb 0 121 then (
      ol (st σ4 (43 + x2.toNatClampNeg) (0 : Int32).toNatClampNeg 0) fun σ7 => (
      f_X4_sumUpTo_L47 LF x2 r1 1000000 0 1 σ7)) else none) else none)) else none) else none)
    ) else (
      some (0, σ)
    )
  )
set_option maxRecDepth 100000 in
set_option maxHeartbeats 4000000 in
theorem T_X4_sumUpTo {l : Launch} {Γ : Gm} {x2 : Int32} {σ : St} {r : Int32} {σ' : St} (h : f_X4_sumUpTo x2 σ = some (r, σ')) : MetV l yX4_sumUpTo cX4_sumUpTo 9 5 Γ σ [.ref (Γ.1 30), .ref (Γ.1 1), .int x2] σ' := by
  intro sz
  refine met_in (by decide) (Nat.le_of_ble_eq_true rfl) (fun p e s m args below meth c ls X hsz M hl => ?_)
  subst hsz
  have X : Cx p s m args meth c cX4_sumUpTo RX4 9 none Γ := X
  have hl : lv_has ls 9 [(0, .ref (Γ.1 30)), (1, .ref (Γ.1 1)), (2, .int x2)] := hl
  unfold f_X4_sumUpTo at h
  refine lv_iload_n X.x X.b dX4_sumUpTo_0 rfl (lv_at hl 2 rfl) ?_
  refine lv_if_lt (tgt := 10) X.x X.b dX4_sumUpTo_1 (by decide) (fun c9 => ?_) (fun c9 => ?_)
  · have h := it_t c9 h
    exact r_vret X M h dX4_sumUpTo_10
  · have h := it_f c9 h
    refine lv_iload_n X.x X.b dX4_sumUpTo_4 rfl (lv_at hl 2 rfl) ?_
    refine lv_bipush (v := 10) X.x X.b dX4_sumUpTo_5 (by decide) ?_
    refine lv_icmp_lt (tgt := 11) X.x X.b dX4_sumUpTo_7 (by decide) (fun c8 => ?_) (fun c8 => ?_)
    · have h := it_t c8 h
      refine lv_aload_n X.x X.b dX4_sumUpTo_11 rfl (lv_at hl 1 rfl) ?_
      refine lv_iload_n X.x X.b dX4_sumUpTo_12 rfl (lv_at hl 2 rfl) ?_
      obtain ⟨r1, σ1, h1, h⟩ := ob_e h
      refine r_runI M (r_callV (As := [.int x2]) X M (lv_sub hl [] rfl) (T_X3_houseAt h1 _) cal_X3_houseAt q481 ⟨by decide, by decide⟩ hq_1 (el_1 _ _) rfl rfl rfl (Nat.le_of_ble_eq_true rfl) ⟨Nat.le_refl _, Nat.le_refl _⟩ dX4_sumUpTo_13) (fun H locs M => ?_)
      clear h1
      refine lv_istore_n (lv' := [(3, .int r1), (0, .ref (Γ.1 30)), (1, .ref (Γ.1 1)), (2, .int x2)]) X.x X.b dX4_sumUpTo_16 rfl hl (by decide) rfl (fun ls hl => ?_)
      refine lv_ldc (v := 1000000) X.x X.b X.ow (X.ts _ q482) dX4_sumUpTo_17 ?_
      refine lv_istore (lv' := [(4, .int 1000000), (3, .int r1), (0, .ref (Γ.1 30)), (1, .ref (Γ.1 1)), (2, .int x2)]) X.x X.b dX4_sumUpTo_19 hl (by decide) rfl (fun ls hl => ?_)
      refine lv_iconst (v := 0) X.x X.b dX4_sumUpTo_21 (by decide) ?_
      refine lv_istore (lv' := [(5, .int 0), (4, .int 1000000), (3, .int r1), (0, .ref (Γ.1 30)), (1, .ref (Γ.1 1)), (2, .int x2)]) X.x X.b dX4_sumUpTo_22 hl (by decide) rfl (fun ls hl => ?_)
      refine lv_aload_n X.x X.b dX4_sumUpTo_24 rfl (lv_at hl 3 rfl) ?_
      refine r_get X M hq_30 (el_30 _ _) rfl inX4 1 (by decide) q129 rfl rfl dX4_sumUpTo_25 ?_
      refine lv_iload_n X.x X.b dX4_sumUpTo_28 rfl (lv_at hl 5 rfl) ?_
      obtain ⟨c2, h⟩ := it_n h
      refine r_aald X M hq_31 (el_31 _ _) c2 dX4_sumUpTo_29 ?_
      refine lv_iconst (v := 0) X.x X.b dX4_sumUpTo_30 (by decide) ?_
      refine lv_iload X.x X.b dX4_sumUpTo_31 (lv_at hl 1 rfl) ?_
      obtain ⟨c3, h⟩ := it_n h
      obtain ⟨σ4, e4, h⟩ := ol_e h
      refine r_iast (q := (32 + x2.toNatClampNeg)) (n := 121) X M (al_31 _ (in_lt c2)) c3 dX4_sumUpTo_33 (fun H locs M => ?_)
      rw [← e4] at M
      refine lv_aload_n X.x X.b dX4_sumUpTo_34 rfl (lv_at hl 3 rfl) ?_
      refine r_get X M hq_30 (el_30 _ _) rfl inX4 2 (by decide) q130 rfl rfl dX4_sumUpTo_35 ?_
      refine lv_iload_n X.x X.b dX4_sumUpTo_38 rfl (lv_at hl 5 rfl) ?_
      obtain ⟨c5, h⟩ := it_n h
      refine r_aald X M hq_42 (el_42 _ _) c5 dX4_sumUpTo_39 ?_
      refine lv_iconst (v := 0) X.x X.b dX4_sumUpTo_40 (by decide) ?_
      refine lv_iload X.x X.b dX4_sumUpTo_41 (lv_at hl 0 rfl) ?_
      obtain ⟨c6, h⟩ := it_n h
      obtain ⟨σ7, e7, h⟩ := ol_e h
      refine r_iast (q := (43 + x2.toNatClampNeg)) (n := 121) X M (al_42 _ (in_lt c5)) c6 dX4_sumUpTo_43 (fun H locs M => ?_)
      rw [← e7] at M
      refine lv_iconst (v := 1) X.x X.b dX4_sumUpTo_44 (by decide) ?_
      refine lv_istore (lv' := [(6, .int 1), (5, .int 0), (4, .int 1000000), (3, .int r1), (0, .ref (Γ.1 30)), (1, .ref (Γ.1 1)), (2, .int x2)]) X.x X.b dX4_sumUpTo_45 hl (by decide) rfl (fun ls hl => ?_)
      exact u_X4_sumUpTo_L47 X LF x2 r1 1000000 0 1 σ7 _ _ _ h M (lv_sub hl [4, 5, 6, 3, 2, 1, 0] rfl)
    · have h := it_f c8 h
      exact r_vret X M h dX4_sumUpTo_10
def f_X4_leastRising_b37 (k37 : (Int32 → Int32 → Int32 → St → Rs)) (x2 : Int32) (x3 : Int32) (x4 : Int32) (σ : St) : Rs :=
  if x4 < 0 then (
    if x2 ≤ 0 then (
      some (0, σ)
    ) else (
      if inb (x2 - 1) 10 then (
      if inb 120 121 then (
      some ((σ (32 + (x2 - 1).toNatClampNeg) (120 : Int32).toNatClampNeg), σ)) else none) else none
    )
  ) else (
    if x3 < 0 then (
      if inb x4 10 then (
      ol (st σ 53 x4.toNatClampNeg 0) fun σ5 => (
      if inb x4 10 then (
      k37 x2 ((σ5 53 x4.toNatClampNeg) - 1) (x4 + (-1)) σ5) else none)) else none
    ) else (
      if inb x4 10 then (
      if inb x3 121 then (
      if inb x4 10 then (
      ol (st σ 53 x4.toNatClampNeg (σ (43 + x4.toNatClampNeg) x3.toNatClampNeg)) fun σ10 => (
      if inb x4 10 then (
      k37 x2 ((σ10 53 x4.toNatClampNeg) - 1) (x4 + (-1)) σ10) else none)) else none) else none) else none
    )
  )
set_option maxRecDepth 100000 in
set_option maxHeartbeats 4000000 in
theorem u_X4_leastRising_b37 {l : Launch} {Γ : Gm} {p : Program} {e : Env} {s : State} {m : MethodId} {args : Array Value} {below : List Frame} {meth : Method} {c : Code} {r : Int32} {σ' : St} {k37 : Int32 → Int32 → Int32 → St → Rs} (X : Cx p s m args meth c cX4_leastRising RX4 5 (some .int) Γ) (H37 : ∀ (x2 : Int32) (x3 : Int32) (x4 : Int32) (σ : St) (H : Heap) (locs : List Loc) (ls : Array Slot), k37 x2 x3 x4 σ = some (r, σ') → Mv Γ σ s H locs → lv_has ls 5 [(0, .ref (Γ.1 30)), (2, .int x2), (3, .int x3), (4, .int x4)] → W p l e (rmd 6) s m args below meth c H locs 0 0 (MQ below (Qi Γ r σ' s.heap.size) args s 0 0 (Rg Γ s.heap.size)) (F0 m 37 ls [])) (x2 : Int32) (x3 : Int32) (x4 : Int32) (σ : St) (H : Heap) (locs : List Loc) (ls : Array Slot) (h : f_X4_leastRising_b37 k37 x2 x3 x4 σ = some (r, σ')) (M : Mv Γ σ s H locs) (hl : lv_has ls 5 [(0, .ref (Γ.1 30)), (2, .int x2), (3, .int x3), (4, .int x4)]) : W p l e (rmd 6) s m args below meth c H locs 0 0 (MQ below (Qi Γ r σ' s.heap.size) args s 0 0 (Rg Γ s.heap.size)) (F0 m 37 ls []) := by
  unfold f_X4_leastRising_b37 at h
  refine lv_iload X.x X.b dX4_leastRising_37 (lv_at hl 3 rfl) ?_
  refine lv_if_lt (tgt := 82) X.x X.b dX4_leastRising_39 (by decide) (fun c13 => ?_) (fun c13 => ?_)
  · have h := it_t c13 h
    refine lv_iload_n X.x X.b dX4_leastRising_82 rfl (lv_at hl 1 rfl) ?_
    refine lv_if_le (tgt := 100) X.x X.b dX4_leastRising_83 (by decide) (fun c3 => ?_) (fun c3 => ?_)
    · have h := it_t c3 h
      refine lv_iconst (v := 0) X.x X.b dX4_leastRising_100 (by decide) ?_
      exact r_iret X M rfl h dX4_leastRising_101
    · have h := it_f c3 h
      refine lv_aload_n X.x X.b dX4_leastRising_86 rfl (lv_at hl 0 rfl) ?_
      refine r_get X M hq_30 (el_30 _ _) rfl inX4 1 (by decide) q129 rfl rfl dX4_leastRising_87 ?_
      refine lv_iload_n X.x X.b dX4_leastRising_90 rfl (lv_at hl 1 rfl) ?_
      refine lv_iconst (v := 1) X.x X.b dX4_leastRising_91 (by decide) ?_
      refine lv_isub X.x X.b dX4_leastRising_92 ?_
      obtain ⟨c1, h⟩ := it_n h
      refine r_aald X M hq_31 (el_31 _ _) c1 dX4_leastRising_93 ?_
      refine lv_bipush (v := 120) X.x X.b dX4_leastRising_94 (by decide) ?_
      obtain ⟨c2, h⟩ := it_n h
      refine r_iald (q := (32 + (x2 - 1).toNatClampNeg)) (n := 121) X M (al_31 _ (in_lt c1)) c2 dX4_leastRising_96 ?_
      refine lv_goto (tgt := 101) X.x X.b dX4_leastRising_97 (by decide) ?_
      exact r_iret X M rfl h dX4_leastRising_101
  · have h := it_f c13 h
    refine lv_aload_n X.x X.b dX4_leastRising_42 rfl (lv_at hl 0 rfl) ?_
    refine r_get X M hq_30 (el_30 _ _) rfl inX4 3 (by decide) q131 rfl rfl dX4_leastRising_43 ?_
    refine lv_iload X.x X.b dX4_leastRising_46 (lv_at hl 3 rfl) ?_
    refine lv_iload_n X.x X.b dX4_leastRising_48 rfl (lv_at hl 2 rfl) ?_
    refine lv_if_lt (tgt := 64) X.x X.b dX4_leastRising_49 (by decide) (fun c12 => ?_) (fun c12 => ?_)
    · have h := it_t c12 h
      refine lv_iconst (v := 0) X.x X.b dX4_leastRising_64 (by decide) ?_
      obtain ⟨c4, h⟩ := it_n h
      obtain ⟨σ5, e5, h⟩ := ol_e h
      refine r_iast (q := 53) (n := 10) X M rfl c4 dX4_leastRising_65 (fun H locs M => ?_)
      rw [← e5] at M
      refine lv_aload_n X.x X.b dX4_leastRising_66 rfl (lv_at hl 0 rfl) ?_
      refine r_get X M hq_30 (el_30 _ _) rfl inX4 3 (by decide) q131 rfl rfl dX4_leastRising_67 ?_
      refine lv_iload X.x X.b dX4_leastRising_70 (lv_at hl 3 rfl) ?_
      obtain ⟨c6, h⟩ := it_n h
      refine r_iald (q := 53) (n := 10) X M rfl c6 dX4_leastRising_72 ?_
      refine lv_iconst (v := 1) X.x X.b dX4_leastRising_73 (by decide) ?_
      refine lv_isub X.x X.b dX4_leastRising_74 ?_
      refine lv_istore_n (lv' := [(3, .int ((σ5 53 x4.toNatClampNeg) - 1)), (0, .ref (Γ.1 30)), (2, .int x2), (4, .int x4)]) X.x X.b dX4_leastRising_75 rfl hl (by decide) rfl (fun ls hl => ?_)
      refine lv_iinc (v := (x4 + (-1))) (lv' := [(4, .int (x4 + (-1))), (3, .int ((σ5 53 x4.toNatClampNeg) - 1)), (0, .ref (Γ.1 30)), (2, .int x2)]) X.x X.b dX4_leastRising_76 hl (k := 3) rfl rfl (by decide) rfl (fun ls hl => ?_)
      refine lv_goto (tgt := 37) X.x X.b dX4_leastRising_79 (by decide) ?_
      exact H37 x2 ((σ5 53 x4.toNatClampNeg) - 1) (x4 + (-1)) σ5 _ _ _ h M (lv_sub hl [2, 3, 1, 0] rfl)
    · have h := it_f c12 h
      refine lv_aload_n X.x X.b dX4_leastRising_52 rfl (lv_at hl 0 rfl) ?_
      refine r_get X M hq_30 (el_30 _ _) rfl inX4 2 (by decide) q130 rfl rfl dX4_leastRising_53 ?_
      refine lv_iload X.x X.b dX4_leastRising_56 (lv_at hl 3 rfl) ?_
      obtain ⟨c7, h⟩ := it_n h
      refine r_aald X M hq_42 (el_42 _ _) c7 dX4_leastRising_58 ?_
      refine lv_iload_n X.x X.b dX4_leastRising_59 rfl (lv_at hl 2 rfl) ?_
      obtain ⟨c8, h⟩ := it_n h
      refine r_iald (q := (43 + x4.toNatClampNeg)) (n := 121) X M (al_42 _ (in_lt c7)) c8 dX4_leastRising_60 ?_
      refine lv_goto (tgt := 65) X.x X.b dX4_leastRising_61 (by decide) ?_
      obtain ⟨c9, h⟩ := it_n h
      obtain ⟨σ10, e10, h⟩ := ol_e h
      refine r_iast (q := 53) (n := 10) X M rfl c9 dX4_leastRising_65 (fun H locs M => ?_)
      rw [← e10] at M
      refine lv_aload_n X.x X.b dX4_leastRising_66 rfl (lv_at hl 0 rfl) ?_
      refine r_get X M hq_30 (el_30 _ _) rfl inX4 3 (by decide) q131 rfl rfl dX4_leastRising_67 ?_
      refine lv_iload X.x X.b dX4_leastRising_70 (lv_at hl 3 rfl) ?_
      obtain ⟨c11, h⟩ := it_n h
      refine r_iald (q := 53) (n := 10) X M rfl c11 dX4_leastRising_72 ?_
      refine lv_iconst (v := 1) X.x X.b dX4_leastRising_73 (by decide) ?_
      refine lv_isub X.x X.b dX4_leastRising_74 ?_
      refine lv_istore_n (lv' := [(3, .int ((σ10 53 x4.toNatClampNeg) - 1)), (0, .ref (Γ.1 30)), (2, .int x2), (4, .int x4)]) X.x X.b dX4_leastRising_75 rfl hl (by decide) rfl (fun ls hl => ?_)
      refine lv_iinc (v := (x4 + (-1))) (lv' := [(4, .int (x4 + (-1))), (3, .int ((σ10 53 x4.toNatClampNeg) - 1)), (0, .ref (Γ.1 30)), (2, .int x2)]) X.x X.b dX4_leastRising_76 hl (k := 3) rfl rfl (by decide) rfl (fun ls hl => ?_)
      refine lv_goto (tgt := 37) X.x X.b dX4_leastRising_79 (by decide) ?_
      exact H37 x2 ((σ10 53 x4.toNatClampNeg) - 1) (x4 + (-1)) σ10 _ _ _ h M (lv_sub hl [2, 3, 1, 0] rfl)
def f_X4_leastRising_L37 : Nat → Int32 → Int32 → Int32 → St → Rs
  | 0 => fun _ _ _ _ => none
  | n + 1 => fun x2 x3 x4 σ => f_X4_leastRising_b37 (f_X4_leastRising_L37 n) x2 x3 x4 σ
theorem u_X4_leastRising_L37 {l : Launch} {Γ : Gm} {p : Program} {e : Env} {s : State} {m : MethodId} {args : Array Value} {below : List Frame} {meth : Method} {c : Code} {r : Int32} {σ' : St} (X : Cx p s m args meth c cX4_leastRising RX4 5 (some .int) Γ) : ∀ (n : Nat) (x2 : Int32) (x3 : Int32) (x4 : Int32) (σ : St) (H : Heap) (locs : List Loc) (ls : Array Slot), f_X4_leastRising_L37 n x2 x3 x4 σ = some (r, σ') → Mv Γ σ s H locs → lv_has ls 5 [(0, .ref (Γ.1 30)), (2, .int x2), (3, .int x3), (4, .int x4)] → W p l e (rmd 6) s m args below meth c H locs 0 0 (MQ below (Qi Γ r σ' s.heap.size) args s 0 0 (Rg Γ s.heap.size)) (F0 m 37 ls []) := by
  intro n
  induction n with
  | zero => intro x2 x3 x4 σ H locs ls h; cases h
  | succ n ih => intro x2 x3 x4 σ H locs ls h; exact u_X4_leastRising_b37 X  ih x2 x3 x4 σ H locs ls h
def f_X4_leastRising_b12 (k12 : (Int32 → Int32 → St → Rs)) (x2 : Int32) (x3 : Int32) (σ : St) : Rs :=
  if x2 ≤ x3 then (
    f_X4_leastRising_L37 LF x2 120 (x2 - 1) σ
  ) else (
    ob (f_X4_sumUpTo x3 σ) fun _ σ1 => (
    k12 x2 (x3 + 1) σ1)
  )
set_option maxRecDepth 100000 in
set_option maxHeartbeats 4000000 in
theorem u_X4_leastRising_b12 {l : Launch} {Γ : Gm} {p : Program} {e : Env} {s : State} {m : MethodId} {args : Array Value} {below : List Frame} {meth : Method} {c : Code} {r : Int32} {σ' : St} {k12 : Int32 → Int32 → St → Rs} (X : Cx p s m args meth c cX4_leastRising RX4 5 (some .int) Γ) (H12 : ∀ (x2 : Int32) (x3 : Int32) (σ : St) (H : Heap) (locs : List Loc) (ls : Array Slot), k12 x2 x3 σ = some (r, σ') → Mv Γ σ s H locs → lv_has ls 5 [(0, .ref (Γ.1 30)), (1, .ref (Γ.1 1)), (2, .int x2), (3, .int x3)] → W p l e (rmd 6) s m args below meth c H locs 0 0 (MQ below (Qi Γ r σ' s.heap.size) args s 0 0 (Rg Γ s.heap.size)) (F0 m 12 ls [])) (x2 : Int32) (x3 : Int32) (σ : St) (H : Heap) (locs : List Loc) (ls : Array Slot) (h : f_X4_leastRising_b12 k12 x2 x3 σ = some (r, σ')) (M : Mv Γ σ s H locs) (hl : lv_has ls 5 [(0, .ref (Γ.1 30)), (1, .ref (Γ.1 1)), (2, .int x2), (3, .int x3)]) : W p l e (rmd 6) s m args below meth c H locs 0 0 (MQ below (Qi Γ r σ' s.heap.size) args s 0 0 (Rg Γ s.heap.size)) (F0 m 12 ls []) := by
  unfold f_X4_leastRising_b12 at h
  refine lv_iload_n X.x X.b dX4_leastRising_12 rfl (lv_at hl 3 rfl) ?_
  refine lv_iload_n X.x X.b dX4_leastRising_13 rfl (lv_at hl 2 rfl) ?_
  refine lv_icmp_ge (tgt := 29) X.x X.b dX4_leastRising_14 (by decide) (fun c2 => ?_) (fun c2 => ?_)
  · have h := it_t c2 h
    refine lv_bipush (v := 120) X.x X.b dX4_leastRising_29 (by decide) ?_
    refine lv_istore_n (lv' := [(3, .int 120), (0, .ref (Γ.1 30)), (1, .ref (Γ.1 1)), (2, .int x2)]) X.x X.b dX4_leastRising_31 rfl hl (by decide) rfl (fun ls hl => ?_)
    refine lv_iload_n X.x X.b dX4_leastRising_32 rfl (lv_at hl 3 rfl) ?_
    refine lv_iconst (v := 1) X.x X.b dX4_leastRising_33 (by decide) ?_
    refine lv_isub X.x X.b dX4_leastRising_34 ?_
    refine lv_istore (lv' := [(4, .int (x2 - 1)), (3, .int 120), (0, .ref (Γ.1 30)), (1, .ref (Γ.1 1)), (2, .int x2)]) X.x X.b dX4_leastRising_35 hl (by decide) rfl (fun ls hl => ?_)
    exact u_X4_leastRising_L37 X LF x2 120 (x2 - 1) σ _ _ _ h M (lv_sub hl [2, 4, 1, 0] rfl)
  · have h := it_f c2 h
    refine lv_aload_n X.x X.b dX4_leastRising_17 rfl (lv_at hl 0 rfl) ?_
    refine lv_aload_n X.x X.b dX4_leastRising_18 rfl (lv_at hl 1 rfl) ?_
    refine lv_iload_n X.x X.b dX4_leastRising_19 rfl (lv_at hl 3 rfl) ?_
    obtain ⟨r1, σ1, h1, h⟩ := ob_e h
    refine r_runV M (r_callV (As := [.ref (Γ.1 1), .int x3]) X M (lv_sub hl [] rfl) (T_X4_sumUpTo h1 _) cal_X4_sumUpTo q477 ⟨by decide, by decide⟩ hq_30 (el_30 _ _) rfl rfl rfl (Nat.le_of_ble_eq_true rfl) ⟨Nat.le_refl _, Nat.le_refl _⟩ dX4_leastRising_20) (fun H locs M => ?_)
    clear h1
    refine lv_iinc (v := (x3 + 1)) (lv' := [(3, .int (x3 + 1)), (0, .ref (Γ.1 30)), (1, .ref (Γ.1 1)), (2, .int x2)]) X.x X.b dX4_leastRising_23 hl (k := 3) rfl rfl (by decide) rfl (fun ls hl => ?_)
    refine lv_goto (tgt := 12) X.x X.b dX4_leastRising_26 (by decide) ?_
    exact H12 x2 (x3 + 1) σ1 _ _ _ h M (lv_sub hl [1, 2, 3, 0] rfl)
def f_X4_leastRising_L12 : Nat → Int32 → Int32 → St → Rs
  | 0 => fun _ _ _ => none
  | n + 1 => fun x2 x3 σ => f_X4_leastRising_b12 (f_X4_leastRising_L12 n) x2 x3 σ
theorem u_X4_leastRising_L12 {l : Launch} {Γ : Gm} {p : Program} {e : Env} {s : State} {m : MethodId} {args : Array Value} {below : List Frame} {meth : Method} {c : Code} {r : Int32} {σ' : St} (X : Cx p s m args meth c cX4_leastRising RX4 5 (some .int) Γ) : ∀ (n : Nat) (x2 : Int32) (x3 : Int32) (σ : St) (H : Heap) (locs : List Loc) (ls : Array Slot), f_X4_leastRising_L12 n x2 x3 σ = some (r, σ') → Mv Γ σ s H locs → lv_has ls 5 [(0, .ref (Γ.1 30)), (1, .ref (Γ.1 1)), (2, .int x2), (3, .int x3)] → W p l e (rmd 6) s m args below meth c H locs 0 0 (MQ below (Qi Γ r σ' s.heap.size) args s 0 0 (Rg Γ s.heap.size)) (F0 m 12 ls []) := by
  intro n
  induction n with
  | zero => intro x2 x3 σ H locs ls h; cases h
  | succ n ih => intro x2 x3 σ H locs ls h; exact u_X4_leastRising_b12 X  ih x2 x3 σ H locs ls h
/-- StreetNumbers$Thoughts.leastRising(LStreetNumbers$Street;)I -/
def f_X4_leastRising (σ : St) : Rs :=
  f_X4_leastRising_L12 LF (imin (σ 1 1) 10) 0 σ
set_option maxRecDepth 100000 in
set_option maxHeartbeats 4000000 in
theorem T_X4_leastRising {l : Launch} {Γ : Gm} {σ : St} {r : Int32} {σ' : St} (h : f_X4_leastRising σ = some (r, σ')) : MetI l yX4_leastRising cX4_leastRising 5 .int 6 Γ σ [.ref (Γ.1 30), .ref (Γ.1 1)] r σ' := by
  intro sz
  refine met_in (by decide) (Nat.le_of_ble_eq_true rfl) (fun p e s m args below meth c ls X hsz M hl => ?_)
  subst hsz
  have X : Cx p s m args meth c cX4_leastRising RX4 5 (some .int) Γ := X
  have hl : lv_has ls 5 [(0, .ref (Γ.1 30)), (1, .ref (Γ.1 1))] := hl
  unfold f_X4_leastRising at h
  refine lv_aload_n X.x X.b dX4_leastRising_0 rfl (lv_at hl 1 rfl) ?_
  refine r_get X M hq_1 (el_1 _ _) rfl inX3 1 (by decide) q54 rfl rfl dX4_leastRising_1 ?_
  refine lv_bipush (v := 10) X.x X.b dX4_leastRising_4 (by decide) ?_
  refine r_mmin X (lv_sub hl [] rfl) q476 q294 q10 q295 (by decide) (Nat.le_of_ble_eq_true rfl) (by decide) ⟨Nat.le_refl _, Nat.le_refl _⟩ dX4_leastRising_6 ?_
  refine lv_istore_n (lv' := [(2, .int (imin (σ 1 1) 10)), (0, .ref (Γ.1 30)), (1, .ref (Γ.1 1))]) X.x X.b dX4_leastRising_9 rfl hl (by decide) rfl (fun ls hl => ?_)
  refine lv_iconst (v := 0) X.x X.b dX4_leastRising_10 (by decide) ?_
  refine lv_istore_n (lv' := [(3, .int 0), (2, .int (imin (σ 1 1) 10)), (0, .ref (Γ.1 30)), (1, .ref (Γ.1 1))]) X.x X.b dX4_leastRising_11 rfl hl (by decide) rfl (fun ls hl => ?_)
  exact u_X4_leastRising_L12 X LF (imin (σ 1 1) 10) 0 σ _ _ _ h M (lv_sub hl [2, 3, 1, 0] rfl)
/-- StreetNumbers$Thoughts.risingOf(I)I -/
def f_X4_risingOf (x1 : Int32) (σ : St) : Rs :=
  if x1 < 0 then (
    some (0, σ)
  ) else (
    if 10 ≤ x1 then (
      some (0, σ)
    ) else (
      if inb x1 10 then (
      some ((σ 53 x1.toNatClampNeg), σ)) else none
    )
  )
set_option maxRecDepth 100000 in
set_option maxHeartbeats 4000000 in
theorem T_X4_risingOf {l : Launch} {Γ : Gm} {x1 : Int32} {σ : St} {r : Int32} {σ' : St} (h : f_X4_risingOf x1 σ = some (r, σ')) : MetI l yX4_risingOf cX4_risingOf 2 .int 1 Γ σ [.ref (Γ.1 30), .int x1] r σ' := by
  intro sz
  refine met_in (by decide) (Nat.le_of_ble_eq_true rfl) (fun p e s m args below meth c ls X hsz M hl => ?_)
  subst hsz
  have X : Cx p s m args meth c cX4_risingOf RX4 2 (some .int) Γ := X
  have hl : lv_has ls 2 [(0, .ref (Γ.1 30)), (1, .int x1)] := hl
  unfold f_X4_risingOf at h
  refine lv_iload_n X.x X.b dX4_risingOf_0 rfl (lv_at hl 1 rfl) ?_
  refine lv_if_lt (tgt := 19) X.x X.b dX4_risingOf_1 (by decide) (fun c3 => ?_) (fun c3 => ?_)
  · have h := it_t c3 h
    refine lv_iconst (v := 0) X.x X.b dX4_risingOf_19 (by decide) ?_
    exact r_iret X M rfl h dX4_risingOf_20
  · have h := it_f c3 h
    refine lv_iload_n X.x X.b dX4_risingOf_4 rfl (lv_at hl 1 rfl) ?_
    refine lv_bipush (v := 10) X.x X.b dX4_risingOf_5 (by decide) ?_
    refine lv_icmp_ge (tgt := 19) X.x X.b dX4_risingOf_7 (by decide) (fun c2 => ?_) (fun c2 => ?_)
    · have h := it_t c2 h
      refine lv_iconst (v := 0) X.x X.b dX4_risingOf_19 (by decide) ?_
      exact r_iret X M rfl h dX4_risingOf_20
    · have h := it_f c2 h
      refine lv_aload_n X.x X.b dX4_risingOf_10 rfl (lv_at hl 0 rfl) ?_
      refine r_get X M hq_30 (el_30 _ _) rfl inX4 3 (by decide) q131 rfl rfl dX4_risingOf_11 ?_
      refine lv_iload_n X.x X.b dX4_risingOf_14 rfl (lv_at hl 1 rfl) ?_
      obtain ⟨c1, h⟩ := it_n h
      refine r_iald (q := 53) (n := 10) X M rfl c1 dX4_risingOf_15 ?_
      refine lv_goto (tgt := 20) X.x X.b dX4_risingOf_16 (by decide) ?_
      exact r_iret X M rfl h dX4_risingOf_20
/-- StreetNumbers.least(I)I -/
def f_X6_least (x1 : Int32) (σ : St) : Rs :=
  if x1 < (-1) then (
    ob (f_X6_failing 1 σ) fun r1 σ1 => (
    some (r1, σ1))
  ) else (
    if x1 < 10 then (
      if x1 < (σ 1 1) then (
        ob (f_X4_leastRising σ) fun r2 σ2 => (
        if 0 ≤ x1 then (
          ob (f_X3_placeOf x1 σ2) fun r3 σ3 => (
          ob (f_X4_risingOf r3 σ3) fun r4 σ4 => (
          some (r4, σ4)))
        ) else (
          some (r2, σ2)
        ))
      ) else (
        ob (f_X6_failing 2 σ) fun r6 σ6 => (
        some (r6, σ6))
      )
    ) else (
      ob (f_X6_failing 1 σ) fun r8 σ8 => (
      some (r8, σ8))
    )
  )
set_option maxRecDepth 100000 in
set_option maxHeartbeats 4000000 in
theorem T_X6_least {l : Launch} {Γ : Gm} {x1 : Int32} {σ : St} {r : Int32} {σ' : St} (h : f_X6_least x1 σ = some (r, σ')) : MetI l yX6_least cX6_least 3 .int 7 Γ σ [.ref (Γ.1 0), .int x1] r σ' := by
  intro sz
  refine met_in (by decide) (Nat.le_of_ble_eq_true rfl) (fun p e s m args below meth c ls X hsz M hl => ?_)
  subst hsz
  have X : Cx p s m args meth c cX6_least RX6 3 (some .int) Γ := X
  have hl : lv_has ls 3 [(0, .ref (Γ.1 0)), (1, .int x1)] := hl
  unfold f_X6_least at h
  refine lv_iload_n X.x X.b dX6_least_0 rfl (lv_at hl 1 rfl) ?_
  refine lv_iconst (v := (-1)) X.x X.b dX6_least_1 (by decide) ?_
  refine lv_icmp_lt (tgt := 11) X.x X.b dX6_least_2 (by decide) (fun c10 => ?_) (fun c10 => ?_)
  · have h := it_t c10 h
    refine lv_aload_n X.x X.b dX6_least_11 rfl (lv_at hl 0 rfl) ?_
    refine lv_iconst (v := 1) X.x X.b dX6_least_12 (by decide) ?_
    obtain ⟨r1, σ1, h1, h⟩ := ob_e h
    refine r_runI M (r_callV (As := [.int 1]) X M (lv_sub hl [] rfl) (T_X6_failing h1 _) cal_X6_failing q223 ⟨by decide, by decide⟩ hq_0 (el_0 _ _) rfl rfl rfl (Nat.le_of_ble_eq_true rfl) ⟨Nat.le_refl _, Nat.le_refl _⟩ dX6_least_13) (fun H locs M => ?_)
    clear h1
    exact r_iret X M rfl h dX6_least_16
  · have h := it_f c10 h
    refine lv_iload_n X.x X.b dX6_least_5 rfl (lv_at hl 1 rfl) ?_
    refine lv_bipush (v := 10) X.x X.b dX6_least_6 (by decide) ?_
    refine lv_icmp_lt (tgt := 17) X.x X.b dX6_least_8 (by decide) (fun c9 => ?_) (fun c9 => ?_)
    · have h := it_t c9 h
      refine lv_iload_n X.x X.b dX6_least_17 rfl (lv_at hl 1 rfl) ?_
      refine lv_aload_n X.x X.b dX6_least_18 rfl (lv_at hl 0 rfl) ?_
      refine r_get X M hq_0 (el_0 _ _) rfl inX6 0 (by decide) q188 rfl rfl dX6_least_19 ?_
      refine r_get X M hq_1 (el_1 _ _) rfl inX3 1 (by decide) q56 rfl rfl dX6_least_22 ?_
      refine lv_icmp_lt (tgt := 34) X.x X.b dX6_least_25 (by decide) (fun c7 => ?_) (fun c7 => ?_)
      · have h := it_t c7 h
        refine lv_aload_n X.x X.b dX6_least_34 rfl (lv_at hl 0 rfl) ?_
        refine r_get X M hq_0 (el_0 _ _) rfl inX6 3 (by decide) q191 rfl rfl dX6_least_35 ?_
        refine lv_aload_n X.x X.b dX6_least_38 rfl (lv_at hl 0 rfl) ?_
        refine r_get X M hq_0 (el_0 _ _) rfl inX6 0 (by decide) q188 rfl rfl dX6_least_39 ?_
        obtain ⟨r2, σ2, h2, h⟩ := ob_e h
        refine r_runI M (r_callV (As := [.ref (Γ.1 1)]) X M (lv_sub hl [] rfl) (T_X4_leastRising h2 _) cal_X4_leastRising q472 ⟨by decide, by decide⟩ hq_30 (el_30 _ _) rfl rfl rfl (Nat.le_of_ble_eq_true rfl) ⟨Nat.le_refl _, Nat.le_refl _⟩ dX6_least_42) (fun H locs M => ?_)
        clear h2
        refine lv_istore_n (lv' := [(2, .int r2), (0, .ref (Γ.1 0)), (1, .int x1)]) X.x X.b dX6_least_45 rfl hl (by decide) rfl (fun ls hl => ?_)
        refine lv_iload_n X.x X.b dX6_least_46 rfl (lv_at hl 2 rfl) ?_
        refine lv_if_ge (tgt := 54) X.x X.b dX6_least_47 (by decide) (fun c5 => ?_) (fun c5 => ?_)
        · have h := it_t c5 h
          refine lv_aload_n X.x X.b dX6_least_54 rfl (lv_at hl 1 rfl) ?_
          refine r_get X M hq_0 (el_0 _ _) rfl inX6 3 (by decide) q191 rfl rfl dX6_least_55 ?_
          refine lv_aload_n X.x X.b dX6_least_58 rfl (lv_at hl 1 rfl) ?_
          refine r_get X M hq_0 (el_0 _ _) rfl inX6 0 (by decide) q188 rfl rfl dX6_least_59 ?_
          refine lv_iload_n X.x X.b dX6_least_62 rfl (lv_at hl 2 rfl) ?_
          obtain ⟨r3, σ3, h3, h⟩ := ob_e h
          refine r_runI M (r_callV (As := [.int x1]) X M (lv_sub hl [] rfl) (T_X3_placeOf h3 _) cal_X3_placeOf q264 ⟨by decide, by decide⟩ hq_1 (el_1 _ _) rfl rfl rfl (Nat.le_of_ble_eq_true rfl) ⟨Nat.le_refl _, Nat.le_refl _⟩ dX6_least_63) (fun H locs M => ?_)
          clear h3
          obtain ⟨r4, σ4, h4, h⟩ := ob_e h
          refine r_runI M (r_callV (As := [.int r3]) X M (lv_sub hl [] rfl) (T_X4_risingOf h4 _) cal_X4_risingOf q484 ⟨by decide, by decide⟩ hq_30 (el_30 _ _) rfl rfl rfl (Nat.le_of_ble_eq_true rfl) ⟨Nat.le_refl _, Nat.le_refl _⟩ dX6_least_66) (fun H locs M => ?_)
          clear h4
          exact r_iret X M rfl h dX6_least_69
        · have h := it_f c5 h
          refine lv_iload_n X.x X.b dX6_least_50 rfl (lv_at hl 0 rfl) ?_
          refine lv_goto (tgt := 69) X.x X.b dX6_least_51 (by decide) ?_
          exact r_iret X M rfl h dX6_least_69
      · have h := it_f c7 h
        refine lv_aload_n X.x X.b dX6_least_28 rfl (lv_at hl 0 rfl) ?_
        refine lv_iconst (v := 2) X.x X.b dX6_least_29 (by decide) ?_
        obtain ⟨r6, σ6, h6, h⟩ := ob_e h
        refine r_runI M (r_callV (As := [.int 2]) X M (lv_sub hl [] rfl) (T_X6_failing h6 _) cal_X6_failing q223 ⟨by decide, by decide⟩ hq_0 (el_0 _ _) rfl rfl rfl (Nat.le_of_ble_eq_true rfl) ⟨Nat.le_refl _, Nat.le_refl _⟩ dX6_least_30) (fun H locs M => ?_)
        clear h6
        exact r_iret X M rfl h dX6_least_33
    · have h := it_f c9 h
      refine lv_aload_n X.x X.b dX6_least_11 rfl (lv_at hl 0 rfl) ?_
      refine lv_iconst (v := 1) X.x X.b dX6_least_12 (by decide) ?_
      obtain ⟨r8, σ8, h8, h⟩ := ob_e h
      refine r_runI M (r_callV (As := [.int 1]) X M (lv_sub hl [] rfl) (T_X6_failing h8 _) cal_X6_failing q223 ⟨by decide, by decide⟩ hq_0 (el_0 _ _) rfl rfl rfl (Nat.le_of_ble_eq_true rfl) ⟨Nat.le_refl _, Nat.le_refl _⟩ dX6_least_13) (fun H locs M => ?_)
      clear h8
      exact r_iret X M rfl h dX6_least_16
/-- StreetNumbers$Street.draw()I -/
def f_X3_draw (σ : St) : Rs :=
  ol (st σ 1 4 (((σ 1 4) * 1103515245) + 12345)) fun σ1 => (
  some ((iushr (σ1 1 4) 8), σ1))
set_option maxRecDepth 100000 in
set_option maxHeartbeats 4000000 in
theorem T_X3_draw {l : Launch} {Γ : Gm} {σ : St} {r : Int32} {σ' : St} (h : f_X3_draw σ = some (r, σ')) : MetI l yX3_draw cX3_draw 1 .int 1 Γ σ [.ref (Γ.1 1)] r σ' := by
  intro sz
  refine met_in (by decide) (Nat.le_of_ble_eq_true rfl) (fun p e s m args below meth c ls X hsz M hl => ?_)
  subst hsz
  have X : Cx p s m args meth c cX3_draw RX3 1 (some .int) Γ := X
  have hl : lv_has ls 1 [(0, .ref (Γ.1 1))] := hl
  unfold f_X3_draw at h
  refine lv_aload_n X.x X.b dX3_draw_0 rfl (lv_at hl 0 rfl) ?_
  refine lv_aload_n X.x X.b dX3_draw_1 rfl (lv_at hl 0 rfl) ?_
  refine r_get X M hq_1 (el_1 _ _) rfl inX3 4 (by decide) q61 rfl rfl dX3_draw_2 ?_
  refine lv_ldc (v := 1103515245) X.x X.b X.ow (X.ts _ q583) dX3_draw_5 ?_
  refine lv_imul X.x X.b dX3_draw_7 ?_
  refine lv_sipush (v := 12345) X.x X.b dX3_draw_8 (by decide) ?_
  refine lv_iadd X.x X.b dX3_draw_11 ?_
  obtain ⟨σ1, e1, h⟩ := ol_e h
  refine r_put (x := (((σ 1 4) * 1103515245) + 12345)) (ty := .int) X M hq_1 (el_1 _ _) rfl inX3 tyX3_ok nmX3 4 (by decide) q61 rfl rfl rfl rfl rfl (Nat.le_of_ble_eq_true rfl) (pf_1_4 _ _ _) dX3_draw_12 (fun H locs M => ?_)
  rw [← e1] at M
  refine lv_aload_n X.x X.b dX3_draw_15 rfl (lv_at hl 0 rfl) ?_
  refine r_get X M hq_1 (el_1 _ _) rfl inX3 4 (by decide) q61 rfl rfl dX3_draw_16 ?_
  refine lv_bipush (v := 8) X.x X.b dX3_draw_19 (by decide) ?_
  refine lv_iushr (v := (iushr (σ1 1 4) 8)) X.x X.b dX3_draw_21 rfl ?_
  exact r_iret X M rfl h dX3_draw_22
/-- StreetNumbers.rest(II)I -/
def f_X6_rest (x0 : Int32) (x1 : Int32) (σ : St) : Rs :=
  if x1 = 0 then (
    some (0, σ)
  ) else (
    if ¬ x1 = 0 then (
    some ((irm x0 x1), σ)) else none
  )
set_option maxRecDepth 100000 in
set_option maxHeartbeats 4000000 in
theorem T_X6_rest {l : Launch} {Γ : Gm} {x0 : Int32} {x1 : Int32} {σ : St} {r : Int32} {σ' : St} (h : f_X6_rest x0 x1 σ = some (r, σ')) : MetI l yX6_rest cX6_rest 2 .int 1 Γ σ [.int x0, .int x1] r σ' := by
  intro sz
  refine met_in (by decide) (Nat.le_of_ble_eq_true rfl) (fun p e s m args below meth c ls X hsz M hl => ?_)
  subst hsz
  have X : Cx p s m args meth c cX6_rest RX6 2 (some .int) Γ := X
  have hl : lv_has ls 2 [(0, .int x0), (1, .int x1)] := hl
  unfold f_X6_rest at h
  refine lv_iload_n X.x X.b dX6_rest_0 rfl (lv_at hl 1 rfl) ?_
  refine lv_if_ne (tgt := 8) X.x X.b dX6_rest_1 (by decide) (fun c2 => ?_) (fun c2 => ?_)
  · have h := it_f c2 h
    refine lv_iload_n X.x X.b dX6_rest_8 rfl (lv_at hl 0 rfl) ?_
    refine lv_iload_n X.x X.b dX6_rest_9 rfl (lv_at hl 1 rfl) ?_
    obtain ⟨c1, h⟩ := it_n h
    refine r_irem X dX6_rest_10 c1 ?_
    exact r_iret X M rfl h dX6_rest_11
  · have h := it_t c2 h
    refine lv_iconst (v := 0) X.x X.b dX6_rest_4 (by decide) ?_
    refine lv_goto (tgt := 11) X.x X.b dX6_rest_5 (by decide) ?_
    exact r_iret X M rfl h dX6_rest_11
/-- StreetNumbers$Street.getsNumber(II)I -/
def f_X3_getsNumber (x1 : Int32) (x2 : Int32) (σ : St) : Rs :=
  ob (f_X3_harmTo x1 x2 σ) fun r1 σ1 => (
  ol (st σ1 1 3 (imin 99999 ((σ1 1 3) + r1))) fun σ2 => (
  ob (f_X3_setPlate x1 x2 σ2) fun _ σ3 => (
  some (r1, σ3))))
set_option maxRecDepth 100000 in
set_option maxHeartbeats 4000000 in
theorem T_X3_getsNumber {l : Launch} {Γ : Gm} {x1 : Int32} {x2 : Int32} {σ : St} {r : Int32} {σ' : St} (h : f_X3_getsNumber x1 x2 σ = some (r, σ')) : MetI l yX3_getsNumber cX3_getsNumber 4 .int 5 Γ σ [.ref (Γ.1 1), .int x1, .int x2] r σ' := by
  intro sz
  refine met_in (by decide) (Nat.le_of_ble_eq_true rfl) (fun p e s m args below meth c ls X hsz M hl => ?_)
  subst hsz
  have X : Cx p s m args meth c cX3_getsNumber RX3 4 (some .int) Γ := X
  have hl : lv_has ls 4 [(0, .ref (Γ.1 1)), (1, .int x1), (2, .int x2)] := hl
  unfold f_X3_getsNumber at h
  refine lv_aload_n X.x X.b dX3_getsNumber_0 rfl (lv_at hl 0 rfl) ?_
  refine lv_iload_n X.x X.b dX3_getsNumber_1 rfl (lv_at hl 1 rfl) ?_
  refine lv_iload_n X.x X.b dX3_getsNumber_2 rfl (lv_at hl 2 rfl) ?_
  obtain ⟨r1, σ1, h1, h⟩ := ob_e h
  refine r_runI M (r_callV (As := [.int x1, .int x2]) X M (lv_sub hl [] rfl) (T_X3_harmTo h1 _) cal_X3_harmTo q366 ⟨by decide, by decide⟩ hq_1 (el_1 _ _) rfl rfl rfl (Nat.le_of_ble_eq_true rfl) ⟨Nat.le_refl _, Nat.le_refl _⟩ dX3_getsNumber_3) (fun H locs M => ?_)
  clear h1
  refine lv_istore_n (lv' := [(3, .int r1), (0, .ref (Γ.1 1)), (1, .int x1), (2, .int x2)]) X.x X.b dX3_getsNumber_6 rfl hl (by decide) rfl (fun ls hl => ?_)
  refine lv_aload_n X.x X.b dX3_getsNumber_7 rfl (lv_at hl 1 rfl) ?_
  refine lv_ldc (v := 99999) X.x X.b X.ow (X.ts _ q367) dX3_getsNumber_8 ?_
  refine lv_aload_n X.x X.b dX3_getsNumber_10 rfl (lv_at hl 1 rfl) ?_
  refine r_get X M hq_1 (el_1 _ _) rfl inX3 3 (by decide) q59 rfl rfl dX3_getsNumber_11 ?_
  refine lv_iload_n X.x X.b dX3_getsNumber_14 rfl (lv_at hl 0 rfl) ?_
  refine lv_iadd X.x X.b dX3_getsNumber_15 ?_
  refine r_mmin X (lv_sub hl [] rfl) q368 q294 q10 q295 (by decide) (Nat.le_of_ble_eq_true rfl) (by decide) ⟨Nat.le_refl _, Nat.le_refl _⟩ dX3_getsNumber_16 ?_
  obtain ⟨σ2, e2, h⟩ := ol_e h
  refine r_put (x := (imin 99999 ((σ1 1 3) + r1))) (ty := .int) X M hq_1 (el_1 _ _) rfl inX3 tyX3_ok nmX3 3 (by decide) q59 rfl rfl rfl rfl rfl (Nat.le_of_ble_eq_true rfl) (pf_1_3 _ _ _) dX3_getsNumber_19 (fun H locs M => ?_)
  rw [← e2] at M
  refine lv_aload_n X.x X.b dX3_getsNumber_22 rfl (lv_at hl 1 rfl) ?_
  refine lv_iload_n X.x X.b dX3_getsNumber_23 rfl (lv_at hl 2 rfl) ?_
  refine lv_iload_n X.x X.b dX3_getsNumber_24 rfl (lv_at hl 3 rfl) ?_
  obtain ⟨r3, σ3, h3, h⟩ := ob_e h
  refine r_runV M (r_callV (As := [.int x1, .int x2]) X M (lv_sub hl [] rfl) (T_X3_setPlate h3 _) cal_X3_setPlate q243 ⟨by decide, by decide⟩ hq_1 (el_1 _ _) rfl rfl rfl (Nat.le_of_ble_eq_true rfl) ⟨Nat.le_refl _, Nat.le_refl _⟩ dX3_getsNumber_25) (fun H locs M => ?_)
  clear h3
  refine lv_iload_n X.x X.b dX3_getsNumber_28 rfl (lv_at hl 0 rfl) ?_
  exact r_iret X M rfl h dX3_getsNumber_29
def f_X3_renumberBy_b4 (k4 : (Int32 → Int32 → Int32 → St → Rs)) (x1 : Int32) (x2 : Int32) (x3 : Int32) (σ : St) : Rs :=
  if (σ 1 1) ≤ x3 then (
    some (x2, σ)
  ) else (
    ob (f_X3_houseAt x3 σ) fun r1 σ1 => (
    ob (f_X3_getsNumber r1 (x1 * (x3 + 1)) σ1) fun r2 σ2 => (
    k4 x1 (x2 + r2) (x3 + 1) σ2))
  )
set_option maxRecDepth 100000 in
set_option maxHeartbeats 4000000 in
theorem u_X3_renumberBy_b4 {l : Launch} {Γ : Gm} {p : Program} {e : Env} {s : State} {m : MethodId} {args : Array Value} {below : List Frame} {meth : Method} {c : Code} {r : Int32} {σ' : St} {k4 : Int32 → Int32 → Int32 → St → Rs} (X : Cx p s m args meth c cX3_renumberBy RX3 4 (some .int) Γ) (H4 : ∀ (x1 : Int32) (x2 : Int32) (x3 : Int32) (σ : St) (H : Heap) (locs : List Loc) (ls : Array Slot), k4 x1 x2 x3 σ = some (r, σ') → Mv Γ σ s H locs → lv_has ls 4 [(0, .ref (Γ.1 1)), (1, .int x1), (2, .int x2), (3, .int x3)] → W p l e (rmd 6) s m args below meth c H locs 0 0 (MQ below (Qi Γ r σ' s.heap.size) args s 0 0 (Rg Γ s.heap.size)) (F0 m 4 ls [])) (x1 : Int32) (x2 : Int32) (x3 : Int32) (σ : St) (H : Heap) (locs : List Loc) (ls : Array Slot) (h : f_X3_renumberBy_b4 k4 x1 x2 x3 σ = some (r, σ')) (M : Mv Γ σ s H locs) (hl : lv_has ls 4 [(0, .ref (Γ.1 1)), (1, .int x1), (2, .int x2), (3, .int x3)]) : W p l e (rmd 6) s m args below meth c H locs 0 0 (MQ below (Qi Γ r σ' s.heap.size) args s 0 0 (Rg Γ s.heap.size)) (F0 m 4 ls []) := by
  unfold f_X3_renumberBy_b4 at h
  refine lv_iload_n X.x X.b dX3_renumberBy_4 rfl (lv_at hl 3 rfl) ?_
  refine lv_aload_n X.x X.b dX3_renumberBy_5 rfl (lv_at hl 0 rfl) ?_
  refine r_get X M hq_1 (el_1 _ _) rfl inX3 1 (by decide) q55 rfl rfl dX3_renumberBy_6 ?_
  refine lv_icmp_ge (tgt := 35) X.x X.b dX3_renumberBy_9 (by decide) (fun c3 => ?_) (fun c3 => ?_)
  · have h := it_t c3 h
    refine lv_iload_n X.x X.b dX3_renumberBy_35 rfl (lv_at hl 2 rfl) ?_
    exact r_iret X M rfl h dX3_renumberBy_36
  · have h := it_f c3 h
    refine lv_iload_n X.x X.b dX3_renumberBy_12 rfl (lv_at hl 2 rfl) ?_
    refine lv_aload_n X.x X.b dX3_renumberBy_13 rfl (lv_at hl 0 rfl) ?_
    refine lv_aload_n X.x X.b dX3_renumberBy_14 rfl (lv_at hl 0 rfl) ?_
    refine lv_iload_n X.x X.b dX3_renumberBy_15 rfl (lv_at hl 3 rfl) ?_
    obtain ⟨r1, σ1, h1, h⟩ := ob_e h
    refine r_runI M (r_callV (As := [.int x3]) X M (lv_sub hl [] rfl) (T_X3_houseAt h1 _) cal_X3_houseAt q272 ⟨by decide, by decide⟩ hq_1 (el_1 _ _) rfl rfl rfl (Nat.le_of_ble_eq_true rfl) ⟨Nat.le_refl _, Nat.le_refl _⟩ dX3_renumberBy_16) (fun H locs M => ?_)
    clear h1
    refine lv_iload_n X.x X.b dX3_renumberBy_19 rfl (lv_at hl 1 rfl) ?_
    refine lv_iload_n X.x X.b dX3_renumberBy_20 rfl (lv_at hl 3 rfl) ?_
    refine lv_iconst (v := 1) X.x X.b dX3_renumberBy_21 (by decide) ?_
    refine lv_iadd X.x X.b dX3_renumberBy_22 ?_
    refine lv_imul X.x X.b dX3_renumberBy_23 ?_
    obtain ⟨r2, σ2, h2, h⟩ := ob_e h
    refine r_runI M (r_callV (As := [.int r1, .int (x1 * (x3 + 1))]) X M (lv_sub hl [] rfl) (T_X3_getsNumber h2 _) cal_X3_getsNumber q455 ⟨by decide, by decide⟩ hq_1 (el_1 _ _) rfl rfl rfl (Nat.le_of_ble_eq_true rfl) ⟨Nat.le_refl _, Nat.le_refl _⟩ dX3_renumberBy_24) (fun H locs M => ?_)
    clear h2
    refine lv_iadd X.x X.b dX3_renumberBy_27 ?_
    refine lv_istore_n (lv' := [(2, .int (x2 + r2)), (0, .ref (Γ.1 1)), (1, .int x1), (3, .int x3)]) X.x X.b dX3_renumberBy_28 rfl hl (by decide) rfl (fun ls hl => ?_)
    refine lv_iinc (v := (x3 + 1)) (lv' := [(3, .int (x3 + 1)), (2, .int (x2 + r2)), (0, .ref (Γ.1 1)), (1, .int x1)]) X.x X.b dX3_renumberBy_29 hl (k := 3) rfl rfl (by decide) rfl (fun ls hl => ?_)
    refine lv_goto (tgt := 4) X.x X.b dX3_renumberBy_32 (by decide) ?_
    exact H4 x1 (x2 + r2) (x3 + 1) σ2 _ _ _ h M (lv_sub hl [2, 3, 1, 0] rfl)
def f_X3_renumberBy_L4 : Nat → Int32 → Int32 → Int32 → St → Rs
  | 0 => fun _ _ _ _ => none
  | n + 1 => fun x1 x2 x3 σ => f_X3_renumberBy_b4 (f_X3_renumberBy_L4 n) x1 x2 x3 σ
theorem u_X3_renumberBy_L4 {l : Launch} {Γ : Gm} {p : Program} {e : Env} {s : State} {m : MethodId} {args : Array Value} {below : List Frame} {meth : Method} {c : Code} {r : Int32} {σ' : St} (X : Cx p s m args meth c cX3_renumberBy RX3 4 (some .int) Γ) : ∀ (n : Nat) (x1 : Int32) (x2 : Int32) (x3 : Int32) (σ : St) (H : Heap) (locs : List Loc) (ls : Array Slot), f_X3_renumberBy_L4 n x1 x2 x3 σ = some (r, σ') → Mv Γ σ s H locs → lv_has ls 4 [(0, .ref (Γ.1 1)), (1, .int x1), (2, .int x2), (3, .int x3)] → W p l e (rmd 6) s m args below meth c H locs 0 0 (MQ below (Qi Γ r σ' s.heap.size) args s 0 0 (Rg Γ s.heap.size)) (F0 m 4 ls []) := by
  intro n
  induction n with
  | zero => intro x1 x2 x3 σ H locs ls h; cases h
  | succ n ih => intro x1 x2 x3 σ H locs ls h; exact u_X3_renumberBy_b4 X  ih x1 x2 x3 σ H locs ls h
/-- StreetNumbers$Street.renumberBy(I)I -/
def f_X3_renumberBy (x1 : Int32) (σ : St) : Rs :=
  f_X3_renumberBy_L4 LF x1 0 0 σ
set_option maxRecDepth 100000 in
set_option maxHeartbeats 4000000 in
theorem T_X3_renumberBy {l : Launch} {Γ : Gm} {x1 : Int32} {σ : St} {r : Int32} {σ' : St} (h : f_X3_renumberBy x1 σ = some (r, σ')) : MetI l yX3_renumberBy cX3_renumberBy 4 .int 6 Γ σ [.ref (Γ.1 1), .int x1] r σ' := by
  intro sz
  refine met_in (by decide) (Nat.le_of_ble_eq_true rfl) (fun p e s m args below meth c ls X hsz M hl => ?_)
  subst hsz
  have X : Cx p s m args meth c cX3_renumberBy RX3 4 (some .int) Γ := X
  have hl : lv_has ls 4 [(0, .ref (Γ.1 1)), (1, .int x1)] := hl
  unfold f_X3_renumberBy at h
  refine lv_iconst (v := 0) X.x X.b dX3_renumberBy_0 (by decide) ?_
  refine lv_istore_n (lv' := [(2, .int 0), (0, .ref (Γ.1 1)), (1, .int x1)]) X.x X.b dX3_renumberBy_1 rfl hl (by decide) rfl (fun ls hl => ?_)
  refine lv_iconst (v := 0) X.x X.b dX3_renumberBy_2 (by decide) ?_
  refine lv_istore_n (lv' := [(3, .int 0), (2, .int 0), (0, .ref (Γ.1 1)), (1, .int x1)]) X.x X.b dX3_renumberBy_3 rfl hl (by decide) rfl (fun ls hl => ?_)
  exact u_X3_renumberBy_L4 X LF x1 0 0 σ _ _ _ h M (lv_sub hl [2, 3, 1, 0] rfl)
def f_X3_passYearByDraws_b53 (x1 : Int32) (x2 : Int32) (x3 : Int32) (σ : St) : Rs :=
  ob (f_X3_numberBetween x1 σ) fun r1 σ1 => (
  ob (f_X3_addHouse x2 0 x1 r1 σ1) fun r2 σ2 => (
  ol (st σ2 1 2 ((σ2 1 2) + 1)) fun σ3 => (
  some (((σ3 1 1) - x3), σ3))))
set_option maxRecDepth 100000 in
set_option maxHeartbeats 4000000 in
theorem u_X3_passYearByDraws_b53 {l : Launch} {Γ : Gm} {p : Program} {e : Env} {s : State} {m : MethodId} {args : Array Value} {below : List Frame} {meth : Method} {c : Code} {r : Int32} {σ' : St} (X : Cx p s m args meth c cX3_passYearByDraws RX3 4 (some .int) Γ) (x1 : Int32) (x2 : Int32) (x3 : Int32) (σ : St) (H : Heap) (locs : List Loc) (ls : Array Slot) (h : f_X3_passYearByDraws_b53 x1 x2 x3 σ = some (r, σ')) (M : Mv Γ σ s H locs) (hl : lv_has ls 4 [(0, .ref (Γ.1 1)), (1, .int x1), (2, .int x2), (3, .int x3)]) : W p l e (rmd 7) s m args below meth c H locs 0 0 (MQ below (Qi Γ r σ' s.heap.size) args s 0 0 (Rg Γ s.heap.size)) (F0 m 53 ls []) := by
  unfold f_X3_passYearByDraws_b53 at h
  refine lv_aload_n X.x X.b dX3_passYearByDraws_53 rfl (lv_at hl 0 rfl) ?_
  refine lv_iload_n X.x X.b dX3_passYearByDraws_54 rfl (lv_at hl 2 rfl) ?_
  refine lv_iconst (v := 0) X.x X.b dX3_passYearByDraws_55 (by decide) ?_
  refine lv_iload_n X.x X.b dX3_passYearByDraws_56 rfl (lv_at hl 1 rfl) ?_
  refine lv_aload_n X.x X.b dX3_passYearByDraws_57 rfl (lv_at hl 0 rfl) ?_
  refine lv_iload_n X.x X.b dX3_passYearByDraws_58 rfl (lv_at hl 1 rfl) ?_
  obtain ⟨r1, σ1, h1, h⟩ := ob_e h
  refine r_runI M (r_callV (As := [.int x1]) X M (lv_sub hl [] rfl) (T_X3_numberBetween h1 _) cal_X3_numberBetween q587 ⟨by decide, by decide⟩ hq_1 (el_1 _ _) rfl rfl rfl (Nat.le_of_ble_eq_true rfl) ⟨Nat.le_refl _, Nat.le_refl _⟩ dX3_passYearByDraws_59) (fun H locs M => ?_)
  clear h1
  obtain ⟨r2, σ2, h2, h⟩ := ob_e h
  refine r_runI M (r_callV (As := [.int x2, .int 0, .int x1, .int r1]) X M (lv_sub hl [] rfl) (T_X3_addHouse h2 _) cal_X3_addHouse q589 ⟨by decide, by decide⟩ hq_1 (el_1 _ _) rfl rfl rfl (Nat.le_of_ble_eq_true rfl) ⟨Nat.le_refl _, Nat.le_refl _⟩ dX3_passYearByDraws_62) (fun H locs M => ?_)
  clear h2
  refine lv_pop X.x X.b dX3_passYearByDraws_65 rfl ?_
  refine lv_aload_n X.x X.b dX3_passYearByDraws_66 rfl (lv_at hl 0 rfl) ?_
  refine lv_dup X.x X.b dX3_passYearByDraws_67 rfl ?_
  refine r_get X M hq_1 (el_1 _ _) rfl inX3 2 (by decide) q57 rfl rfl dX3_passYearByDraws_68 ?_
  refine lv_iconst (v := 1) X.x X.b dX3_passYearByDraws_71 (by decide) ?_
  refine lv_iadd X.x X.b dX3_passYearByDraws_72 ?_
  obtain ⟨σ3, e3, h⟩ := ol_e h
  refine r_put (x := ((σ2 1 2) + 1)) (ty := .int) X M hq_1 (el_1 _ _) rfl inX3 tyX3_ok nmX3 2 (by decide) q57 rfl rfl rfl rfl rfl (Nat.le_of_ble_eq_true rfl) (pf_1_2 _ _ _) dX3_passYearByDraws_73 (fun H locs M => ?_)
  rw [← e3] at M
  refine lv_aload_n X.x X.b dX3_passYearByDraws_76 rfl (lv_at hl 0 rfl) ?_
  refine r_get X M hq_1 (el_1 _ _) rfl inX3 1 (by decide) q55 rfl rfl dX3_passYearByDraws_77 ?_
  refine lv_iload_n X.x X.b dX3_passYearByDraws_80 rfl (lv_at hl 3 rfl) ?_
  refine lv_isub X.x X.b dX3_passYearByDraws_81 ?_
  exact r_iret X M rfl h dX3_passYearByDraws_82
/-- StreetNumbers$Street.passYearByDraws()I -/
def f_X3_passYearByDraws (σ : St) : Rs :=
  ob (f_X3_draw σ) fun r1 σ1 => (
  ob (f_X6_rest r1 (1 + (σ1 1 1)) σ1) fun r2 σ2 => (
  ob (f_X3_draw σ2) fun r3 σ3 => (
  ob (f_X6_rest r3 7 σ3) fun r4 σ4 => (
  if 10 ≤ (σ4 1 1) then (
    ol (st σ4 1 2 ((σ4 1 2) + 1)) fun σ5 => (
    some (((σ5 1 1) - (σ4 1 1)), σ5))
  ) else (
    ob (f_X3_numberBetween r2 σ4) fun r6 σ6 => (
    if 0 ≤ r6 then (
      f_X3_passYearByDraws_b53 r2 r4 (σ4 1 1) σ6
    ) else (
      ob (f_X3_renumberBy 10 σ6) fun r7 σ7 => (
      f_X3_passYearByDraws_b53 r2 r4 (σ4 1 1) σ7)
    ))
  )))))
set_option maxRecDepth 100000 in
set_option maxHeartbeats 4000000 in
theorem T_X3_passYearByDraws {l : Launch} {Γ : Gm} {σ : St} {r : Int32} {σ' : St} (h : f_X3_passYearByDraws σ = some (r, σ')) : MetI l yX3_passYearByDraws cX3_passYearByDraws 4 .int 7 Γ σ [.ref (Γ.1 1)] r σ' := by
  intro sz
  refine met_in (by decide) (Nat.le_of_ble_eq_true rfl) (fun p e s m args below meth c ls X hsz M hl => ?_)
  subst hsz
  have X : Cx p s m args meth c cX3_passYearByDraws RX3 4 (some .int) Γ := X
  have hl : lv_has ls 4 [(0, .ref (Γ.1 1))] := hl
  unfold f_X3_passYearByDraws at h
  refine lv_aload_n X.x X.b dX3_passYearByDraws_0 rfl (lv_at hl 0 rfl) ?_
  obtain ⟨r1, σ1, h1, h⟩ := ob_e h
  refine r_runI M (r_callV (As := []) X M (lv_sub hl [] rfl) (T_X3_draw h1 _) cal_X3_draw q579 ⟨by decide, by decide⟩ hq_1 (el_1 _ _) rfl rfl rfl (Nat.le_of_ble_eq_true rfl) ⟨Nat.le_refl _, Nat.le_refl _⟩ dX3_passYearByDraws_1) (fun H locs M => ?_)
  clear h1
  refine lv_iconst (v := 1) X.x X.b dX3_passYearByDraws_4 (by decide) ?_
  refine lv_aload_n X.x X.b dX3_passYearByDraws_5 rfl (lv_at hl 0 rfl) ?_
  refine r_get X M hq_1 (el_1 _ _) rfl inX3 1 (by decide) q55 rfl rfl dX3_passYearByDraws_6 ?_
  refine lv_iadd X.x X.b dX3_passYearByDraws_9 ?_
  obtain ⟨r2, σ2, h2, h⟩ := ob_e h
  refine r_runI M (r_callSN (As := [.int r1, .int (1 + (σ1 1 1))]) (host := "StreetNumbers") X M (lv_sub hl [] rfl) (T_X6_rest h2 _) cal_X6_rest nst_X3_128 ⟨by decide, by decide⟩ rfl rfl (Nat.le_of_ble_eq_true rfl) ⟨Nat.le_refl _, Nat.le_refl _⟩ dX3_passYearByDraws_10) (fun H locs M => ?_)
  clear h2
  refine lv_istore_n (lv' := [(1, .int r2), (0, .ref (Γ.1 1))]) X.x X.b dX3_passYearByDraws_13 rfl hl (by decide) rfl (fun ls hl => ?_)
  refine lv_aload_n X.x X.b dX3_passYearByDraws_14 rfl (lv_at hl 1 rfl) ?_
  obtain ⟨r3, σ3, h3, h⟩ := ob_e h
  refine r_runI M (r_callV (As := []) X M (lv_sub hl [] rfl) (T_X3_draw h3 _) cal_X3_draw q579 ⟨by decide, by decide⟩ hq_1 (el_1 _ _) rfl rfl rfl (Nat.le_of_ble_eq_true rfl) ⟨Nat.le_refl _, Nat.le_refl _⟩ dX3_passYearByDraws_15) (fun H locs M => ?_)
  clear h3
  refine lv_bipush (v := 7) X.x X.b dX3_passYearByDraws_18 (by decide) ?_
  obtain ⟨r4, σ4, h4, h⟩ := ob_e h
  refine r_runI M (r_callSN (As := [.int r3, .int 7]) (host := "StreetNumbers") X M (lv_sub hl [] rfl) (T_X6_rest h4 _) cal_X6_rest nst_X3_128 ⟨by decide, by decide⟩ rfl rfl (Nat.le_of_ble_eq_true rfl) ⟨Nat.le_refl _, Nat.le_refl _⟩ dX3_passYearByDraws_20) (fun H locs M => ?_)
  clear h4
  refine lv_istore_n (lv' := [(2, .int r4), (1, .int r2), (0, .ref (Γ.1 1))]) X.x X.b dX3_passYearByDraws_23 rfl hl (by decide) rfl (fun ls hl => ?_)
  refine lv_aload_n X.x X.b dX3_passYearByDraws_24 rfl (lv_at hl 2 rfl) ?_
  refine r_get X M hq_1 (el_1 _ _) rfl inX3 1 (by decide) q55 rfl rfl dX3_passYearByDraws_25 ?_
  refine lv_istore_n (lv' := [(3, .int (σ4 1 1)), (2, .int r4), (1, .int r2), (0, .ref (Γ.1 1))]) X.x X.b dX3_passYearByDraws_28 rfl hl (by decide) rfl (fun ls hl => ?_)
  refine lv_aload_n X.x X.b dX3_passYearByDraws_29 rfl (lv_at hl 3 rfl) ?_
  refine r_get X M hq_1 (el_1 _ _) rfl inX3 1 (by decide) q55 rfl rfl dX3_passYearByDraws_30 ?_
  refine lv_bipush (v := 10) X.x X.b dX3_passYearByDraws_33 (by decide) ?_
  refine lv_icmp_ge (tgt := 66) X.x X.b dX3_passYearByDraws_35 (by decide) (fun c9 => ?_) (fun c9 => ?_)
  · have h := it_t c9 h
    refine lv_aload_n X.x X.b dX3_passYearByDraws_66 rfl (lv_at hl 3 rfl) ?_
    refine lv_dup X.x X.b dX3_passYearByDraws_67 rfl ?_
    refine r_get X M hq_1 (el_1 _ _) rfl inX3 2 (by decide) q57 rfl rfl dX3_passYearByDraws_68 ?_
    refine lv_iconst (v := 1) X.x X.b dX3_passYearByDraws_71 (by decide) ?_
    refine lv_iadd X.x X.b dX3_passYearByDraws_72 ?_
    obtain ⟨σ5, e5, h⟩ := ol_e h
    refine r_put (x := ((σ4 1 2) + 1)) (ty := .int) X M hq_1 (el_1 _ _) rfl inX3 tyX3_ok nmX3 2 (by decide) q57 rfl rfl rfl rfl rfl (Nat.le_of_ble_eq_true rfl) (pf_1_2 _ _ _) dX3_passYearByDraws_73 (fun H locs M => ?_)
    rw [← e5] at M
    refine lv_aload_n X.x X.b dX3_passYearByDraws_76 rfl (lv_at hl 3 rfl) ?_
    refine r_get X M hq_1 (el_1 _ _) rfl inX3 1 (by decide) q55 rfl rfl dX3_passYearByDraws_77 ?_
    refine lv_iload_n X.x X.b dX3_passYearByDraws_80 rfl (lv_at hl 0 rfl) ?_
    refine lv_isub X.x X.b dX3_passYearByDraws_81 ?_
    exact r_iret X M rfl h dX3_passYearByDraws_82
  · have h := it_f c9 h
    refine lv_aload_n X.x X.b dX3_passYearByDraws_38 rfl (lv_at hl 3 rfl) ?_
    refine lv_iload_n X.x X.b dX3_passYearByDraws_39 rfl (lv_at hl 2 rfl) ?_
    obtain ⟨r6, σ6, h6, h⟩ := ob_e h
    refine r_runI M (r_callV (As := [.int r2]) X M (lv_sub hl [] rfl) (T_X3_numberBetween h6 _) cal_X3_numberBetween q587 ⟨by decide, by decide⟩ hq_1 (el_1 _ _) rfl rfl rfl (Nat.le_of_ble_eq_true rfl) ⟨Nat.le_refl _, Nat.le_refl _⟩ dX3_passYearByDraws_40) (fun H locs M => ?_)
    clear h6
    refine lv_if_ge (tgt := 53) X.x X.b dX3_passYearByDraws_43 (by decide) (fun c8 => ?_) (fun c8 => ?_)
    · have h := it_t c8 h
      exact u_X3_passYearByDraws_b53 X r2 r4 (σ4 1 1) σ6 _ _ _ h M (lv_sub hl [3, 2, 1, 0] rfl)
    · have h := it_f c8 h
      refine lv_aload_n X.x X.b dX3_passYearByDraws_46 rfl (lv_at hl 3 rfl) ?_
      refine lv_bipush (v := 10) X.x X.b dX3_passYearByDraws_47 (by decide) ?_
      obtain ⟨r7, σ7, h7, h⟩ := ob_e h
      refine r_runI M (r_callV (As := [.int 10]) X M (lv_sub hl [] rfl) (T_X3_renumberBy h7 _) cal_X3_renumberBy q588 ⟨by decide, by decide⟩ hq_1 (el_1 _ _) rfl rfl rfl (Nat.le_of_ble_eq_true rfl) ⟨Nat.le_refl _, Nat.le_refl _⟩ dX3_passYearByDraws_49) (fun H locs M => ?_)
      clear h7
      refine lv_pop X.x X.b dX3_passYearByDraws_52 rfl ?_
      exact u_X3_passYearByDraws_b53 X r2 r4 (σ4 1 1) σ7 _ _ _ h M (lv_sub hl [3, 2, 1, 0] rfl)
def f_X6_loose_b42 (k42 : (Int32 → Int32 → Int32 → St → Rs)) (x1 : Int32) (x2 : Int32) (x3 : Int32) (σ : St) : Rs :=
  if x1 ≤ x3 then (
    some (x2, σ)
  ) else (
    ob (f_X3_passYearByDraws σ) fun r1 σ1 => (
    k42 x1 (x2 + r1) (x3 + 1) σ1)
  )
set_option maxRecDepth 100000 in
set_option maxHeartbeats 4000000 in
theorem u_X6_loose_b42 {l : Launch} {Γ : Gm} {p : Program} {e : Env} {s : State} {m : MethodId} {args : Array Value} {below : List Frame} {meth : Method} {c : Code} {r : Int32} {σ' : St} {k42 : Int32 → Int32 → Int32 → St → Rs} (X : Cx p s m args meth c cX6_loose RX6 4 (some .int) Γ) (H42 : ∀ (x1 : Int32) (x2 : Int32) (x3 : Int32) (σ : St) (H : Heap) (locs : List Loc) (ls : Array Slot), k42 x1 x2 x3 σ = some (r, σ') → Mv Γ σ s H locs → lv_has ls 4 [(0, .ref (Γ.1 0)), (1, .int x1), (2, .int x2), (3, .int x3)] → W p l e (rmd 8) s m args below meth c H locs 0 0 (MQ below (Qi Γ r σ' s.heap.size) args s 0 0 (Rg Γ s.heap.size)) (F0 m 42 ls [])) (x1 : Int32) (x2 : Int32) (x3 : Int32) (σ : St) (H : Heap) (locs : List Loc) (ls : Array Slot) (h : f_X6_loose_b42 k42 x1 x2 x3 σ = some (r, σ')) (M : Mv Γ σ s H locs) (hl : lv_has ls 4 [(0, .ref (Γ.1 0)), (1, .int x1), (2, .int x2), (3, .int x3)]) : W p l e (rmd 8) s m args below meth c H locs 0 0 (MQ below (Qi Γ r σ' s.heap.size) args s 0 0 (Rg Γ s.heap.size)) (F0 m 42 ls []) := by
  unfold f_X6_loose_b42 at h
  refine lv_iload_n X.x X.b dX6_loose_42 rfl (lv_at hl 3 rfl) ?_
  refine lv_iload_n X.x X.b dX6_loose_43 rfl (lv_at hl 1 rfl) ?_
  refine lv_icmp_ge (tgt := 63) X.x X.b dX6_loose_44 (by decide) (fun c2 => ?_) (fun c2 => ?_)
  · have h := it_t c2 h
    refine lv_iload_n X.x X.b dX6_loose_63 rfl (lv_at hl 2 rfl) ?_
    exact r_iret X M rfl h dX6_loose_64
  · have h := it_f c2 h
    refine lv_iload_n X.x X.b dX6_loose_47 rfl (lv_at hl 2 rfl) ?_
    refine lv_aload_n X.x X.b dX6_loose_48 rfl (lv_at hl 0 rfl) ?_
    refine r_get X M hq_0 (el_0 _ _) rfl inX6 0 (by decide) q188 rfl rfl dX6_loose_49 ?_
    obtain ⟨r1, σ1, h1, h⟩ := ob_e h
    refine r_runI M (r_callV (As := []) X M (lv_sub hl [] rfl) (T_X3_passYearByDraws h1 _) cal_X3_passYearByDraws q575 ⟨by decide, by decide⟩ hq_1 (el_1 _ _) rfl rfl rfl (Nat.le_of_ble_eq_true rfl) ⟨Nat.le_refl _, Nat.le_refl _⟩ dX6_loose_52) (fun H locs M => ?_)
    clear h1
    refine lv_iadd X.x X.b dX6_loose_55 ?_
    refine lv_istore_n (lv' := [(2, .int (x2 + r1)), (0, .ref (Γ.1 0)), (1, .int x1), (3, .int x3)]) X.x X.b dX6_loose_56 rfl hl (by decide) rfl (fun ls hl => ?_)
    refine lv_iinc (v := (x3 + 1)) (lv' := [(3, .int (x3 + 1)), (2, .int (x2 + r1)), (0, .ref (Γ.1 0)), (1, .int x1)]) X.x X.b dX6_loose_57 hl (k := 3) rfl rfl (by decide) rfl (fun ls hl => ?_)
    refine lv_goto (tgt := 42) X.x X.b dX6_loose_60 (by decide) ?_
    exact H42 x1 (x2 + r1) (x3 + 1) σ1 _ _ _ h M (lv_sub hl [2, 3, 1, 0] rfl)
def f_X6_loose_L42 : Nat → Int32 → Int32 → Int32 → St → Rs
  | 0 => fun _ _ _ _ => none
  | n + 1 => fun x1 x2 x3 σ => f_X6_loose_b42 (f_X6_loose_L42 n) x1 x2 x3 σ
theorem u_X6_loose_L42 {l : Launch} {Γ : Gm} {p : Program} {e : Env} {s : State} {m : MethodId} {args : Array Value} {below : List Frame} {meth : Method} {c : Code} {r : Int32} {σ' : St} (X : Cx p s m args meth c cX6_loose RX6 4 (some .int) Γ) : ∀ (n : Nat) (x1 : Int32) (x2 : Int32) (x3 : Int32) (σ : St) (H : Heap) (locs : List Loc) (ls : Array Slot), f_X6_loose_L42 n x1 x2 x3 σ = some (r, σ') → Mv Γ σ s H locs → lv_has ls 4 [(0, .ref (Γ.1 0)), (1, .int x1), (2, .int x2), (3, .int x3)] → W p l e (rmd 8) s m args below meth c H locs 0 0 (MQ below (Qi Γ r σ' s.heap.size) args s 0 0 (Rg Γ s.heap.size)) (F0 m 42 ls []) := by
  intro n
  induction n with
  | zero => intro x1 x2 x3 σ H locs ls h; cases h
  | succ n ih => intro x1 x2 x3 σ H locs ls h; exact u_X6_loose_b42 X  ih x1 x2 x3 σ H locs ls h
/-- StreetNumbers.loose(I)I -/
def f_X6_loose (x1 : Int32) (σ : St) : Rs :=
  if x1 < 1 then (
    ob (f_X6_failing 1 σ) fun r1 σ1 => (
    some (r1, σ1))
  ) else (
    if x1 ≤ 30 then (
      if ((σ 1 2) + x1) ≤ 9999 then (
        f_X6_loose_L42 LF x1 0 0 σ
      ) else (
        ob (f_X6_failing 3 σ) fun r2 σ2 => (
        some (r2, σ2))
      )
    ) else (
      ob (f_X6_failing 1 σ) fun r4 σ4 => (
      some (r4, σ4))
    )
  )
set_option maxRecDepth 100000 in
set_option maxHeartbeats 4000000 in
theorem T_X6_loose {l : Launch} {Γ : Gm} {x1 : Int32} {σ : St} {r : Int32} {σ' : St} (h : f_X6_loose x1 σ = some (r, σ')) : MetI l yX6_loose cX6_loose 4 .int 8 Γ σ [.ref (Γ.1 0), .int x1] r σ' := by
  intro sz
  refine met_in (by decide) (Nat.le_of_ble_eq_true rfl) (fun p e s m args below meth c ls X hsz M hl => ?_)
  subst hsz
  have X : Cx p s m args meth c cX6_loose RX6 4 (some .int) Γ := X
  have hl : lv_has ls 4 [(0, .ref (Γ.1 0)), (1, .int x1)] := hl
  unfold f_X6_loose at h
  refine lv_iload_n X.x X.b dX6_loose_0 rfl (lv_at hl 1 rfl) ?_
  refine lv_iconst (v := 1) X.x X.b dX6_loose_1 (by decide) ?_
  refine lv_icmp_lt (tgt := 11) X.x X.b dX6_loose_2 (by decide) (fun c6 => ?_) (fun c6 => ?_)
  · have h := it_t c6 h
    refine lv_aload_n X.x X.b dX6_loose_11 rfl (lv_at hl 0 rfl) ?_
    refine lv_iconst (v := 1) X.x X.b dX6_loose_12 (by decide) ?_
    obtain ⟨r1, σ1, h1, h⟩ := ob_e h
    refine r_runI M (r_callV (As := [.int 1]) X M (lv_sub hl [] rfl) (T_X6_failing h1 _) cal_X6_failing q223 ⟨by decide, by decide⟩ hq_0 (el_0 _ _) rfl rfl rfl (Nat.le_of_ble_eq_true rfl) ⟨Nat.le_refl _, Nat.le_refl _⟩ dX6_loose_13) (fun H locs M => ?_)
    clear h1
    exact r_iret X M rfl h dX6_loose_16
  · have h := it_f c6 h
    refine lv_iload_n X.x X.b dX6_loose_5 rfl (lv_at hl 1 rfl) ?_
    refine lv_bipush (v := 30) X.x X.b dX6_loose_6 (by decide) ?_
    refine lv_icmp_le (tgt := 17) X.x X.b dX6_loose_8 (by decide) (fun c5 => ?_) (fun c5 => ?_)
    · have h := it_t c5 h
      refine lv_aload_n X.x X.b dX6_loose_17 rfl (lv_at hl 0 rfl) ?_
      refine r_get X M hq_0 (el_0 _ _) rfl inX6 0 (by decide) q188 rfl rfl dX6_loose_18 ?_
      refine r_get X M hq_1 (el_1 _ _) rfl inX3 2 (by decide) q58 rfl rfl dX6_loose_21 ?_
      refine lv_iload_n X.x X.b dX6_loose_24 rfl (lv_at hl 1 rfl) ?_
      refine lv_iadd X.x X.b dX6_loose_25 ?_
      refine lv_sipush (v := 9999) X.x X.b dX6_loose_26 (by decide) ?_
      refine lv_icmp_le (tgt := 38) X.x X.b dX6_loose_29 (by decide) (fun c3 => ?_) (fun c3 => ?_)
      · have h := it_t c3 h
        refine lv_iconst (v := 0) X.x X.b dX6_loose_38 (by decide) ?_
        refine lv_istore_n (lv' := [(2, .int 0), (0, .ref (Γ.1 0)), (1, .int x1)]) X.x X.b dX6_loose_39 rfl hl (by decide) rfl (fun ls hl => ?_)
        refine lv_iconst (v := 0) X.x X.b dX6_loose_40 (by decide) ?_
        refine lv_istore_n (lv' := [(3, .int 0), (2, .int 0), (0, .ref (Γ.1 0)), (1, .int x1)]) X.x X.b dX6_loose_41 rfl hl (by decide) rfl (fun ls hl => ?_)
        exact u_X6_loose_L42 X LF x1 0 0 σ _ _ _ h M (lv_sub hl [2, 3, 1, 0] rfl)
      · have h := it_f c3 h
        refine lv_aload_n X.x X.b dX6_loose_32 rfl (lv_at hl 0 rfl) ?_
        refine lv_iconst (v := 3) X.x X.b dX6_loose_33 (by decide) ?_
        obtain ⟨r2, σ2, h2, h⟩ := ob_e h
        refine r_runI M (r_callV (As := [.int 3]) X M (lv_sub hl [] rfl) (T_X6_failing h2 _) cal_X6_failing q223 ⟨by decide, by decide⟩ hq_0 (el_0 _ _) rfl rfl rfl (Nat.le_of_ble_eq_true rfl) ⟨Nat.le_refl _, Nat.le_refl _⟩ dX6_loose_34) (fun H locs M => ?_)
        clear h2
        exact r_iret X M rfl h dX6_loose_37
    · have h := it_f c5 h
      refine lv_aload_n X.x X.b dX6_loose_11 rfl (lv_at hl 0 rfl) ?_
      refine lv_iconst (v := 1) X.x X.b dX6_loose_12 (by decide) ?_
      obtain ⟨r4, σ4, h4, h⟩ := ob_e h
      refine r_runI M (r_callV (As := [.int 1]) X M (lv_sub hl [] rfl) (T_X6_failing h4 _) cal_X6_failing q223 ⟨by decide, by decide⟩ hq_0 (el_0 _ _) rfl rfl rfl (Nat.le_of_ble_eq_true rfl) ⟨Nat.le_refl _, Nat.le_refl _⟩ dX6_loose_13) (fun H locs M => ?_)
      clear h4
      exact r_iret X M rfl h dX6_loose_16
/-- StreetNumbers$Sheets.copy(IIIII)V -/
def f_X2_copy (x1 : Int32) (x2 : Int32) (x3 : Int32) (x4 : Int32) (x5 : Int32) (σ : St) : Rs :=
  ob (f_X2_holds x1 x2 x5 σ) fun r1 σ1 => (
  if r1 = 0 then (
    some (0, σ1)
  ) else (
    ob (f_X2_holds x3 x4 x5 σ1) fun r2 σ2 => (
    if r2 = 0 then (
      some (0, σ2)
    ) else (
      ob (f_X6_isSheet x1 σ2) fun r3 σ3 => (
      if r3 = 0 then (
        some (0, σ3)
      ) else (
        ob (f_X6_isSheet x3 σ3) fun r4 σ4 => (
        if r4 = 0 then (
          some (0, σ4)
        ) else (
          if inb x1 4 then (
          if inb x3 4 then (
          if ¬ x2 < 0 ∧ ¬ x4 < 0 ∧ ¬ x5 < 0 ∧ x2.toNatClampNeg + x5.toNatClampNeg ≤ 24 ∧ x4.toNatClampNeg + x5.toNatClampNeg ≤ 24 then (
          ol (sR σ4 (59 + x3.toNatClampNeg) (va_cpy (σ4 (59 + x1.toNatClampNeg)) (σ4 (59 + x3.toNatClampNeg)) x2.toNatClampNeg x4.toNatClampNeg x5.toNatClampNeg)) fun σ8 => (
          some (0, σ8))) else none) else none) else none
        ))
      ))
    ))
  ))
set_option maxRecDepth 100000 in
set_option maxHeartbeats 4000000 in
theorem T_X2_copy {l : Launch} {Γ : Gm} {x1 : Int32} {x2 : Int32} {x3 : Int32} {x4 : Int32} {x5 : Int32} {σ : St} {r : Int32} {σ' : St} (h : f_X2_copy x1 x2 x3 x4 x5 σ = some (r, σ')) : MetV l yX2_copy cX2_copy 6 4 Γ σ [.ref (Γ.1 57), .int x1, .int x2, .int x3, .int x4, .int x5] σ' := by
  intro sz
  refine met_in (by decide) (Nat.le_of_ble_eq_true rfl) (fun p e s m args below meth c ls X hsz M hl => ?_)
  subst hsz
  have X : Cx p s m args meth c cX2_copy RX2 6 none Γ := X
  have hl : lv_has ls 6 [(0, .ref (Γ.1 57)), (1, .int x1), (2, .int x2), (3, .int x3), (4, .int x4), (5, .int x5)] := hl
  unfold f_X2_copy at h
  refine lv_aload_n X.x X.b dX2_copy_0 rfl (lv_at hl 0 rfl) ?_
  refine lv_iload_n X.x X.b dX2_copy_1 rfl (lv_at hl 1 rfl) ?_
  refine lv_iload_n X.x X.b dX2_copy_2 rfl (lv_at hl 2 rfl) ?_
  refine lv_iload X.x X.b dX2_copy_3 (lv_at hl 5 rfl) ?_
  obtain ⟨r1, σ1, h1, h⟩ := ob_e h
  refine r_runI M (r_callV (As := [.int x1, .int x2, .int x5]) X M (lv_sub hl [] rfl) (T_X2_holds h1 _) cal_X2_holds q566 ⟨by decide, by decide⟩ hq_57 (el_57 _ _) rfl rfl rfl (Nat.le_of_ble_eq_true rfl) ⟨Nat.le_refl _, Nat.le_refl _⟩ dX2_copy_5) (fun H locs M => ?_)
  clear h1
  refine lv_if_eq (tgt := 57) X.x X.b dX2_copy_8 (by decide) (fun c12 => ?_) (fun c12 => ?_)
  · have h := it_t c12 h
    exact r_vret X M h dX2_copy_57
  · have h := it_f c12 h
    refine lv_aload_n X.x X.b dX2_copy_11 rfl (lv_at hl 0 rfl) ?_
    refine lv_iload_n X.x X.b dX2_copy_12 rfl (lv_at hl 3 rfl) ?_
    refine lv_iload X.x X.b dX2_copy_13 (lv_at hl 4 rfl) ?_
    refine lv_iload X.x X.b dX2_copy_15 (lv_at hl 5 rfl) ?_
    obtain ⟨r2, σ2, h2, h⟩ := ob_e h
    refine r_runI M (r_callV (As := [.int x3, .int x4, .int x5]) X M (lv_sub hl [] rfl) (T_X2_holds h2 _) cal_X2_holds q566 ⟨by decide, by decide⟩ hq_57 (el_57 _ _) rfl rfl rfl (Nat.le_of_ble_eq_true rfl) ⟨Nat.le_refl _, Nat.le_refl _⟩ dX2_copy_17) (fun H locs M => ?_)
    clear h2
    refine lv_if_eq (tgt := 57) X.x X.b dX2_copy_20 (by decide) (fun c11 => ?_) (fun c11 => ?_)
    · have h := it_t c11 h
      exact r_vret X M h dX2_copy_57
    · have h := it_f c11 h
      refine lv_iload_n X.x X.b dX2_copy_23 rfl (lv_at hl 1 rfl) ?_
      obtain ⟨r3, σ3, h3, h⟩ := ob_e h
      refine r_runI M (r_callSN (As := [.int x1]) (host := "StreetNumbers") X M (lv_sub hl [] rfl) (T_X6_isSheet h3 _) cal_X6_isSheet nst_X2_21 ⟨by decide, by decide⟩ rfl rfl (Nat.le_of_ble_eq_true rfl) ⟨Nat.le_refl _, Nat.le_refl _⟩ dX2_copy_24) (fun H locs M => ?_)
      clear h3
      refine lv_if_eq (tgt := 57) X.x X.b dX2_copy_27 (by decide) (fun c10 => ?_) (fun c10 => ?_)
      · have h := it_t c10 h
        exact r_vret X M h dX2_copy_57
      · have h := it_f c10 h
        refine lv_iload_n X.x X.b dX2_copy_30 rfl (lv_at hl 3 rfl) ?_
        obtain ⟨r4, σ4, h4, h⟩ := ob_e h
        refine r_runI M (r_callSN (As := [.int x3]) (host := "StreetNumbers") X M (lv_sub hl [] rfl) (T_X6_isSheet h4 _) cal_X6_isSheet nst_X2_21 ⟨by decide, by decide⟩ rfl rfl (Nat.le_of_ble_eq_true rfl) ⟨Nat.le_refl _, Nat.le_refl _⟩ dX2_copy_31) (fun H locs M => ?_)
        clear h4
        refine lv_if_eq (tgt := 57) X.x X.b dX2_copy_34 (by decide) (fun c9 => ?_) (fun c9 => ?_)
        · have h := it_t c9 h
          exact r_vret X M h dX2_copy_57
        · have h := it_f c9 h
          refine lv_aload_n X.x X.b dX2_copy_37 rfl (lv_at hl 0 rfl) ?_
          refine r_get X M hq_57 (el_57 _ _) rfl inX2 0 (by decide) q178 rfl rfl dX2_copy_38 ?_
          refine lv_iload_n X.x X.b dX2_copy_41 rfl (lv_at hl 1 rfl) ?_
          obtain ⟨c5, h⟩ := it_n h
          refine r_aald X M hq_58 (el_58 _ _) c5 dX2_copy_42 ?_
          refine lv_iload_n X.x X.b dX2_copy_43 rfl (lv_at hl 2 rfl) ?_
          refine lv_aload_n X.x X.b dX2_copy_44 rfl (lv_at hl 0 rfl) ?_
          refine r_get X M hq_57 (el_57 _ _) rfl inX2 0 (by decide) q178 rfl rfl dX2_copy_45 ?_
          refine lv_iload_n X.x X.b dX2_copy_48 rfl (lv_at hl 3 rfl) ?_
          obtain ⟨c6, h⟩ := it_n h
          refine r_aald X M hq_58 (el_58 _ _) c6 dX2_copy_49 ?_
          refine lv_iload X.x X.b dX2_copy_50 (lv_at hl 4 rfl) ?_
          refine lv_iload X.x X.b dX2_copy_52 (lv_at hl 5 rfl) ?_
          obtain ⟨c7, h⟩ := it_n h
          obtain ⟨σ8, e8, h⟩ := ol_e h
          refine r_copy (q1 := (59 + x1.toNatClampNeg)) (q2 := (59 + x3.toNatClampNeg)) (n1 := 24) (n2 := 24) X M (al_58 _ (in_lt c5)) (al_58 _ (in_lt c6)) (lv_sub hl [] rfl) ⟨by decide, by decide⟩ c7 q671 q234 q233 q9 (by decide) (Nat.le_of_ble_eq_true rfl) dX2_copy_54 (fun H locs M => ?_)
          rw [← e8] at M
          exact r_vret X M h dX2_copy_57
/-- StreetNumbers.move(IIIII)I -/
def f_X6_move (x1 : Int32) (x2 : Int32) (x3 : Int32) (x4 : Int32) (x5 : Int32) (σ : St) : Rs :=
  ob (f_X6_isSheet x1 σ) fun r1 σ1 => (
  if r1 = 0 then (
    ob (f_X6_failing 1 σ1) fun r2 σ2 => (
    some (r2, σ2))
  ) else (
    ob (f_X6_isSheet x3 σ1) fun r3 σ3 => (
    if r3 = 0 then (
      ob (f_X6_failing 1 σ3) fun r21 σ21 => (
      some (r21, σ21))
    ) else (
      ob (f_X2_isMissing x1 σ3) fun r4 σ4 => (
      if r4 = 0 then (
        ob (f_X2_isMissing x3 σ4) fun r6 σ6 => (
        if r6 = 0 then (
          ob (f_X2_bits x1 σ6) fun r7 σ7 => (
          ob (f_X2_bits x3 σ7) fun r8 σ8 => (
          if r7 = r8 then (
            ob (f_X2_holds x1 x2 x5 σ8) fun r9 σ9 => (
            if r9 = 0 then (
              ob (f_X6_failing 1 σ9) fun r10 σ10 => (
              some (r10, σ10))
            ) else (
              ob (f_X2_holds x3 x4 x5 σ9) fun r11 σ11 => (
              if r11 = 0 then (
                ob (f_X6_failing 1 σ11) fun r13 σ13 => (
                some (r13, σ13))
              ) else (
                ob (f_X2_copy x1 x2 x3 x4 x5 σ11) fun _ σ12 => (
                some (x5, σ12))
              ))
            ))
          ) else (
            ob (f_X6_failing 5 σ8) fun r16 σ16 => (
            some (r16, σ16))
          )))
        ) else (
          ob (f_X6_failing 2 σ6) fun r18 σ18 => (
          some (r18, σ18))
        ))
      ) else (
        ob (f_X6_failing 2 σ4) fun r5 σ5 => (
        some (r5, σ5))
      ))
    ))
  ))
set_option maxRecDepth 100000 in
set_option maxHeartbeats 4000000 in
theorem T_X6_move {l : Launch} {Γ : Gm} {x1 : Int32} {x2 : Int32} {x3 : Int32} {x4 : Int32} {x5 : Int32} {σ : St} {r : Int32} {σ' : St} (h : f_X6_move x1 x2 x3 x4 x5 σ = some (r, σ')) : MetI l yX6_move cX6_move 6 .int 5 Γ σ [.ref (Γ.1 0), .int x1, .int x2, .int x3, .int x4, .int x5] r σ' := by
  intro sz
  refine met_in (by decide) (Nat.le_of_ble_eq_true rfl) (fun p e s m args below meth c ls X hsz M hl => ?_)
  subst hsz
  have X : Cx p s m args meth c cX6_move RX6 6 (some .int) Γ := X
  have hl : lv_has ls 6 [(0, .ref (Γ.1 0)), (1, .int x1), (2, .int x2), (3, .int x3), (4, .int x4), (5, .int x5)] := hl
  unfold f_X6_move at h
  refine lv_iload_n X.x X.b dX6_move_0 rfl (lv_at hl 1 rfl) ?_
  obtain ⟨r1, σ1, h1, h⟩ := ob_e h
  refine r_runI M (r_callS (As := [.int x1]) X M (lv_sub hl [] rfl) (T_X6_isSheet h1 _) cal_X6_isSheet q542 ⟨by decide, by decide⟩ rfl rfl (Nat.le_of_ble_eq_true rfl) ⟨Nat.le_refl _, Nat.le_refl _⟩ dX6_move_1) (fun H locs M => ?_)
  clear h1
  refine lv_if_eq (tgt := 14) X.x X.b dX6_move_4 (by decide) (fun c23 => ?_) (fun c23 => ?_)
  · have h := it_t c23 h
    refine lv_aload_n X.x X.b dX6_move_14 rfl (lv_at hl 0 rfl) ?_
    refine lv_iconst (v := 1) X.x X.b dX6_move_15 (by decide) ?_
    obtain ⟨r2, σ2, h2, h⟩ := ob_e h
    refine r_runI M (r_callV (As := [.int 1]) X M (lv_sub hl [] rfl) (T_X6_failing h2 _) cal_X6_failing q223 ⟨by decide, by decide⟩ hq_0 (el_0 _ _) rfl rfl rfl (Nat.le_of_ble_eq_true rfl) ⟨Nat.le_refl _, Nat.le_refl _⟩ dX6_move_16) (fun H locs M => ?_)
    clear h2
    exact r_iret X M rfl h dX6_move_19
  · have h := it_f c23 h
    refine lv_iload_n X.x X.b dX6_move_7 rfl (lv_at hl 3 rfl) ?_
    obtain ⟨r3, σ3, h3, h⟩ := ob_e h
    refine r_runI M (r_callS (As := [.int x3]) X M (lv_sub hl [] rfl) (T_X6_isSheet h3 _) cal_X6_isSheet q542 ⟨by decide, by decide⟩ rfl rfl (Nat.le_of_ble_eq_true rfl) ⟨Nat.le_refl _, Nat.le_refl _⟩ dX6_move_8) (fun H locs M => ?_)
    clear h3
    refine lv_if_ne (tgt := 20) X.x X.b dX6_move_11 (by decide) (fun c22 => ?_) (fun c22 => ?_)
    · have h := it_f c22 h
      refine lv_aload_n X.x X.b dX6_move_20 rfl (lv_at hl 0 rfl) ?_
      refine r_get X M hq_0 (el_0 _ _) rfl inX6 5 (by decide) q193 rfl rfl dX6_move_21 ?_
      refine lv_iload_n X.x X.b dX6_move_24 rfl (lv_at hl 1 rfl) ?_
      obtain ⟨r4, σ4, h4, h⟩ := ob_e h
      refine r_runI M (r_callV (As := [.int x1]) X M (lv_sub hl [] rfl) (T_X2_isMissing h4 _) cal_X2_isMissing q545 ⟨by decide, by decide⟩ hq_57 (el_57 _ _) rfl rfl rfl (Nat.le_of_ble_eq_true rfl) ⟨Nat.le_refl _, Nat.le_refl _⟩ dX6_move_25) (fun H locs M => ?_)
      clear h4
      refine lv_if_ne (tgt := 42) X.x X.b dX6_move_28 (by decide) (fun c20 => ?_) (fun c20 => ?_)
      · have h := it_f c20 h
        refine lv_aload_n X.x X.b dX6_move_42 rfl (lv_at hl 0 rfl) ?_
        refine lv_iconst (v := 2) X.x X.b dX6_move_43 (by decide) ?_
        obtain ⟨r5, σ5, h5, h⟩ := ob_e h
        refine r_runI M (r_callV (As := [.int 2]) X M (lv_sub hl [] rfl) (T_X6_failing h5 _) cal_X6_failing q223 ⟨by decide, by decide⟩ hq_0 (el_0 _ _) rfl rfl rfl (Nat.le_of_ble_eq_true rfl) ⟨Nat.le_refl _, Nat.le_refl _⟩ dX6_move_44) (fun H locs M => ?_)
        clear h5
        exact r_iret X M rfl h dX6_move_47
      · have h := it_t c20 h
        refine lv_aload_n X.x X.b dX6_move_31 rfl (lv_at hl 0 rfl) ?_
        refine r_get X M hq_0 (el_0 _ _) rfl inX6 5 (by decide) q193 rfl rfl dX6_move_32 ?_
        refine lv_iload_n X.x X.b dX6_move_35 rfl (lv_at hl 3 rfl) ?_
        obtain ⟨r6, σ6, h6, h⟩ := ob_e h
        refine r_runI M (r_callV (As := [.int x3]) X M (lv_sub hl [] rfl) (T_X2_isMissing h6 _) cal_X2_isMissing q545 ⟨by decide, by decide⟩ hq_57 (el_57 _ _) rfl rfl rfl (Nat.le_of_ble_eq_true rfl) ⟨Nat.le_refl _, Nat.le_refl _⟩ dX6_move_36) (fun H locs M => ?_)
        clear h6
        refine lv_if_eq (tgt := 48) X.x X.b dX6_move_39 (by decide) (fun c19 => ?_) (fun c19 => ?_)
        · have h := it_t c19 h
          refine lv_aload_n X.x X.b dX6_move_48 rfl (lv_at hl 0 rfl) ?_
          refine r_get X M hq_0 (el_0 _ _) rfl inX6 5 (by decide) q193 rfl rfl dX6_move_49 ?_
          refine lv_iload_n X.x X.b dX6_move_52 rfl (lv_at hl 1 rfl) ?_
          obtain ⟨r7, σ7, h7, h⟩ := ob_e h
          refine r_runI M (r_callV (As := [.int x1]) X M (lv_sub hl [] rfl) (T_X2_bits h7 _) cal_X2_bits q665 ⟨by decide, by decide⟩ hq_57 (el_57 _ _) rfl rfl rfl (Nat.le_of_ble_eq_true rfl) ⟨Nat.le_refl _, Nat.le_refl _⟩ dX6_move_53) (fun H locs M => ?_)
          clear h7
          refine lv_aload_n X.x X.b dX6_move_56 rfl (lv_at hl 0 rfl) ?_
          refine r_get X M hq_0 (el_0 _ _) rfl inX6 5 (by decide) q193 rfl rfl dX6_move_57 ?_
          refine lv_iload_n X.x X.b dX6_move_60 rfl (lv_at hl 3 rfl) ?_
          obtain ⟨r8, σ8, h8, h⟩ := ob_e h
          refine r_runI M (r_callV (As := [.int x3]) X M (lv_sub hl [] rfl) (T_X2_bits h8 _) cal_X2_bits q665 ⟨by decide, by decide⟩ hq_57 (el_57 _ _) rfl rfl rfl (Nat.le_of_ble_eq_true rfl) ⟨Nat.le_refl _, Nat.le_refl _⟩ dX6_move_61) (fun H locs M => ?_)
          clear h8
          refine lv_icmp_eq (tgt := 73) X.x X.b dX6_move_64 (by decide) (fun c17 => ?_) (fun c17 => ?_)
          · have h := it_t c17 h
            refine lv_aload_n X.x X.b dX6_move_73 rfl (lv_at hl 0 rfl) ?_
            refine r_get X M hq_0 (el_0 _ _) rfl inX6 5 (by decide) q193 rfl rfl dX6_move_74 ?_
            refine lv_iload_n X.x X.b dX6_move_77 rfl (lv_at hl 1 rfl) ?_
            refine lv_iload_n X.x X.b dX6_move_78 rfl (lv_at hl 2 rfl) ?_
            refine lv_iload X.x X.b dX6_move_79 (lv_at hl 5 rfl) ?_
            obtain ⟨r9, σ9, h9, h⟩ := ob_e h
            refine r_runI M (r_callV (As := [.int x1, .int x2, .int x5]) X M (lv_sub hl [] rfl) (T_X2_holds h9 _) cal_X2_holds q666 ⟨by decide, by decide⟩ hq_57 (el_57 _ _) rfl rfl rfl (Nat.le_of_ble_eq_true rfl) ⟨Nat.le_refl _, Nat.le_refl _⟩ dX6_move_81) (fun H locs M => ?_)
            clear h9
            refine lv_if_eq (tgt := 102) X.x X.b dX6_move_84 (by decide) (fun c15 => ?_) (fun c15 => ?_)
            · have h := it_t c15 h
              refine lv_aload_n X.x X.b dX6_move_102 rfl (lv_at hl 0 rfl) ?_
              refine lv_iconst (v := 1) X.x X.b dX6_move_103 (by decide) ?_
              obtain ⟨r10, σ10, h10, h⟩ := ob_e h
              refine r_runI M (r_callV (As := [.int 1]) X M (lv_sub hl [] rfl) (T_X6_failing h10 _) cal_X6_failing q223 ⟨by decide, by decide⟩ hq_0 (el_0 _ _) rfl rfl rfl (Nat.le_of_ble_eq_true rfl) ⟨Nat.le_refl _, Nat.le_refl _⟩ dX6_move_104) (fun H locs M => ?_)
              clear h10
              exact r_iret X M rfl h dX6_move_107
            · have h := it_f c15 h
              refine lv_aload_n X.x X.b dX6_move_87 rfl (lv_at hl 0 rfl) ?_
              refine r_get X M hq_0 (el_0 _ _) rfl inX6 5 (by decide) q193 rfl rfl dX6_move_88 ?_
              refine lv_iload_n X.x X.b dX6_move_91 rfl (lv_at hl 3 rfl) ?_
              refine lv_iload X.x X.b dX6_move_92 (lv_at hl 4 rfl) ?_
              refine lv_iload X.x X.b dX6_move_94 (lv_at hl 5 rfl) ?_
              obtain ⟨r11, σ11, h11, h⟩ := ob_e h
              refine r_runI M (r_callV (As := [.int x3, .int x4, .int x5]) X M (lv_sub hl [] rfl) (T_X2_holds h11 _) cal_X2_holds q666 ⟨by decide, by decide⟩ hq_57 (el_57 _ _) rfl rfl rfl (Nat.le_of_ble_eq_true rfl) ⟨Nat.le_refl _, Nat.le_refl _⟩ dX6_move_96) (fun H locs M => ?_)
              clear h11
              refine lv_if_ne (tgt := 108) X.x X.b dX6_move_99 (by decide) (fun c14 => ?_) (fun c14 => ?_)
              · have h := it_f c14 h
                refine lv_aload_n X.x X.b dX6_move_108 rfl (lv_at hl 0 rfl) ?_
                refine r_get X M hq_0 (el_0 _ _) rfl inX6 5 (by decide) q193 rfl rfl dX6_move_109 ?_
                refine lv_iload_n X.x X.b dX6_move_112 rfl (lv_at hl 1 rfl) ?_
                refine lv_iload_n X.x X.b dX6_move_113 rfl (lv_at hl 2 rfl) ?_
                refine lv_iload_n X.x X.b dX6_move_114 rfl (lv_at hl 3 rfl) ?_
                refine lv_iload X.x X.b dX6_move_115 (lv_at hl 4 rfl) ?_
                refine lv_iload X.x X.b dX6_move_117 (lv_at hl 5 rfl) ?_
                obtain ⟨r12, σ12, h12, h⟩ := ob_e h
                refine r_runV M (r_callV (As := [.int x1, .int x2, .int x3, .int x4, .int x5]) X M (lv_sub hl [] rfl) (T_X2_copy h12 _) cal_X2_copy q667 ⟨by decide, by decide⟩ hq_57 (el_57 _ _) rfl rfl rfl (Nat.le_of_ble_eq_true rfl) ⟨Nat.le_refl _, Nat.le_refl _⟩ dX6_move_119) (fun H locs M => ?_)
                clear h12
                refine lv_iload X.x X.b dX6_move_122 (lv_at hl 5 rfl) ?_
                exact r_iret X M rfl h dX6_move_124
              · have h := it_t c14 h
                refine lv_aload_n X.x X.b dX6_move_102 rfl (lv_at hl 0 rfl) ?_
                refine lv_iconst (v := 1) X.x X.b dX6_move_103 (by decide) ?_
                obtain ⟨r13, σ13, h13, h⟩ := ob_e h
                refine r_runI M (r_callV (As := [.int 1]) X M (lv_sub hl [] rfl) (T_X6_failing h13 _) cal_X6_failing q223 ⟨by decide, by decide⟩ hq_0 (el_0 _ _) rfl rfl rfl (Nat.le_of_ble_eq_true rfl) ⟨Nat.le_refl _, Nat.le_refl _⟩ dX6_move_104) (fun H locs M => ?_)
                clear h13
                exact r_iret X M rfl h dX6_move_107
          · have h := it_f c17 h
            refine lv_aload_n X.x X.b dX6_move_67 rfl (lv_at hl 0 rfl) ?_
            refine lv_iconst (v := 5) X.x X.b dX6_move_68 (by decide) ?_
            obtain ⟨r16, σ16, h16, h⟩ := ob_e h
            refine r_runI M (r_callV (As := [.int 5]) X M (lv_sub hl [] rfl) (T_X6_failing h16 _) cal_X6_failing q223 ⟨by decide, by decide⟩ hq_0 (el_0 _ _) rfl rfl rfl (Nat.le_of_ble_eq_true rfl) ⟨Nat.le_refl _, Nat.le_refl _⟩ dX6_move_69) (fun H locs M => ?_)
            clear h16
            exact r_iret X M rfl h dX6_move_72
        · have h := it_f c19 h
          refine lv_aload_n X.x X.b dX6_move_42 rfl (lv_at hl 0 rfl) ?_
          refine lv_iconst (v := 2) X.x X.b dX6_move_43 (by decide) ?_
          obtain ⟨r18, σ18, h18, h⟩ := ob_e h
          refine r_runI M (r_callV (As := [.int 2]) X M (lv_sub hl [] rfl) (T_X6_failing h18 _) cal_X6_failing q223 ⟨by decide, by decide⟩ hq_0 (el_0 _ _) rfl rfl rfl (Nat.le_of_ble_eq_true rfl) ⟨Nat.le_refl _, Nat.le_refl _⟩ dX6_move_44) (fun H locs M => ?_)
          clear h18
          exact r_iret X M rfl h dX6_move_47
    · have h := it_t c22 h
      refine lv_aload_n X.x X.b dX6_move_14 rfl (lv_at hl 0 rfl) ?_
      refine lv_iconst (v := 1) X.x X.b dX6_move_15 (by decide) ?_
      obtain ⟨r21, σ21, h21, h⟩ := ob_e h
      refine r_runI M (r_callV (As := [.int 1]) X M (lv_sub hl [] rfl) (T_X6_failing h21 _) cal_X6_failing q223 ⟨by decide, by decide⟩ hq_0 (el_0 _ _) rfl rfl rfl (Nat.le_of_ble_eq_true rfl) ⟨Nat.le_refl _, Nat.le_refl _⟩ dX6_move_16) (fun H locs M => ?_)
      clear h21
      exact r_iret X M rfl h dX6_move_19
def f_X4_placeFound_b18 (k18 : (Int32 → Int32 → Int32 → Int32 → St → Rs)) (x2 : Int32) (x3 : Int32) (x4 : Int32) (x5 : Int32) (σ : St) : Rs :=
  if 10 ≤ x5 then (
    some ((-1), σ)
  ) else (
    if x4 < x3 then (
      some ((-1), σ)
    ) else (
      ob (f_X3_plateAt ((x3 + x4) / 2) σ) fun r1 σ1 => (
      ol (st σ1 30 0 ((σ1 30 0) + 1)) fun σ2 => (
      if r1 = x2 then (
        some (((x3 + x4) / 2), σ2)
      ) else (
        if x2 ≤ r1 then (
          k18 x2 x3 (((x3 + x4) / 2) - 1) (x5 + 1) σ2
        ) else (
          k18 x2 (((x3 + x4) / 2) + 1) x4 (x5 + 1) σ2
        )
      )))
    )
  )
set_option maxRecDepth 100000 in
set_option maxHeartbeats 4000000 in
theorem u_X4_placeFound_b18 {l : Launch} {Γ : Gm} {p : Program} {e : Env} {s : State} {m : MethodId} {args : Array Value} {below : List Frame} {meth : Method} {c : Code} {r : Int32} {σ' : St} {k18 : Int32 → Int32 → Int32 → Int32 → St → Rs} (X : Cx p s m args meth c cX4_placeFound RX4 8 (some .int) Γ) (H18 : ∀ (x2 : Int32) (x3 : Int32) (x4 : Int32) (x5 : Int32) (σ : St) (H : Heap) (locs : List Loc) (ls : Array Slot), k18 x2 x3 x4 x5 σ = some (r, σ') → Mv Γ σ s H locs → lv_has ls 8 [(0, .ref (Γ.1 30)), (1, .ref (Γ.1 1)), (2, .int x2), (3, .int x3), (4, .int x4), (5, .int x5)] → W p l e (rmd 4) s m args below meth c H locs 0 0 (MQ below (Qi Γ r σ' s.heap.size) args s 0 0 (Rg Γ s.heap.size)) (F0 m 18 ls [])) (x2 : Int32) (x3 : Int32) (x4 : Int32) (x5 : Int32) (σ : St) (H : Heap) (locs : List Loc) (ls : Array Slot) (h : f_X4_placeFound_b18 k18 x2 x3 x4 x5 σ = some (r, σ')) (M : Mv Γ σ s H locs) (hl : lv_has ls 8 [(0, .ref (Γ.1 30)), (1, .ref (Γ.1 1)), (2, .int x2), (3, .int x3), (4, .int x4), (5, .int x5)]) : W p l e (rmd 4) s m args below meth c H locs 0 0 (MQ below (Qi Γ r σ' s.heap.size) args s 0 0 (Rg Γ s.heap.size)) (F0 m 18 ls []) := by
  unfold f_X4_placeFound_b18 at h
  refine lv_iload X.x X.b dX4_placeFound_18 (lv_at hl 5 rfl) ?_
  refine lv_bipush (v := 10) X.x X.b dX4_placeFound_20 (by decide) ?_
  refine lv_icmp_ge (tgt := 92) X.x X.b dX4_placeFound_22 (by decide) (fun c6 => ?_) (fun c6 => ?_)
  · have h := it_t c6 h
    refine lv_iconst (v := (-1)) X.x X.b dX4_placeFound_92 (by decide) ?_
    exact r_iret X M rfl h dX4_placeFound_93
  · have h := it_f c6 h
    refine lv_iload_n X.x X.b dX4_placeFound_25 rfl (lv_at hl 3 rfl) ?_
    refine lv_iload X.x X.b dX4_placeFound_26 (lv_at hl 4 rfl) ?_
    refine lv_icmp_gt (tgt := 92) X.x X.b dX4_placeFound_28 (by decide) (fun c5 => ?_) (fun c5 => ?_)
    · have h := it_t c5 h
      refine lv_iconst (v := (-1)) X.x X.b dX4_placeFound_92 (by decide) ?_
      exact r_iret X M rfl h dX4_placeFound_93
    · have h := it_f c5 h
      refine lv_iload_n X.x X.b dX4_placeFound_31 rfl (lv_at hl 3 rfl) ?_
      refine lv_iload X.x X.b dX4_placeFound_32 (lv_at hl 4 rfl) ?_
      refine lv_iadd X.x X.b dX4_placeFound_34 ?_
      refine lv_iconst (v := 2) X.x X.b dX4_placeFound_35 (by decide) ?_
      refine lv_idiv X.x X.b dX4_placeFound_36 (by decide) ?_
      refine lv_istore (lv' := [(6, .int ((x3 + x4) / 2)), (0, .ref (Γ.1 30)), (1, .ref (Γ.1 1)), (2, .int x2), (3, .int x3), (4, .int x4), (5, .int x5)]) X.x X.b dX4_placeFound_37 hl (by decide) rfl (fun ls hl => ?_)
      refine lv_aload_n X.x X.b dX4_placeFound_39 rfl (lv_at hl 2 rfl) ?_
      refine lv_iload X.x X.b dX4_placeFound_40 (lv_at hl 0 rfl) ?_
      obtain ⟨r1, σ1, h1, h⟩ := ob_e h
      refine r_runI M (r_callV (As := [.int ((x3 + x4) / 2)]) X M (lv_sub hl [] rfl) (T_X3_plateAt h1 _) cal_X3_plateAt q508 ⟨by decide, by decide⟩ hq_1 (el_1 _ _) rfl rfl rfl (Nat.le_of_ble_eq_true rfl) ⟨Nat.le_refl _, Nat.le_refl _⟩ dX4_placeFound_42) (fun H locs M => ?_)
      clear h1
      refine lv_istore (lv' := [(7, .int r1), (6, .int ((x3 + x4) / 2)), (0, .ref (Γ.1 30)), (1, .ref (Γ.1 1)), (2, .int x2), (3, .int x3), (4, .int x4), (5, .int x5)]) X.x X.b dX4_placeFound_45 hl (by decide) rfl (fun ls hl => ?_)
      refine lv_aload_n X.x X.b dX4_placeFound_47 rfl (lv_at hl 2 rfl) ?_
      refine lv_dup X.x X.b dX4_placeFound_48 rfl ?_
      refine r_get X M hq_30 (el_30 _ _) rfl inX4 0 (by decide) q127 rfl rfl dX4_placeFound_49 ?_
      refine lv_iconst (v := 1) X.x X.b dX4_placeFound_52 (by decide) ?_
      refine lv_iadd X.x X.b dX4_placeFound_53 ?_
      obtain ⟨σ2, e2, h⟩ := ol_e h
      refine r_put (x := ((σ1 30 0) + 1)) (ty := .int) X M hq_30 (el_30 _ _) rfl inX4 tyX4_ok nmX4 0 (by decide) q127 rfl rfl rfl rfl rfl (Nat.le_of_ble_eq_true rfl) (pf_30_0 _ _ _) dX4_placeFound_54 (fun H locs M => ?_)
      rw [← e2] at M
      refine lv_iload X.x X.b dX4_placeFound_57 (lv_at hl 0 rfl) ?_
      refine lv_iload_n X.x X.b dX4_placeFound_59 rfl (lv_at hl 4 rfl) ?_
      refine lv_icmp_ne (tgt := 66) X.x X.b dX4_placeFound_60 (by decide) (fun c4 => ?_) (fun c4 => ?_)
      · have h := it_f c4 h
        refine lv_iload X.x X.b dX4_placeFound_66 (lv_at hl 0 rfl) ?_
        refine lv_iload_n X.x X.b dX4_placeFound_68 rfl (lv_at hl 4 rfl) ?_
        refine lv_icmp_ge (tgt := 80) X.x X.b dX4_placeFound_69 (by decide) (fun c3 => ?_) (fun c3 => ?_)
        · have h := it_t c3 h
          refine lv_iload X.x X.b dX4_placeFound_80 (lv_at hl 1 rfl) ?_
          refine lv_iconst (v := 1) X.x X.b dX4_placeFound_82 (by decide) ?_
          refine lv_isub X.x X.b dX4_placeFound_83 ?_
          refine lv_istore (lv' := [(4, .int (((x3 + x4) / 2) - 1)), (7, .int r1), (6, .int ((x3 + x4) / 2)), (0, .ref (Γ.1 30)), (1, .ref (Γ.1 1)), (2, .int x2), (3, .int x3), (5, .int x5)]) X.x X.b dX4_placeFound_84 hl (by decide) rfl (fun ls hl => ?_)
          refine lv_iinc (v := (x5 + 1)) (lv' := [(5, .int (x5 + 1)), (4, .int (((x3 + x4) / 2) - 1)), (7, .int r1), (6, .int ((x3 + x4) / 2)), (0, .ref (Γ.1 30)), (1, .ref (Γ.1 1)), (2, .int x2), (3, .int x3)]) X.x X.b dX4_placeFound_86 hl (k := 7) rfl rfl (by decide) rfl (fun ls hl => ?_)
          refine lv_goto (tgt := 18) X.x X.b dX4_placeFound_89 (by decide) ?_
          exact H18 x2 x3 (((x3 + x4) / 2) - 1) (x5 + 1) σ2 _ _ _ h M (lv_sub hl [4, 5, 6, 7, 1, 0] rfl)
        · have h := it_f c3 h
          refine lv_iload X.x X.b dX4_placeFound_72 (lv_at hl 1 rfl) ?_
          refine lv_iconst (v := 1) X.x X.b dX4_placeFound_74 (by decide) ?_
          refine lv_iadd X.x X.b dX4_placeFound_75 ?_
          refine lv_istore_n (lv' := [(3, .int (((x3 + x4) / 2) + 1)), (7, .int r1), (6, .int ((x3 + x4) / 2)), (0, .ref (Γ.1 30)), (1, .ref (Γ.1 1)), (2, .int x2), (4, .int x4), (5, .int x5)]) X.x X.b dX4_placeFound_76 rfl hl (by decide) rfl (fun ls hl => ?_)
          refine lv_goto (tgt := 86) X.x X.b dX4_placeFound_77 (by decide) ?_
          refine lv_iinc (v := (x5 + 1)) (lv' := [(5, .int (x5 + 1)), (3, .int (((x3 + x4) / 2) + 1)), (7, .int r1), (6, .int ((x3 + x4) / 2)), (0, .ref (Γ.1 30)), (1, .ref (Γ.1 1)), (2, .int x2), (4, .int x4)]) X.x X.b dX4_placeFound_86 hl (k := 7) rfl rfl (by decide) rfl (fun ls hl => ?_)
          refine lv_goto (tgt := 18) X.x X.b dX4_placeFound_89 (by decide) ?_
          exact H18 x2 (((x3 + x4) / 2) + 1) x4 (x5 + 1) σ2 _ _ _ h M (lv_sub hl [4, 5, 6, 1, 7, 0] rfl)
      · have h := it_t c4 h
        refine lv_iload X.x X.b dX4_placeFound_63 (lv_at hl 1 rfl) ?_
        exact r_iret X M rfl h dX4_placeFound_65
def f_X4_placeFound_L18 : Nat → Int32 → Int32 → Int32 → Int32 → St → Rs
  | 0 => fun _ _ _ _ _ => none
  | n + 1 => fun x2 x3 x4 x5 σ => f_X4_placeFound_b18 (f_X4_placeFound_L18 n) x2 x3 x4 x5 σ
theorem u_X4_placeFound_L18 {l : Launch} {Γ : Gm} {p : Program} {e : Env} {s : State} {m : MethodId} {args : Array Value} {below : List Frame} {meth : Method} {c : Code} {r : Int32} {σ' : St} (X : Cx p s m args meth c cX4_placeFound RX4 8 (some .int) Γ) : ∀ (n : Nat) (x2 : Int32) (x3 : Int32) (x4 : Int32) (x5 : Int32) (σ : St) (H : Heap) (locs : List Loc) (ls : Array Slot), f_X4_placeFound_L18 n x2 x3 x4 x5 σ = some (r, σ') → Mv Γ σ s H locs → lv_has ls 8 [(0, .ref (Γ.1 30)), (1, .ref (Γ.1 1)), (2, .int x2), (3, .int x3), (4, .int x4), (5, .int x5)] → W p l e (rmd 4) s m args below meth c H locs 0 0 (MQ below (Qi Γ r σ' s.heap.size) args s 0 0 (Rg Γ s.heap.size)) (F0 m 18 ls []) := by
  intro n
  induction n with
  | zero => intro x2 x3 x4 x5 σ H locs ls h; cases h
  | succ n ih => intro x2 x3 x4 x5 σ H locs ls h; exact u_X4_placeFound_b18 X  ih x2 x3 x4 x5 σ H locs ls h
/-- StreetNumbers$Thoughts.placeFound(LStreetNumbers$Street;I)I -/
def f_X4_placeFound (x2 : Int32) (σ : St) : Rs :=
  ol (st σ 30 0 0) fun σ1 => (
  f_X4_placeFound_L18 LF x2 0 ((σ 1 1) - 1) 0 σ1)
set_option maxRecDepth 100000 in
set_option maxHeartbeats 4000000 in
theorem T_X4_placeFound {l : Launch} {Γ : Gm} {x2 : Int32} {σ : St} {r : Int32} {σ' : St} (h : f_X4_placeFound x2 σ = some (r, σ')) : MetI l yX4_placeFound cX4_placeFound 8 .int 4 Γ σ [.ref (Γ.1 30), .ref (Γ.1 1), .int x2] r σ' := by
  intro sz
  refine met_in (by decide) (Nat.le_of_ble_eq_true rfl) (fun p e s m args below meth c ls X hsz M hl => ?_)
  subst hsz
  have X : Cx p s m args meth c cX4_placeFound RX4 8 (some .int) Γ := X
  have hl : lv_has ls 8 [(0, .ref (Γ.1 30)), (1, .ref (Γ.1 1)), (2, .int x2)] := hl
  unfold f_X4_placeFound at h
  refine lv_iconst (v := 0) X.x X.b dX4_placeFound_0 (by decide) ?_
  refine lv_istore_n (lv' := [(3, .int 0), (0, .ref (Γ.1 30)), (1, .ref (Γ.1 1)), (2, .int x2)]) X.x X.b dX4_placeFound_1 rfl hl (by decide) rfl (fun ls hl => ?_)
  refine lv_aload_n X.x X.b dX4_placeFound_2 rfl (lv_at hl 2 rfl) ?_
  refine r_get X M hq_1 (el_1 _ _) rfl inX3 1 (by decide) q54 rfl rfl dX4_placeFound_3 ?_
  refine lv_iconst (v := 1) X.x X.b dX4_placeFound_6 (by decide) ?_
  refine lv_isub X.x X.b dX4_placeFound_7 ?_
  refine lv_istore (lv' := [(4, .int ((σ 1 1) - 1)), (3, .int 0), (0, .ref (Γ.1 30)), (1, .ref (Γ.1 1)), (2, .int x2)]) X.x X.b dX4_placeFound_8 hl (by decide) rfl (fun ls hl => ?_)
  refine lv_aload_n X.x X.b dX4_placeFound_10 rfl (lv_at hl 2 rfl) ?_
  refine lv_iconst (v := 0) X.x X.b dX4_placeFound_11 (by decide) ?_
  obtain ⟨σ1, e1, h⟩ := ol_e h
  refine r_put (x := 0) (ty := .int) X M hq_30 (el_30 _ _) rfl inX4 tyX4_ok nmX4 0 (by decide) q127 rfl rfl rfl rfl rfl (Nat.le_of_ble_eq_true rfl) (pf_30_0 _ _ _) dX4_placeFound_12 (fun H locs M => ?_)
  rw [← e1] at M
  refine lv_iconst (v := 0) X.x X.b dX4_placeFound_15 (by decide) ?_
  refine lv_istore (lv' := [(5, .int 0), (4, .int ((σ 1 1) - 1)), (3, .int 0), (0, .ref (Γ.1 30)), (1, .ref (Γ.1 1)), (2, .int x2)]) X.x X.b dX4_placeFound_16 hl (by decide) rfl (fun ls hl => ?_)
  exact u_X4_placeFound_L18 X LF x2 0 ((σ 1 1) - 1) 0 σ1 _ _ _ h M (lv_sub hl [3, 4, 5, 2, 1, 0] rfl)
def f_X4_housesFound_b4 (k4 : (Int32 → Int32 → St → Rs)) (x2 : Int32) (x3 : Int32) (σ : St) : Rs :=
  if (σ 1 1) ≤ x3 then (
    some (x2, σ)
  ) else (
    ob (f_X3_plateAt x3 σ) fun r1 σ1 => (
    ob (f_X4_placeFound r1 σ1) fun r2 σ2 => (
    if r2 = x3 then (
      k4 (x2 + 1) (x3 + 1) σ2
    ) else (
      k4 x2 (x3 + 1) σ2
    )))
  )
set_option maxRecDepth 100000 in
set_option maxHeartbeats 4000000 in
theorem u_X4_housesFound_b4 {l : Launch} {Γ : Gm} {p : Program} {e : Env} {s : State} {m : MethodId} {args : Array Value} {below : List Frame} {meth : Method} {c : Code} {r : Int32} {σ' : St} {k4 : Int32 → Int32 → St → Rs} (X : Cx p s m args meth c cX4_housesFound RX4 4 (some .int) Γ) (H4 : ∀ (x2 : Int32) (x3 : Int32) (σ : St) (H : Heap) (locs : List Loc) (ls : Array Slot), k4 x2 x3 σ = some (r, σ') → Mv Γ σ s H locs → lv_has ls 4 [(0, .ref (Γ.1 30)), (1, .ref (Γ.1 1)), (2, .int x2), (3, .int x3)] → W p l e (rmd 5) s m args below meth c H locs 0 0 (MQ below (Qi Γ r σ' s.heap.size) args s 0 0 (Rg Γ s.heap.size)) (F0 m 4 ls [])) (x2 : Int32) (x3 : Int32) (σ : St) (H : Heap) (locs : List Loc) (ls : Array Slot) (h : f_X4_housesFound_b4 k4 x2 x3 σ = some (r, σ')) (M : Mv Γ σ s H locs) (hl : lv_has ls 4 [(0, .ref (Γ.1 30)), (1, .ref (Γ.1 1)), (2, .int x2), (3, .int x3)]) : W p l e (rmd 5) s m args below meth c H locs 0 0 (MQ below (Qi Γ r σ' s.heap.size) args s 0 0 (Rg Γ s.heap.size)) (F0 m 4 ls []) := by
  unfold f_X4_housesFound_b4 at h
  refine lv_iload_n X.x X.b dX4_housesFound_4 rfl (lv_at hl 3 rfl) ?_
  refine lv_aload_n X.x X.b dX4_housesFound_5 rfl (lv_at hl 1 rfl) ?_
  refine r_get X M hq_1 (el_1 _ _) rfl inX3 1 (by decide) q54 rfl rfl dX4_housesFound_6 ?_
  refine lv_icmp_ge (tgt := 35) X.x X.b dX4_housesFound_9 (by decide) (fun c4 => ?_) (fun c4 => ?_)
  · have h := it_t c4 h
    refine lv_iload_n X.x X.b dX4_housesFound_35 rfl (lv_at hl 2 rfl) ?_
    exact r_iret X M rfl h dX4_housesFound_36
  · have h := it_f c4 h
    refine lv_aload_n X.x X.b dX4_housesFound_12 rfl (lv_at hl 0 rfl) ?_
    refine lv_aload_n X.x X.b dX4_housesFound_13 rfl (lv_at hl 1 rfl) ?_
    refine lv_aload_n X.x X.b dX4_housesFound_14 rfl (lv_at hl 1 rfl) ?_
    refine lv_iload_n X.x X.b dX4_housesFound_15 rfl (lv_at hl 3 rfl) ?_
    obtain ⟨r1, σ1, h1, h⟩ := ob_e h
    refine r_runI M (r_callV (As := [.int x3]) X M (lv_sub hl [] rfl) (T_X3_plateAt h1 _) cal_X3_plateAt q508 ⟨by decide, by decide⟩ hq_1 (el_1 _ _) rfl rfl rfl (Nat.le_of_ble_eq_true rfl) ⟨Nat.le_refl _, Nat.le_refl _⟩ dX4_housesFound_16) (fun H locs M => ?_)
    clear h1
    obtain ⟨r2, σ2, h2, h⟩ := ob_e h
    refine r_runI M (r_callV (As := [.ref (Γ.1 1), .int r1]) X M (lv_sub hl [] rfl) (T_X4_placeFound h2 _) cal_X4_placeFound q526 ⟨by decide, by decide⟩ hq_30 (el_30 _ _) rfl rfl rfl (Nat.le_of_ble_eq_true rfl) ⟨Nat.le_refl _, Nat.le_refl _⟩ dX4_housesFound_19) (fun H locs M => ?_)
    clear h2
    refine lv_iload_n X.x X.b dX4_housesFound_22 rfl (lv_at hl 3 rfl) ?_
    refine lv_icmp_ne (tgt := 29) X.x X.b dX4_housesFound_23 (by decide) (fun c3 => ?_) (fun c3 => ?_)
    · have h := it_f c3 h
      refine lv_iinc (v := (x3 + 1)) (lv' := [(3, .int (x3 + 1)), (0, .ref (Γ.1 30)), (1, .ref (Γ.1 1)), (2, .int x2)]) X.x X.b dX4_housesFound_29 hl (k := 3) rfl rfl (by decide) rfl (fun ls hl => ?_)
      refine lv_goto (tgt := 4) X.x X.b dX4_housesFound_32 (by decide) ?_
      exact H4 x2 (x3 + 1) σ2 _ _ _ h M (lv_sub hl [1, 2, 3, 0] rfl)
    · have h := it_t c3 h
      refine lv_iinc (v := (x2 + 1)) (lv' := [(2, .int (x2 + 1)), (0, .ref (Γ.1 30)), (1, .ref (Γ.1 1)), (3, .int x3)]) X.x X.b dX4_housesFound_26 hl (k := 2) rfl rfl (by decide) rfl (fun ls hl => ?_)
      refine lv_iinc (v := (x3 + 1)) (lv' := [(3, .int (x3 + 1)), (2, .int (x2 + 1)), (0, .ref (Γ.1 30)), (1, .ref (Γ.1 1))]) X.x X.b dX4_housesFound_29 hl (k := 3) rfl rfl (by decide) rfl (fun ls hl => ?_)
      refine lv_goto (tgt := 4) X.x X.b dX4_housesFound_32 (by decide) ?_
      exact H4 (x2 + 1) (x3 + 1) σ2 _ _ _ h M (lv_sub hl [2, 3, 1, 0] rfl)
def f_X4_housesFound_L4 : Nat → Int32 → Int32 → St → Rs
  | 0 => fun _ _ _ => none
  | n + 1 => fun x2 x3 σ => f_X4_housesFound_b4 (f_X4_housesFound_L4 n) x2 x3 σ
theorem u_X4_housesFound_L4 {l : Launch} {Γ : Gm} {p : Program} {e : Env} {s : State} {m : MethodId} {args : Array Value} {below : List Frame} {meth : Method} {c : Code} {r : Int32} {σ' : St} (X : Cx p s m args meth c cX4_housesFound RX4 4 (some .int) Γ) : ∀ (n : Nat) (x2 : Int32) (x3 : Int32) (σ : St) (H : Heap) (locs : List Loc) (ls : Array Slot), f_X4_housesFound_L4 n x2 x3 σ = some (r, σ') → Mv Γ σ s H locs → lv_has ls 4 [(0, .ref (Γ.1 30)), (1, .ref (Γ.1 1)), (2, .int x2), (3, .int x3)] → W p l e (rmd 5) s m args below meth c H locs 0 0 (MQ below (Qi Γ r σ' s.heap.size) args s 0 0 (Rg Γ s.heap.size)) (F0 m 4 ls []) := by
  intro n
  induction n with
  | zero => intro x2 x3 σ H locs ls h; cases h
  | succ n ih => intro x2 x3 σ H locs ls h; exact u_X4_housesFound_b4 X  ih x2 x3 σ H locs ls h
/-- StreetNumbers$Thoughts.housesFound(LStreetNumbers$Street;)I -/
def f_X4_housesFound (σ : St) : Rs :=
  f_X4_housesFound_L4 LF 0 0 σ
set_option maxRecDepth 100000 in
set_option maxHeartbeats 4000000 in
theorem T_X4_housesFound {l : Launch} {Γ : Gm} {σ : St} {r : Int32} {σ' : St} (h : f_X4_housesFound σ = some (r, σ')) : MetI l yX4_housesFound cX4_housesFound 4 .int 5 Γ σ [.ref (Γ.1 30), .ref (Γ.1 1)] r σ' := by
  intro sz
  refine met_in (by decide) (Nat.le_of_ble_eq_true rfl) (fun p e s m args below meth c ls X hsz M hl => ?_)
  subst hsz
  have X : Cx p s m args meth c cX4_housesFound RX4 4 (some .int) Γ := X
  have hl : lv_has ls 4 [(0, .ref (Γ.1 30)), (1, .ref (Γ.1 1))] := hl
  unfold f_X4_housesFound at h
  refine lv_iconst (v := 0) X.x X.b dX4_housesFound_0 (by decide) ?_
  refine lv_istore_n (lv' := [(2, .int 0), (0, .ref (Γ.1 30)), (1, .ref (Γ.1 1))]) X.x X.b dX4_housesFound_1 rfl hl (by decide) rfl (fun ls hl => ?_)
  refine lv_iconst (v := 0) X.x X.b dX4_housesFound_2 (by decide) ?_
  refine lv_istore_n (lv' := [(3, .int 0), (2, .int 0), (0, .ref (Γ.1 30)), (1, .ref (Γ.1 1))]) X.x X.b dX4_housesFound_3 rfl hl (by decide) rfl (fun ls hl => ?_)
  exact u_X4_housesFound_L4 X LF 0 0 σ _ _ _ h M (lv_sub hl [2, 3, 1, 0] rfl)
def f_X4_commonDivisor_b2 (k2 : (Int32 → Int32 → Int32 → St → Rs)) (x0 : Int32) (x1 : Int32) (x2 : Int32) (σ : St) : Rs :=
  if x2 ≤ 1 then (
    some (1, σ)
  ) else (
    if ¬ x2 = 0 then (
    if (irm x0 x2) = 0 then (
      if ¬ x2 = 0 then (
      if (irm x1 x2) = 0 then (
        some (x2, σ)
      ) else (
        k2 x0 x1 (x2 + (-1)) σ
      )) else none
    ) else (
      k2 x0 x1 (x2 + (-1)) σ
    )) else none
  )
set_option maxRecDepth 100000 in
set_option maxHeartbeats 4000000 in
theorem u_X4_commonDivisor_b2 {l : Launch} {Γ : Gm} {p : Program} {e : Env} {s : State} {m : MethodId} {args : Array Value} {below : List Frame} {meth : Method} {c : Code} {r : Int32} {σ' : St} {k2 : Int32 → Int32 → Int32 → St → Rs} (X : Cx p s m args meth c cX4_commonDivisor RX4 3 (some .int) Γ) (H2 : ∀ (x0 : Int32) (x1 : Int32) (x2 : Int32) (σ : St) (H : Heap) (locs : List Loc) (ls : Array Slot), k2 x0 x1 x2 σ = some (r, σ') → Mv Γ σ s H locs → lv_has ls 3 [(0, .int x0), (1, .int x1), (2, .int x2)] → W p l e (rmd 1) s m args below meth c H locs 0 0 (MQ below (Qi Γ r σ' s.heap.size) args s 0 0 (Rg Γ s.heap.size)) (F0 m 2 ls [])) (x0 : Int32) (x1 : Int32) (x2 : Int32) (σ : St) (H : Heap) (locs : List Loc) (ls : Array Slot) (h : f_X4_commonDivisor_b2 k2 x0 x1 x2 σ = some (r, σ')) (M : Mv Γ σ s H locs) (hl : lv_has ls 3 [(0, .int x0), (1, .int x1), (2, .int x2)]) : W p l e (rmd 1) s m args below meth c H locs 0 0 (MQ below (Qi Γ r σ' s.heap.size) args s 0 0 (Rg Γ s.heap.size)) (F0 m 2 ls []) := by
  unfold f_X4_commonDivisor_b2 at h
  refine lv_iload_n X.x X.b dX4_commonDivisor_2 rfl (lv_at hl 2 rfl) ?_
  refine lv_iconst (v := 1) X.x X.b dX4_commonDivisor_3 (by decide) ?_
  refine lv_icmp_le (tgt := 27) X.x X.b dX4_commonDivisor_4 (by decide) (fun c5 => ?_) (fun c5 => ?_)
  · have h := it_t c5 h
    refine lv_iconst (v := 1) X.x X.b dX4_commonDivisor_27 (by decide) ?_
    exact r_iret X M rfl h dX4_commonDivisor_28
  · have h := it_f c5 h
    refine lv_iload_n X.x X.b dX4_commonDivisor_7 rfl (lv_at hl 0 rfl) ?_
    refine lv_iload_n X.x X.b dX4_commonDivisor_8 rfl (lv_at hl 2 rfl) ?_
    obtain ⟨c1, h⟩ := it_n h
    refine r_irem X dX4_commonDivisor_9 c1 ?_
    refine lv_if_ne (tgt := 21) X.x X.b dX4_commonDivisor_10 (by decide) (fun c4 => ?_) (fun c4 => ?_)
    · have h := it_f c4 h
      refine lv_iinc (v := (x2 + (-1))) (lv' := [(2, .int (x2 + (-1))), (0, .int x0), (1, .int x1)]) X.x X.b dX4_commonDivisor_21 hl (k := 2) rfl rfl (by decide) rfl (fun ls hl => ?_)
      refine lv_goto (tgt := 2) X.x X.b dX4_commonDivisor_24 (by decide) ?_
      exact H2 x0 x1 (x2 + (-1)) σ _ _ _ h M (lv_sub hl [1, 2, 0] rfl)
    · have h := it_t c4 h
      refine lv_iload_n X.x X.b dX4_commonDivisor_13 rfl (lv_at hl 1 rfl) ?_
      refine lv_iload_n X.x X.b dX4_commonDivisor_14 rfl (lv_at hl 2 rfl) ?_
      obtain ⟨c2, h⟩ := it_n h
      refine r_irem X dX4_commonDivisor_15 c2 ?_
      refine lv_if_ne (tgt := 21) X.x X.b dX4_commonDivisor_16 (by decide) (fun c3 => ?_) (fun c3 => ?_)
      · have h := it_f c3 h
        refine lv_iinc (v := (x2 + (-1))) (lv' := [(2, .int (x2 + (-1))), (0, .int x0), (1, .int x1)]) X.x X.b dX4_commonDivisor_21 hl (k := 2) rfl rfl (by decide) rfl (fun ls hl => ?_)
        refine lv_goto (tgt := 2) X.x X.b dX4_commonDivisor_24 (by decide) ?_
        exact H2 x0 x1 (x2 + (-1)) σ _ _ _ h M (lv_sub hl [1, 2, 0] rfl)
      · have h := it_t c3 h
        refine lv_iload_n X.x X.b dX4_commonDivisor_19 rfl (lv_at hl 2 rfl) ?_
        exact r_iret X M rfl h dX4_commonDivisor_20
def f_X4_commonDivisor_L2 : Nat → Int32 → Int32 → Int32 → St → Rs
  | 0 => fun _ _ _ _ => none
  | n + 1 => fun x0 x1 x2 σ => f_X4_commonDivisor_b2 (f_X4_commonDivisor_L2 n) x0 x1 x2 σ
theorem u_X4_commonDivisor_L2 {l : Launch} {Γ : Gm} {p : Program} {e : Env} {s : State} {m : MethodId} {args : Array Value} {below : List Frame} {meth : Method} {c : Code} {r : Int32} {σ' : St} (X : Cx p s m args meth c cX4_commonDivisor RX4 3 (some .int) Γ) : ∀ (n : Nat) (x0 : Int32) (x1 : Int32) (x2 : Int32) (σ : St) (H : Heap) (locs : List Loc) (ls : Array Slot), f_X4_commonDivisor_L2 n x0 x1 x2 σ = some (r, σ') → Mv Γ σ s H locs → lv_has ls 3 [(0, .int x0), (1, .int x1), (2, .int x2)] → W p l e (rmd 1) s m args below meth c H locs 0 0 (MQ below (Qi Γ r σ' s.heap.size) args s 0 0 (Rg Γ s.heap.size)) (F0 m 2 ls []) := by
  intro n
  induction n with
  | zero => intro x0 x1 x2 σ H locs ls h; cases h
  | succ n ih => intro x0 x1 x2 σ H locs ls h; exact u_X4_commonDivisor_b2 X  ih x0 x1 x2 σ H locs ls h
/-- StreetNumbers$Thoughts.commonDivisor(II)I -/
def f_X4_commonDivisor (x0 : Int32) (x1 : Int32) (σ : St) : Rs :=
  f_X4_commonDivisor_L2 LF x0 x1 x1 σ
set_option maxRecDepth 100000 in
set_option maxHeartbeats 4000000 in
theorem T_X4_commonDivisor {l : Launch} {Γ : Gm} {x0 : Int32} {x1 : Int32} {σ : St} {r : Int32} {σ' : St} (h : f_X4_commonDivisor x0 x1 σ = some (r, σ')) : MetI l yX4_commonDivisor cX4_commonDivisor 3 .int 1 Γ σ [.int x0, .int x1] r σ' := by
  intro sz
  refine met_in (by decide) (Nat.le_of_ble_eq_true rfl) (fun p e s m args below meth c ls X hsz M hl => ?_)
  subst hsz
  have X : Cx p s m args meth c cX4_commonDivisor RX4 3 (some .int) Γ := X
  have hl : lv_has ls 3 [(0, .int x0), (1, .int x1)] := hl
  unfold f_X4_commonDivisor at h
  refine lv_iload_n X.x X.b dX4_commonDivisor_0 rfl (lv_at hl 1 rfl) ?_
  refine lv_istore_n (lv' := [(2, .int x1), (0, .int x0), (1, .int x1)]) X.x X.b dX4_commonDivisor_1 rfl hl (by decide) rfl (fun ls hl => ?_)
  exact u_X4_commonDivisor_L2 X LF x0 x1 x1 σ _ _ _ h M (lv_sub hl [1, 2, 0] rfl)
/-- StreetNumbers.quotient(II)I -/
def f_X6_quotient (x0 : Int32) (x1 : Int32) (σ : St) : Rs :=
  if x1 = 0 then (
    some (0, σ)
  ) else (
    if ¬ x1 = 0 then (
    some ((x0 / x1), σ)) else none
  )
set_option maxRecDepth 100000 in
set_option maxHeartbeats 4000000 in
theorem T_X6_quotient {l : Launch} {Γ : Gm} {x0 : Int32} {x1 : Int32} {σ : St} {r : Int32} {σ' : St} (h : f_X6_quotient x0 x1 σ = some (r, σ')) : MetI l yX6_quotient cX6_quotient 2 .int 1 Γ σ [.int x0, .int x1] r σ' := by
  intro sz
  refine met_in (by decide) (Nat.le_of_ble_eq_true rfl) (fun p e s m args below meth c ls X hsz M hl => ?_)
  subst hsz
  have X : Cx p s m args meth c cX6_quotient RX6 2 (some .int) Γ := X
  have hl : lv_has ls 2 [(0, .int x0), (1, .int x1)] := hl
  unfold f_X6_quotient at h
  refine lv_iload_n X.x X.b dX6_quotient_0 rfl (lv_at hl 1 rfl) ?_
  refine lv_if_ne (tgt := 8) X.x X.b dX6_quotient_1 (by decide) (fun c2 => ?_) (fun c2 => ?_)
  · have h := it_f c2 h
    refine lv_iload_n X.x X.b dX6_quotient_8 rfl (lv_at hl 0 rfl) ?_
    refine lv_iload_n X.x X.b dX6_quotient_9 rfl (lv_at hl 1 rfl) ?_
    obtain ⟨c1, h⟩ := it_n h
    refine lv_idiv X.x X.b dX6_quotient_10 c1 ?_
    exact r_iret X M rfl h dX6_quotient_11
  · have h := it_t c2 h
    refine lv_iconst (v := 0) X.x X.b dX6_quotient_4 (by decide) ?_
    refine lv_goto (tgt := 11) X.x X.b dX6_quotient_5 (by decide) ?_
    exact r_iret X M rfl h dX6_quotient_11
/-- StreetNumbers.odds(I)I -/
def f_X6_odds (x1 : Int32) (σ : St) : Rs :=
  if x1 < 0 then (
    ob (f_X6_failing 1 σ) fun r1 σ1 => (
    some (r1, σ1))
  ) else (
    if x1 ≤ 1 then (
      if (σ 1 1) = 0 then (
        ob (f_X6_failing 3 σ) fun r7 σ7 => (
        some (r7, σ7))
      ) else (
        ob (f_X4_housesFound σ) fun r2 σ2 => (
        ob (f_X4_commonDivisor r2 (σ2 1 1) σ2) fun r3 σ3 => (
        if x1 = 0 then (
          ob (f_X6_quotient r2 r3 σ3) fun r5 σ5 => (
          some (r5, σ5))
        ) else (
          ob (f_X6_quotient (σ3 1 1) r3 σ3) fun r4 σ4 => (
          some (r4, σ4))
        )))
      )
    ) else (
      ob (f_X6_failing 1 σ) fun r9 σ9 => (
      some (r9, σ9))
    )
  )
set_option maxRecDepth 100000 in
set_option maxHeartbeats 4000000 in
theorem T_X6_odds {l : Launch} {Γ : Gm} {x1 : Int32} {σ : St} {r : Int32} {σ' : St} (h : f_X6_odds x1 σ = some (r, σ')) : MetI l yX6_odds cX6_odds 4 .int 6 Γ σ [.ref (Γ.1 0), .int x1] r σ' := by
  intro sz
  refine met_in (by decide) (Nat.le_of_ble_eq_true rfl) (fun p e s m args below meth c ls X hsz M hl => ?_)
  subst hsz
  have X : Cx p s m args meth c cX6_odds RX6 4 (some .int) Γ := X
  have hl : lv_has ls 4 [(0, .ref (Γ.1 0)), (1, .int x1)] := hl
  unfold f_X6_odds at h
  refine lv_iload_n X.x X.b dX6_odds_0 rfl (lv_at hl 1 rfl) ?_
  refine lv_if_lt (tgt := 9) X.x X.b dX6_odds_1 (by decide) (fun c11 => ?_) (fun c11 => ?_)
  · have h := it_t c11 h
    refine lv_aload_n X.x X.b dX6_odds_9 rfl (lv_at hl 0 rfl) ?_
    refine lv_iconst (v := 1) X.x X.b dX6_odds_10 (by decide) ?_
    obtain ⟨r1, σ1, h1, h⟩ := ob_e h
    refine r_runI M (r_callV (As := [.int 1]) X M (lv_sub hl [] rfl) (T_X6_failing h1 _) cal_X6_failing q223 ⟨by decide, by decide⟩ hq_0 (el_0 _ _) rfl rfl rfl (Nat.le_of_ble_eq_true rfl) ⟨Nat.le_refl _, Nat.le_refl _⟩ dX6_odds_11) (fun H locs M => ?_)
    clear h1
    exact r_iret X M rfl h dX6_odds_14
  · have h := it_f c11 h
    refine lv_iload_n X.x X.b dX6_odds_4 rfl (lv_at hl 1 rfl) ?_
    refine lv_iconst (v := 1) X.x X.b dX6_odds_5 (by decide) ?_
    refine lv_icmp_le (tgt := 15) X.x X.b dX6_odds_6 (by decide) (fun c10 => ?_) (fun c10 => ?_)
    · have h := it_t c10 h
      refine lv_aload_n X.x X.b dX6_odds_15 rfl (lv_at hl 0 rfl) ?_
      refine r_get X M hq_0 (el_0 _ _) rfl inX6 0 (by decide) q188 rfl rfl dX6_odds_16 ?_
      refine r_get X M hq_1 (el_1 _ _) rfl inX3 1 (by decide) q56 rfl rfl dX6_odds_19 ?_
      refine lv_if_ne (tgt := 31) X.x X.b dX6_odds_22 (by decide) (fun c8 => ?_) (fun c8 => ?_)
      · have h := it_f c8 h
        refine lv_aload_n X.x X.b dX6_odds_31 rfl (lv_at hl 0 rfl) ?_
        refine r_get X M hq_0 (el_0 _ _) rfl inX6 3 (by decide) q191 rfl rfl dX6_odds_32 ?_
        refine lv_aload_n X.x X.b dX6_odds_35 rfl (lv_at hl 0 rfl) ?_
        refine r_get X M hq_0 (el_0 _ _) rfl inX6 0 (by decide) q188 rfl rfl dX6_odds_36 ?_
        obtain ⟨r2, σ2, h2, h⟩ := ob_e h
        refine r_runI M (r_callV (As := [.ref (Γ.1 1)]) X M (lv_sub hl [] rfl) (T_X4_housesFound h2 _) cal_X4_housesFound q522 ⟨by decide, by decide⟩ hq_30 (el_30 _ _) rfl rfl rfl (Nat.le_of_ble_eq_true rfl) ⟨Nat.le_refl _, Nat.le_refl _⟩ dX6_odds_39) (fun H locs M => ?_)
        clear h2
        refine lv_istore_n (lv' := [(2, .int r2), (0, .ref (Γ.1 0)), (1, .int x1)]) X.x X.b dX6_odds_42 rfl hl (by decide) rfl (fun ls hl => ?_)
        refine lv_iload_n X.x X.b dX6_odds_43 rfl (lv_at hl 0 rfl) ?_
        refine lv_aload_n X.x X.b dX6_odds_44 rfl (lv_at hl 1 rfl) ?_
        refine r_get X M hq_0 (el_0 _ _) rfl inX6 0 (by decide) q188 rfl rfl dX6_odds_45 ?_
        refine r_get X M hq_1 (el_1 _ _) rfl inX3 1 (by decide) q56 rfl rfl dX6_odds_48 ?_
        obtain ⟨r3, σ3, h3, h⟩ := ob_e h
        refine r_runI M (r_callS (As := [.int r2, .int (σ2 1 1)]) X M (lv_sub hl [] rfl) (T_X4_commonDivisor h3 _) cal_X4_commonDivisor q527 ⟨by decide, by decide⟩ rfl rfl (Nat.le_of_ble_eq_true rfl) ⟨Nat.le_refl _, Nat.le_refl _⟩ dX6_odds_51) (fun H locs M => ?_)
        clear h3
        refine lv_istore_n (lv' := [(3, .int r3), (2, .int r2), (0, .ref (Γ.1 0)), (1, .int x1)]) X.x X.b dX6_odds_54 rfl hl (by decide) rfl (fun ls hl => ?_)
        refine lv_iload_n X.x X.b dX6_odds_55 rfl (lv_at hl 3 rfl) ?_
        refine lv_if_ne (tgt := 63) X.x X.b dX6_odds_56 (by decide) (fun c6 => ?_) (fun c6 => ?_)
        · have h := it_f c6 h
          refine lv_aload_n X.x X.b dX6_odds_63 rfl (lv_at hl 2 rfl) ?_
          refine r_get X M hq_0 (el_0 _ _) rfl inX6 0 (by decide) q188 rfl rfl dX6_odds_64 ?_
          refine r_get X M hq_1 (el_1 _ _) rfl inX3 1 (by decide) q56 rfl rfl dX6_odds_67 ?_
          refine lv_iload_n X.x X.b dX6_odds_70 rfl (lv_at hl 0 rfl) ?_
          obtain ⟨r4, σ4, h4, h⟩ := ob_e h
          refine r_runI M (r_callS (As := [.int (σ3 1 1), .int r3]) X M (lv_sub hl [] rfl) (T_X6_quotient h4 _) cal_X6_quotient q530 ⟨by decide, by decide⟩ rfl rfl (Nat.le_of_ble_eq_true rfl) ⟨Nat.le_refl _, Nat.le_refl _⟩ dX6_odds_71) (fun H locs M => ?_)
          clear h4
          exact r_iret X M rfl h dX6_odds_74
        · have h := it_t c6 h
          refine lv_iload_n X.x X.b dX6_odds_59 rfl (lv_at hl 1 rfl) ?_
          refine lv_goto (tgt := 70) X.x X.b dX6_odds_60 (by decide) ?_
          refine lv_iload_n X.x X.b dX6_odds_70 rfl (lv_at hl 0 rfl) ?_
          obtain ⟨r5, σ5, h5, h⟩ := ob_e h
          refine r_runI M (r_callS (As := [.int r2, .int r3]) X M (lv_sub hl [] rfl) (T_X6_quotient h5 _) cal_X6_quotient q530 ⟨by decide, by decide⟩ rfl rfl (Nat.le_of_ble_eq_true rfl) ⟨Nat.le_refl _, Nat.le_refl _⟩ dX6_odds_71) (fun H locs M => ?_)
          clear h5
          exact r_iret X M rfl h dX6_odds_74
      · have h := it_t c8 h
        refine lv_aload_n X.x X.b dX6_odds_25 rfl (lv_at hl 0 rfl) ?_
        refine lv_iconst (v := 3) X.x X.b dX6_odds_26 (by decide) ?_
        obtain ⟨r7, σ7, h7, h⟩ := ob_e h
        refine r_runI M (r_callV (As := [.int 3]) X M (lv_sub hl [] rfl) (T_X6_failing h7 _) cal_X6_failing q223 ⟨by decide, by decide⟩ hq_0 (el_0 _ _) rfl rfl rfl (Nat.le_of_ble_eq_true rfl) ⟨Nat.le_refl _, Nat.le_refl _⟩ dX6_odds_27) (fun H locs M => ?_)
        clear h7
        exact r_iret X M rfl h dX6_odds_30
    · have h := it_f c10 h
      refine lv_aload_n X.x X.b dX6_odds_9 rfl (lv_at hl 0 rfl) ?_
      refine lv_iconst (v := 1) X.x X.b dX6_odds_10 (by decide) ?_
      obtain ⟨r9, σ9, h9, h⟩ := ob_e h
      refine r_runI M (r_callV (As := [.int 1]) X M (lv_sub hl [] rfl) (T_X6_failing h9 _) cal_X6_failing q223 ⟨by decide, by decide⟩ hq_0 (el_0 _ _) rfl rfl rfl (Nat.le_of_ble_eq_true rfl) ⟨Nat.le_refl _, Nat.le_refl _⟩ dX6_odds_11) (fun H locs M => ?_)
      clear h9
      exact r_iret X M rfl h dX6_odds_14
def f_X6_order_b2 (k2 : (Int32 → St → Rs)) (x1 : Int32) (σ : St) : Rs :=
  if (σ 1 1) ≤ x1 then (
    some (1, σ)
  ) else (
    ob (f_X3_plateAt x1 σ) fun r1 σ1 => (
    ob (f_X3_plateAt (x1 - 1) σ1) fun r2 σ2 => (
    if r2 < r1 then (
      k2 (x1 + 1) σ2
    ) else (
      some (0, σ2)
    )))
  )
set_option maxRecDepth 100000 in
set_option maxHeartbeats 4000000 in
theorem u_X6_order_b2 {l : Launch} {Γ : Gm} {p : Program} {e : Env} {s : State} {m : MethodId} {args : Array Value} {below : List Frame} {meth : Method} {c : Code} {r : Int32} {σ' : St} {k2 : Int32 → St → Rs} (X : Cx p s m args meth c cX6_order RX6 2 (some .int) Γ) (H2 : ∀ (x1 : Int32) (σ : St) (H : Heap) (locs : List Loc) (ls : Array Slot), k2 x1 σ = some (r, σ') → Mv Γ σ s H locs → lv_has ls 2 [(0, .ref (Γ.1 0)), (1, .int x1)] → W p l e (rmd 4) s m args below meth c H locs 0 0 (MQ below (Qi Γ r σ' s.heap.size) args s 0 0 (Rg Γ s.heap.size)) (F0 m 2 ls [])) (x1 : Int32) (σ : St) (H : Heap) (locs : List Loc) (ls : Array Slot) (h : f_X6_order_b2 k2 x1 σ = some (r, σ')) (M : Mv Γ σ s H locs) (hl : lv_has ls 2 [(0, .ref (Γ.1 0)), (1, .int x1)]) : W p l e (rmd 4) s m args below meth c H locs 0 0 (MQ below (Qi Γ r σ' s.heap.size) args s 0 0 (Rg Γ s.heap.size)) (F0 m 2 ls []) := by
  unfold f_X6_order_b2 at h
  refine lv_iload_n X.x X.b dX6_order_2 rfl (lv_at hl 1 rfl) ?_
  refine lv_aload_n X.x X.b dX6_order_3 rfl (lv_at hl 0 rfl) ?_
  refine r_get X M hq_0 (el_0 _ _) rfl inX6 0 (by decide) q188 rfl rfl dX6_order_4 ?_
  refine r_get X M hq_1 (el_1 _ _) rfl inX3 1 (by decide) q56 rfl rfl dX6_order_7 ?_
  refine lv_icmp_ge (tgt := 42) X.x X.b dX6_order_10 (by decide) (fun c4 => ?_) (fun c4 => ?_)
  · have h := it_t c4 h
    refine lv_iconst (v := 1) X.x X.b dX6_order_42 (by decide) ?_
    exact r_iret X M rfl h dX6_order_43
  · have h := it_f c4 h
    refine lv_aload_n X.x X.b dX6_order_13 rfl (lv_at hl 0 rfl) ?_
    refine r_get X M hq_0 (el_0 _ _) rfl inX6 0 (by decide) q188 rfl rfl dX6_order_14 ?_
    refine lv_iload_n X.x X.b dX6_order_17 rfl (lv_at hl 1 rfl) ?_
    obtain ⟨r1, σ1, h1, h⟩ := ob_e h
    refine r_runI M (r_callV (As := [.int x1]) X M (lv_sub hl [] rfl) (T_X3_plateAt h1 _) cal_X3_plateAt q537 ⟨by decide, by decide⟩ hq_1 (el_1 _ _) rfl rfl rfl (Nat.le_of_ble_eq_true rfl) ⟨Nat.le_refl _, Nat.le_refl _⟩ dX6_order_18) (fun H locs M => ?_)
    clear h1
    refine lv_aload_n X.x X.b dX6_order_21 rfl (lv_at hl 0 rfl) ?_
    refine r_get X M hq_0 (el_0 _ _) rfl inX6 0 (by decide) q188 rfl rfl dX6_order_22 ?_
    refine lv_iload_n X.x X.b dX6_order_25 rfl (lv_at hl 1 rfl) ?_
    refine lv_iconst (v := 1) X.x X.b dX6_order_26 (by decide) ?_
    refine lv_isub X.x X.b dX6_order_27 ?_
    obtain ⟨r2, σ2, h2, h⟩ := ob_e h
    refine r_runI M (r_callV (As := [.int (x1 - 1)]) X M (lv_sub hl [] rfl) (T_X3_plateAt h2 _) cal_X3_plateAt q537 ⟨by decide, by decide⟩ hq_1 (el_1 _ _) rfl rfl rfl (Nat.le_of_ble_eq_true rfl) ⟨Nat.le_refl _, Nat.le_refl _⟩ dX6_order_28) (fun H locs M => ?_)
    clear h2
    refine lv_icmp_gt (tgt := 36) X.x X.b dX6_order_31 (by decide) (fun c3 => ?_) (fun c3 => ?_)
    · have h := it_t c3 h
      refine lv_iinc (v := (x1 + 1)) (lv' := [(1, .int (x1 + 1)), (0, .ref (Γ.1 0))]) X.x X.b dX6_order_36 hl (k := 1) rfl rfl (by decide) rfl (fun ls hl => ?_)
      refine lv_goto (tgt := 2) X.x X.b dX6_order_39 (by decide) ?_
      exact H2 (x1 + 1) σ2 _ _ _ h M (lv_sub hl [1, 0] rfl)
    · have h := it_f c3 h
      refine lv_iconst (v := 0) X.x X.b dX6_order_34 (by decide) ?_
      exact r_iret X M rfl h dX6_order_35
def f_X6_order_L2 : Nat → Int32 → St → Rs
  | 0 => fun _ _ => none
  | n + 1 => fun x1 σ => f_X6_order_b2 (f_X6_order_L2 n) x1 σ
theorem u_X6_order_L2 {l : Launch} {Γ : Gm} {p : Program} {e : Env} {s : State} {m : MethodId} {args : Array Value} {below : List Frame} {meth : Method} {c : Code} {r : Int32} {σ' : St} (X : Cx p s m args meth c cX6_order RX6 2 (some .int) Γ) : ∀ (n : Nat) (x1 : Int32) (σ : St) (H : Heap) (locs : List Loc) (ls : Array Slot), f_X6_order_L2 n x1 σ = some (r, σ') → Mv Γ σ s H locs → lv_has ls 2 [(0, .ref (Γ.1 0)), (1, .int x1)] → W p l e (rmd 4) s m args below meth c H locs 0 0 (MQ below (Qi Γ r σ' s.heap.size) args s 0 0 (Rg Γ s.heap.size)) (F0 m 2 ls []) := by
  intro n
  induction n with
  | zero => intro x1 σ H locs ls h; cases h
  | succ n ih => intro x1 σ H locs ls h; exact u_X6_order_b2 X  ih x1 σ H locs ls h
/-- StreetNumbers.order()I -/
def f_X6_order (σ : St) : Rs :=
  f_X6_order_L2 LF 1 σ
set_option maxRecDepth 100000 in
set_option maxHeartbeats 4000000 in
theorem T_X6_order {l : Launch} {Γ : Gm} {σ : St} {r : Int32} {σ' : St} (h : f_X6_order σ = some (r, σ')) : MetI l yX6_order cX6_order 2 .int 4 Γ σ [.ref (Γ.1 0)] r σ' := by
  intro sz
  refine met_in (by decide) (Nat.le_of_ble_eq_true rfl) (fun p e s m args below meth c ls X hsz M hl => ?_)
  subst hsz
  have X : Cx p s m args meth c cX6_order RX6 2 (some .int) Γ := X
  have hl : lv_has ls 2 [(0, .ref (Γ.1 0))] := hl
  unfold f_X6_order at h
  refine lv_iconst (v := 1) X.x X.b dX6_order_0 (by decide) ?_
  refine lv_istore_n (lv' := [(1, .int 1), (0, .ref (Γ.1 0))]) X.x X.b dX6_order_1 rfl hl (by decide) rfl (fun ls hl => ?_)
  exact u_X6_order_L2 X LF 1 σ _ _ _ h M (lv_sub hl [1, 0] rfl)
def f_X6_plates_b51 (k51 : (Int32 → Int32 → Int32 → St → Rs)) (x1 : Int32) (x2 : Int32) (x3 : Int32) (σ : St) : Rs :=
  if x2 ≤ x3 then (
    some (x2, σ)
  ) else (
    ob (f_X2_number x1 x3 σ) fun r1 σ1 => (
    ob (f_X6_isPlate r1 σ1) fun r2 σ2 => (
    if r2 = 0 then (
      some (x3, σ2)
    ) else (
      ob (f_X3_setPlate x3 r1 σ2) fun _ σ3 => (
      k51 x1 x2 (x3 + 1) σ3)
    )))
  )
set_option maxRecDepth 100000 in
set_option maxHeartbeats 4000000 in
theorem u_X6_plates_b51 {l : Launch} {Γ : Gm} {p : Program} {e : Env} {s : State} {m : MethodId} {args : Array Value} {below : List Frame} {meth : Method} {c : Code} {r : Int32} {σ' : St} {k51 : Int32 → Int32 → Int32 → St → Rs} (X : Cx p s m args meth c cX6_plates RX6 5 (some .int) Γ) (H51 : ∀ (x1 : Int32) (x2 : Int32) (x3 : Int32) (σ : St) (H : Heap) (locs : List Loc) (ls : Array Slot), k51 x1 x2 x3 σ = some (r, σ') → Mv Γ σ s H locs → lv_has ls 5 [(0, .ref (Γ.1 0)), (1, .int x1), (2, .int x2), (3, .int x3)] → W p l e (rmd 5) s m args below meth c H locs 0 0 (MQ below (Qi Γ r σ' s.heap.size) args s 0 0 (Rg Γ s.heap.size)) (F0 m 51 ls [])) (x1 : Int32) (x2 : Int32) (x3 : Int32) (σ : St) (H : Heap) (locs : List Loc) (ls : Array Slot) (h : f_X6_plates_b51 k51 x1 x2 x3 σ = some (r, σ')) (M : Mv Γ σ s H locs) (hl : lv_has ls 5 [(0, .ref (Γ.1 0)), (1, .int x1), (2, .int x2), (3, .int x3)]) : W p l e (rmd 5) s m args below meth c H locs 0 0 (MQ below (Qi Γ r σ' s.heap.size) args s 0 0 (Rg Γ s.heap.size)) (F0 m 51 ls []) := by
  unfold f_X6_plates_b51 at h
  refine lv_iload_n X.x X.b dX6_plates_51 rfl (lv_at hl 3 rfl) ?_
  refine lv_iload_n X.x X.b dX6_plates_52 rfl (lv_at hl 2 rfl) ?_
  refine lv_icmp_ge (tgt := 93) X.x X.b dX6_plates_53 (by decide) (fun c5 => ?_) (fun c5 => ?_)
  · have h := it_t c5 h
    refine lv_iload_n X.x X.b dX6_plates_93 rfl (lv_at hl 2 rfl) ?_
    exact r_iret X M rfl h dX6_plates_94
  · have h := it_f c5 h
    refine lv_aload_n X.x X.b dX6_plates_56 rfl (lv_at hl 0 rfl) ?_
    refine r_get X M hq_0 (el_0 _ _) rfl inX6 5 (by decide) q193 rfl rfl dX6_plates_57 ?_
    refine lv_iload_n X.x X.b dX6_plates_60 rfl (lv_at hl 1 rfl) ?_
    refine lv_iload_n X.x X.b dX6_plates_61 rfl (lv_at hl 3 rfl) ?_
    obtain ⟨r1, σ1, h1, h⟩ := ob_e h
    refine r_runI M (r_callV (As := [.int x1, .int x3]) X M (lv_sub hl [] rfl) (T_X2_number h1 _) cal_X2_number q562 ⟨by decide, by decide⟩ hq_57 (el_57 _ _) rfl rfl rfl (Nat.le_of_ble_eq_true rfl) ⟨Nat.le_refl _, Nat.le_refl _⟩ dX6_plates_62) (fun H locs M => ?_)
    clear h1
    refine lv_istore (lv' := [(4, .int r1), (0, .ref (Γ.1 0)), (1, .int x1), (2, .int x2), (3, .int x3)]) X.x X.b dX6_plates_65 hl (by decide) rfl (fun ls hl => ?_)
    refine lv_iload X.x X.b dX6_plates_67 (lv_at hl 0 rfl) ?_
    obtain ⟨r2, σ2, h2, h⟩ := ob_e h
    refine r_runI M (r_callS (As := [.int r1]) X M (lv_sub hl [] rfl) (T_X6_isPlate h2 _) cal_X6_isPlate q220 ⟨by decide, by decide⟩ rfl rfl (Nat.le_of_ble_eq_true rfl) ⟨Nat.le_refl _, Nat.le_refl _⟩ dX6_plates_69) (fun H locs M => ?_)
    clear h2
    refine lv_if_ne (tgt := 77) X.x X.b dX6_plates_72 (by decide) (fun c4 => ?_) (fun c4 => ?_)
    · have h := it_f c4 h
      refine lv_aload_n X.x X.b dX6_plates_77 rfl (lv_at hl 1 rfl) ?_
      refine r_get X M hq_0 (el_0 _ _) rfl inX6 0 (by decide) q188 rfl rfl dX6_plates_78 ?_
      refine lv_iload_n X.x X.b dX6_plates_81 rfl (lv_at hl 4 rfl) ?_
      refine lv_iload X.x X.b dX6_plates_82 (lv_at hl 0 rfl) ?_
      obtain ⟨r3, σ3, h3, h⟩ := ob_e h
      refine r_runV M (r_callV (As := [.int x3, .int r1]) X M (lv_sub hl [] rfl) (T_X3_setPlate h3 _) cal_X3_setPlate q676 ⟨by decide, by decide⟩ hq_1 (el_1 _ _) rfl rfl rfl (Nat.le_of_ble_eq_true rfl) ⟨Nat.le_refl _, Nat.le_refl _⟩ dX6_plates_84) (fun H locs M => ?_)
      clear h3
      refine lv_iinc (v := (x3 + 1)) (lv' := [(3, .int (x3 + 1)), (4, .int r1), (0, .ref (Γ.1 0)), (1, .int x1), (2, .int x2)]) X.x X.b dX6_plates_87 hl (k := 4) rfl rfl (by decide) rfl (fun ls hl => ?_)
      refine lv_goto (tgt := 51) X.x X.b dX6_plates_90 (by decide) ?_
      exact H51 x1 x2 (x3 + 1) σ3 _ _ _ h M (lv_sub hl [2, 3, 4, 0] rfl)
    · have h := it_t c4 h
      refine lv_iload_n X.x X.b dX6_plates_75 rfl (lv_at hl 4 rfl) ?_
      exact r_iret X M rfl h dX6_plates_76
def f_X6_plates_L51 : Nat → Int32 → Int32 → Int32 → St → Rs
  | 0 => fun _ _ _ _ => none
  | n + 1 => fun x1 x2 x3 σ => f_X6_plates_b51 (f_X6_plates_L51 n) x1 x2 x3 σ
theorem u_X6_plates_L51 {l : Launch} {Γ : Gm} {p : Program} {e : Env} {s : State} {m : MethodId} {args : Array Value} {below : List Frame} {meth : Method} {c : Code} {r : Int32} {σ' : St} (X : Cx p s m args meth c cX6_plates RX6 5 (some .int) Γ) : ∀ (n : Nat) (x1 : Int32) (x2 : Int32) (x3 : Int32) (σ : St) (H : Heap) (locs : List Loc) (ls : Array Slot), f_X6_plates_L51 n x1 x2 x3 σ = some (r, σ') → Mv Γ σ s H locs → lv_has ls 5 [(0, .ref (Γ.1 0)), (1, .int x1), (2, .int x2), (3, .int x3)] → W p l e (rmd 5) s m args below meth c H locs 0 0 (MQ below (Qi Γ r σ' s.heap.size) args s 0 0 (Rg Γ s.heap.size)) (F0 m 51 ls []) := by
  intro n
  induction n with
  | zero => intro x1 x2 x3 σ H locs ls h; cases h
  | succ n ih => intro x1 x2 x3 σ H locs ls h; exact u_X6_plates_b51 X  ih x1 x2 x3 σ H locs ls h
/-- StreetNumbers.plates(I)I -/
def f_X6_plates (x1 : Int32) (σ : St) : Rs :=
  ob (f_X6_isSheet x1 σ) fun r1 σ1 => (
  if r1 = 0 then (
    ob (f_X6_failing 1 σ1) fun r6 σ6 => (
    some (r6, σ6))
  ) else (
    ob (f_X2_isMissing x1 σ1) fun r2 σ2 => (
    if r2 = 0 then (
      ob (f_X2_size x1 σ2) fun r3 σ3 => (
      f_X6_plates_L51 LF x1 (imin r3 (σ3 1 1)) 0 σ3)
    ) else (
      ob (f_X6_failing 2 σ2) fun r4 σ4 => (
      some (r4, σ4))
    ))
  ))
set_option maxRecDepth 100000 in
set_option maxHeartbeats 4000000 in
theorem T_X6_plates {l : Launch} {Γ : Gm} {x1 : Int32} {σ : St} {r : Int32} {σ' : St} (h : f_X6_plates x1 σ = some (r, σ')) : MetI l yX6_plates cX6_plates 5 .int 5 Γ σ [.ref (Γ.1 0), .int x1] r σ' := by
  intro sz
  refine met_in (by decide) (Nat.le_of_ble_eq_true rfl) (fun p e s m args below meth c ls X hsz M hl => ?_)
  subst hsz
  have X : Cx p s m args meth c cX6_plates RX6 5 (some .int) Γ := X
  have hl : lv_has ls 5 [(0, .ref (Γ.1 0)), (1, .int x1)] := hl
  unfold f_X6_plates at h
  refine lv_iload_n X.x X.b dX6_plates_0 rfl (lv_at hl 1 rfl) ?_
  obtain ⟨r1, σ1, h1, h⟩ := ob_e h
  refine r_runI M (r_callS (As := [.int x1]) X M (lv_sub hl [] rfl) (T_X6_isSheet h1 _) cal_X6_isSheet q542 ⟨by decide, by decide⟩ rfl rfl (Nat.le_of_ble_eq_true rfl) ⟨Nat.le_refl _, Nat.le_refl _⟩ dX6_plates_1) (fun H locs M => ?_)
  clear h1
  refine lv_if_ne (tgt := 13) X.x X.b dX6_plates_4 (by decide) (fun c7 => ?_) (fun c7 => ?_)
  · have h := it_f c7 h
    refine lv_aload_n X.x X.b dX6_plates_13 rfl (lv_at hl 0 rfl) ?_
    refine r_get X M hq_0 (el_0 _ _) rfl inX6 5 (by decide) q193 rfl rfl dX6_plates_14 ?_
    refine lv_iload_n X.x X.b dX6_plates_17 rfl (lv_at hl 1 rfl) ?_
    obtain ⟨r2, σ2, h2, h⟩ := ob_e h
    refine r_runI M (r_callV (As := [.int x1]) X M (lv_sub hl [] rfl) (T_X2_isMissing h2 _) cal_X2_isMissing q545 ⟨by decide, by decide⟩ hq_57 (el_57 _ _) rfl rfl rfl (Nat.le_of_ble_eq_true rfl) ⟨Nat.le_refl _, Nat.le_refl _⟩ dX6_plates_18) (fun H locs M => ?_)
    clear h2
    refine lv_if_eq (tgt := 30) X.x X.b dX6_plates_21 (by decide) (fun c5 => ?_) (fun c5 => ?_)
    · have h := it_t c5 h
      refine lv_aload_n X.x X.b dX6_plates_30 rfl (lv_at hl 0 rfl) ?_
      refine r_get X M hq_0 (el_0 _ _) rfl inX6 5 (by decide) q193 rfl rfl dX6_plates_31 ?_
      refine lv_iload_n X.x X.b dX6_plates_34 rfl (lv_at hl 1 rfl) ?_
      obtain ⟨r3, σ3, h3, h⟩ := ob_e h
      refine r_runI M (r_callV (As := [.int x1]) X M (lv_sub hl [] rfl) (T_X2_size h3 _) cal_X2_size q558 ⟨by decide, by decide⟩ hq_57 (el_57 _ _) rfl rfl rfl (Nat.le_of_ble_eq_true rfl) ⟨Nat.le_refl _, Nat.le_refl _⟩ dX6_plates_35) (fun H locs M => ?_)
      clear h3
      refine lv_aload_n X.x X.b dX6_plates_38 rfl (lv_at hl 0 rfl) ?_
      refine r_get X M hq_0 (el_0 _ _) rfl inX6 0 (by decide) q188 rfl rfl dX6_plates_39 ?_
      refine r_get X M hq_1 (el_1 _ _) rfl inX3 1 (by decide) q56 rfl rfl dX6_plates_42 ?_
      refine r_mmin X (lv_sub hl [] rfl) q305 q294 q10 q295 (by decide) (Nat.le_of_ble_eq_true rfl) (by decide) ⟨Nat.le_refl _, Nat.le_refl _⟩ dX6_plates_45 ?_
      refine lv_istore_n (lv' := [(2, .int (imin r3 (σ3 1 1))), (0, .ref (Γ.1 0)), (1, .int x1)]) X.x X.b dX6_plates_48 rfl hl (by decide) rfl (fun ls hl => ?_)
      refine lv_iconst (v := 0) X.x X.b dX6_plates_49 (by decide) ?_
      refine lv_istore_n (lv' := [(3, .int 0), (2, .int (imin r3 (σ3 1 1))), (0, .ref (Γ.1 0)), (1, .int x1)]) X.x X.b dX6_plates_50 rfl hl (by decide) rfl (fun ls hl => ?_)
      exact u_X6_plates_L51 X LF x1 (imin r3 (σ3 1 1)) 0 σ3 _ _ _ h M (lv_sub hl [2, 3, 1, 0] rfl)
    · have h := it_f c5 h
      refine lv_aload_n X.x X.b dX6_plates_24 rfl (lv_at hl 0 rfl) ?_
      refine lv_iconst (v := 2) X.x X.b dX6_plates_25 (by decide) ?_
      obtain ⟨r4, σ4, h4, h⟩ := ob_e h
      refine r_runI M (r_callV (As := [.int 2]) X M (lv_sub hl [] rfl) (T_X6_failing h4 _) cal_X6_failing q223 ⟨by decide, by decide⟩ hq_0 (el_0 _ _) rfl rfl rfl (Nat.le_of_ble_eq_true rfl) ⟨Nat.le_refl _, Nat.le_refl _⟩ dX6_plates_26) (fun H locs M => ?_)
      clear h4
      exact r_iret X M rfl h dX6_plates_29
  · have h := it_t c7 h
    refine lv_aload_n X.x X.b dX6_plates_7 rfl (lv_at hl 0 rfl) ?_
    refine lv_iconst (v := 1) X.x X.b dX6_plates_8 (by decide) ?_
    obtain ⟨r6, σ6, h6, h⟩ := ob_e h
    refine r_runI M (r_callV (As := [.int 1]) X M (lv_sub hl [] rfl) (T_X6_failing h6 _) cal_X6_failing q223 ⟨by decide, by decide⟩ hq_0 (el_0 _ _) rfl rfl rfl (Nat.le_of_ble_eq_true rfl) ⟨Nat.le_refl _, Nat.le_refl _⟩ dX6_plates_9) (fun H locs M => ?_)
    clear h6
    exact r_iret X M rfl h dX6_plates_12
/-- StreetNumbers$Sheets.lowest(II)I -/
def f_X2_lowest (x0 : Int32) (x1 : Int32) (σ : St) : Rs :=
  if x1 = 8 then (
    some ((x0.toInt8.toInt32), σ)
  ) else (
    if x1 = 16 then (
      some ((x0.toInt16.toInt32), σ)
    ) else (
      some (x0, σ)
    )
  )
set_option maxRecDepth 100000 in
set_option maxHeartbeats 4000000 in
theorem T_X2_lowest {l : Launch} {Γ : Gm} {x0 : Int32} {x1 : Int32} {σ : St} {r : Int32} {σ' : St} (h : f_X2_lowest x0 x1 σ = some (r, σ')) : MetI l yX2_lowest cX2_lowest 2 .int 1 Γ σ [.int x0, .int x1] r σ' := by
  intro sz
  refine met_in (by decide) (Nat.le_of_ble_eq_true rfl) (fun p e s m args below meth c ls X hsz M hl => ?_)
  subst hsz
  have X : Cx p s m args meth c cX2_lowest RX2 2 (some .int) Γ := X
  have hl : lv_has ls 2 [(0, .int x0), (1, .int x1)] := hl
  unfold f_X2_lowest at h
  refine lv_iload_n X.x X.b dX2_lowest_0 rfl (lv_at hl 1 rfl) ?_
  refine lv_bipush (v := 8) X.x X.b dX2_lowest_1 (by decide) ?_
  refine lv_icmp_ne (tgt := 9) X.x X.b dX2_lowest_3 (by decide) (fun c2 => ?_) (fun c2 => ?_)
  · have h := it_f c2 h
    refine lv_iload_n X.x X.b dX2_lowest_9 rfl (lv_at hl 1 rfl) ?_
    refine lv_bipush (v := 16) X.x X.b dX2_lowest_10 (by decide) ?_
    refine lv_icmp_ne (tgt := 20) X.x X.b dX2_lowest_12 (by decide) (fun c1 => ?_) (fun c1 => ?_)
    · have h := it_f c1 h
      refine lv_iload_n X.x X.b dX2_lowest_20 rfl (lv_at hl 0 rfl) ?_
      exact r_iret X M rfl h dX2_lowest_21
    · have h := it_t c1 h
      refine lv_iload_n X.x X.b dX2_lowest_15 rfl (lv_at hl 0 rfl) ?_
      refine lv_i2s (v := (x0.toInt16.toInt32)) X.x X.b dX2_lowest_16 rfl ?_
      refine lv_goto (tgt := 21) X.x X.b dX2_lowest_17 (by decide) ?_
      exact r_iret X M rfl h dX2_lowest_21
  · have h := it_t c2 h
    refine lv_iload_n X.x X.b dX2_lowest_6 rfl (lv_at hl 0 rfl) ?_
    refine lv_i2b (v := (x0.toInt8.toInt32)) X.x X.b dX2_lowest_7 rfl ?_
    exact r_iret X M rfl h dX2_lowest_8
/-- StreetNumbers$Sheets.write(III)V -/
def f_X2_write (x1 : Int32) (x2 : Int32) (x3 : Int32) (σ : St) : Rs :=
  ob (f_X2_holds x1 x2 1 σ) fun r1 σ1 => (
  if r1 = 0 then (
    some (0, σ1)
  ) else (
    if inb x1 4 then (
    if inb x1 4 then (
    ob (f_X2_lowest x3 (σ1 63 x1.toNatClampNeg) σ1) fun r4 σ4 => (
    if inb x2 24 then (
    ol (st σ4 (59 + x1.toNatClampNeg) x2.toNatClampNeg r4) fun σ6 => (
    some (0, σ6))) else none)) else none) else none
  ))
set_option maxRecDepth 100000 in
set_option maxHeartbeats 4000000 in
theorem T_X2_write {l : Launch} {Γ : Gm} {x1 : Int32} {x2 : Int32} {x3 : Int32} {σ : St} {r : Int32} {σ' : St} (h : f_X2_write x1 x2 x3 σ = some (r, σ')) : MetV l yX2_write cX2_write 4 4 Γ σ [.ref (Γ.1 57), .int x1, .int x2, .int x3] σ' := by
  intro sz
  refine met_in (by decide) (Nat.le_of_ble_eq_true rfl) (fun p e s m args below meth c ls X hsz M hl => ?_)
  subst hsz
  have X : Cx p s m args meth c cX2_write RX2 4 none Γ := X
  have hl : lv_has ls 4 [(0, .ref (Γ.1 57)), (1, .int x1), (2, .int x2), (3, .int x3)] := hl
  unfold f_X2_write at h
  refine lv_aload_n X.x X.b dX2_write_0 rfl (lv_at hl 0 rfl) ?_
  refine lv_iload_n X.x X.b dX2_write_1 rfl (lv_at hl 1 rfl) ?_
  refine lv_iload_n X.x X.b dX2_write_2 rfl (lv_at hl 2 rfl) ?_
  refine lv_iconst (v := 1) X.x X.b dX2_write_3 (by decide) ?_
  obtain ⟨r1, σ1, h1, h⟩ := ob_e h
  refine r_runI M (r_callV (As := [.int x1, .int x2, .int 1]) X M (lv_sub hl [] rfl) (T_X2_holds h1 _) cal_X2_holds q566 ⟨by decide, by decide⟩ hq_57 (el_57 _ _) rfl rfl rfl (Nat.le_of_ble_eq_true rfl) ⟨Nat.le_refl _, Nat.le_refl _⟩ dX2_write_4) (fun H locs M => ?_)
  clear h1
  refine lv_if_eq (tgt := 28) X.x X.b dX2_write_7 (by decide) (fun c7 => ?_) (fun c7 => ?_)
  · have h := it_t c7 h
    exact r_vret X M h dX2_write_28
  · have h := it_f c7 h
    refine lv_aload_n X.x X.b dX2_write_10 rfl (lv_at hl 0 rfl) ?_
    refine r_get X M hq_57 (el_57 _ _) rfl inX2 0 (by decide) q178 rfl rfl dX2_write_11 ?_
    refine lv_iload_n X.x X.b dX2_write_14 rfl (lv_at hl 1 rfl) ?_
    obtain ⟨c2, h⟩ := it_n h
    refine r_aald X M hq_58 (el_58 _ _) c2 dX2_write_15 ?_
    refine lv_iload_n X.x X.b dX2_write_16 rfl (lv_at hl 2 rfl) ?_
    refine lv_iload_n X.x X.b dX2_write_17 rfl (lv_at hl 3 rfl) ?_
    refine lv_aload_n X.x X.b dX2_write_18 rfl (lv_at hl 0 rfl) ?_
    refine r_get X M hq_57 (el_57 _ _) rfl inX2 1 (by decide) q179 rfl rfl dX2_write_19 ?_
    refine lv_iload_n X.x X.b dX2_write_22 rfl (lv_at hl 1 rfl) ?_
    obtain ⟨c3, h⟩ := it_n h
    refine r_iald (q := 63) (n := 4) X M rfl c3 dX2_write_23 ?_
    obtain ⟨r4, σ4, h4, h⟩ := ob_e h
    refine r_runI M (r_callS (As := [.int x3, .int (σ1 63 x1.toNatClampNeg)]) X M (lv_sub hl [] rfl) (T_X2_lowest h4 _) cal_X2_lowest q658 ⟨by decide, by decide⟩ rfl rfl (Nat.le_of_ble_eq_true rfl) ⟨Nat.le_refl _, Nat.le_refl _⟩ dX2_write_24) (fun H locs M => ?_)
    clear h4
    obtain ⟨c5, h⟩ := it_n h
    obtain ⟨σ6, e6, h⟩ := ol_e h
    refine r_iast (q := (59 + x1.toNatClampNeg)) (n := 24) X M (al_58 _ (in_lt c2)) c5 dX2_write_27 (fun H locs M => ?_)
    rw [← e6] at M
    exact r_vret X M h dX2_write_28
/-- StreetNumbers.put(III)I -/
def f_X6_put (x1 : Int32) (x2 : Int32) (x3 : Int32) (σ : St) : Rs :=
  ob (f_X6_isSheet x1 σ) fun r1 σ1 => (
  if r1 = 0 then (
    ob (f_X6_failing 1 σ1) fun r11 σ11 => (
    some (r11, σ11))
  ) else (
    ob (f_X2_isMissing x1 σ1) fun r2 σ2 => (
    if r2 = 0 then (
      if x2 < 0 then (
        ob (f_X6_failing 1 σ2) fun r3 σ3 => (
        some (r3, σ3))
      ) else (
        ob (f_X2_size x1 σ2) fun r4 σ4 => (
        if x2 < r4 then (
          ob (f_X2_write x1 x2 x3 σ4) fun _ σ5 => (
          some (1, σ5))
        ) else (
          ob (f_X6_failing 1 σ4) fun r6 σ6 => (
          some (r6, σ6))
        ))
      )
    ) else (
      ob (f_X6_failing 2 σ2) fun r9 σ9 => (
      some (r9, σ9))
    ))
  ))
set_option maxRecDepth 100000 in
set_option maxHeartbeats 4000000 in
theorem T_X6_put {l : Launch} {Γ : Gm} {x1 : Int32} {x2 : Int32} {x3 : Int32} {σ : St} {r : Int32} {σ' : St} (h : f_X6_put x1 x2 x3 σ = some (r, σ')) : MetI l yX6_put cX6_put 4 .int 5 Γ σ [.ref (Γ.1 0), .int x1, .int x2, .int x3] r σ' := by
  intro sz
  refine met_in (by decide) (Nat.le_of_ble_eq_true rfl) (fun p e s m args below meth c ls X hsz M hl => ?_)
  subst hsz
  have X : Cx p s m args meth c cX6_put RX6 4 (some .int) Γ := X
  have hl : lv_has ls 4 [(0, .ref (Γ.1 0)), (1, .int x1), (2, .int x2), (3, .int x3)] := hl
  unfold f_X6_put at h
  refine lv_iload_n X.x X.b dX6_put_0 rfl (lv_at hl 1 rfl) ?_
  obtain ⟨r1, σ1, h1, h⟩ := ob_e h
  refine r_runI M (r_callS (As := [.int x1]) X M (lv_sub hl [] rfl) (T_X6_isSheet h1 _) cal_X6_isSheet q542 ⟨by decide, by decide⟩ rfl rfl (Nat.le_of_ble_eq_true rfl) ⟨Nat.le_refl _, Nat.le_refl _⟩ dX6_put_1) (fun H locs M => ?_)
  clear h1
  refine lv_if_ne (tgt := 13) X.x X.b dX6_put_4 (by decide) (fun c12 => ?_) (fun c12 => ?_)
  · have h := it_f c12 h
    refine lv_aload_n X.x X.b dX6_put_13 rfl (lv_at hl 0 rfl) ?_
    refine r_get X M hq_0 (el_0 _ _) rfl inX6 5 (by decide) q193 rfl rfl dX6_put_14 ?_
    refine lv_iload_n X.x X.b dX6_put_17 rfl (lv_at hl 1 rfl) ?_
    obtain ⟨r2, σ2, h2, h⟩ := ob_e h
    refine r_runI M (r_callV (As := [.int x1]) X M (lv_sub hl [] rfl) (T_X2_isMissing h2 _) cal_X2_isMissing q545 ⟨by decide, by decide⟩ hq_57 (el_57 _ _) rfl rfl rfl (Nat.le_of_ble_eq_true rfl) ⟨Nat.le_refl _, Nat.le_refl _⟩ dX6_put_18) (fun H locs M => ?_)
    clear h2
    refine lv_if_eq (tgt := 30) X.x X.b dX6_put_21 (by decide) (fun c10 => ?_) (fun c10 => ?_)
    · have h := it_t c10 h
      refine lv_iload_n X.x X.b dX6_put_30 rfl (lv_at hl 2 rfl) ?_
      refine lv_if_lt (tgt := 46) X.x X.b dX6_put_31 (by decide) (fun c8 => ?_) (fun c8 => ?_)
      · have h := it_t c8 h
        refine lv_aload_n X.x X.b dX6_put_46 rfl (lv_at hl 0 rfl) ?_
        refine lv_iconst (v := 1) X.x X.b dX6_put_47 (by decide) ?_
        obtain ⟨r3, σ3, h3, h⟩ := ob_e h
        refine r_runI M (r_callV (As := [.int 1]) X M (lv_sub hl [] rfl) (T_X6_failing h3 _) cal_X6_failing q223 ⟨by decide, by decide⟩ hq_0 (el_0 _ _) rfl rfl rfl (Nat.le_of_ble_eq_true rfl) ⟨Nat.le_refl _, Nat.le_refl _⟩ dX6_put_48) (fun H locs M => ?_)
        clear h3
        exact r_iret X M rfl h dX6_put_51
      · have h := it_f c8 h
        refine lv_iload_n X.x X.b dX6_put_34 rfl (lv_at hl 2 rfl) ?_
        refine lv_aload_n X.x X.b dX6_put_35 rfl (lv_at hl 0 rfl) ?_
        refine r_get X M hq_0 (el_0 _ _) rfl inX6 5 (by decide) q193 rfl rfl dX6_put_36 ?_
        refine lv_iload_n X.x X.b dX6_put_39 rfl (lv_at hl 1 rfl) ?_
        obtain ⟨r4, σ4, h4, h⟩ := ob_e h
        refine r_runI M (r_callV (As := [.int x1]) X M (lv_sub hl [] rfl) (T_X2_size h4 _) cal_X2_size q558 ⟨by decide, by decide⟩ hq_57 (el_57 _ _) rfl rfl rfl (Nat.le_of_ble_eq_true rfl) ⟨Nat.le_refl _, Nat.le_refl _⟩ dX6_put_40) (fun H locs M => ?_)
        clear h4
        refine lv_icmp_lt (tgt := 52) X.x X.b dX6_put_43 (by decide) (fun c7 => ?_) (fun c7 => ?_)
        · have h := it_t c7 h
          refine lv_aload_n X.x X.b dX6_put_52 rfl (lv_at hl 0 rfl) ?_
          refine r_get X M hq_0 (el_0 _ _) rfl inX6 5 (by decide) q193 rfl rfl dX6_put_53 ?_
          refine lv_iload_n X.x X.b dX6_put_56 rfl (lv_at hl 1 rfl) ?_
          refine lv_iload_n X.x X.b dX6_put_57 rfl (lv_at hl 2 rfl) ?_
          refine lv_iload_n X.x X.b dX6_put_58 rfl (lv_at hl 3 rfl) ?_
          obtain ⟨r5, σ5, h5, h⟩ := ob_e h
          refine r_runV M (r_callV (As := [.int x1, .int x2, .int x3]) X M (lv_sub hl [] rfl) (T_X2_write h5 _) cal_X2_write q654 ⟨by decide, by decide⟩ hq_57 (el_57 _ _) rfl rfl rfl (Nat.le_of_ble_eq_true rfl) ⟨Nat.le_refl _, Nat.le_refl _⟩ dX6_put_59) (fun H locs M => ?_)
          clear h5
          refine lv_iconst (v := 1) X.x X.b dX6_put_62 (by decide) ?_
          exact r_iret X M rfl h dX6_put_63
        · have h := it_f c7 h
          refine lv_aload_n X.x X.b dX6_put_46 rfl (lv_at hl 0 rfl) ?_
          refine lv_iconst (v := 1) X.x X.b dX6_put_47 (by decide) ?_
          obtain ⟨r6, σ6, h6, h⟩ := ob_e h
          refine r_runI M (r_callV (As := [.int 1]) X M (lv_sub hl [] rfl) (T_X6_failing h6 _) cal_X6_failing q223 ⟨by decide, by decide⟩ hq_0 (el_0 _ _) rfl rfl rfl (Nat.le_of_ble_eq_true rfl) ⟨Nat.le_refl _, Nat.le_refl _⟩ dX6_put_48) (fun H locs M => ?_)
          clear h6
          exact r_iret X M rfl h dX6_put_51
    · have h := it_f c10 h
      refine lv_aload_n X.x X.b dX6_put_24 rfl (lv_at hl 0 rfl) ?_
      refine lv_iconst (v := 2) X.x X.b dX6_put_25 (by decide) ?_
      obtain ⟨r9, σ9, h9, h⟩ := ob_e h
      refine r_runI M (r_callV (As := [.int 2]) X M (lv_sub hl [] rfl) (T_X6_failing h9 _) cal_X6_failing q223 ⟨by decide, by decide⟩ hq_0 (el_0 _ _) rfl rfl rfl (Nat.le_of_ble_eq_true rfl) ⟨Nat.le_refl _, Nat.le_refl _⟩ dX6_put_26) (fun H locs M => ?_)
      clear h9
      exact r_iret X M rfl h dX6_put_29
  · have h := it_t c12 h
    refine lv_aload_n X.x X.b dX6_put_7 rfl (lv_at hl 0 rfl) ?_
    refine lv_iconst (v := 1) X.x X.b dX6_put_8 (by decide) ?_
    obtain ⟨r11, σ11, h11, h⟩ := ob_e h
    refine r_runI M (r_callV (As := [.int 1]) X M (lv_sub hl [] rfl) (T_X6_failing h11 _) cal_X6_failing q223 ⟨by decide, by decide⟩ hq_0 (el_0 _ _) rfl rfl rfl (Nat.le_of_ble_eq_true rfl) ⟨Nat.le_refl _, Nat.le_refl _⟩ dX6_put_9) (fun H locs M => ?_)
    clear h11
    exact r_iret X M rfl h dX6_put_12
/-- StreetNumbers.renames(II)I -/
def f_X6_renames (x1 : Int32) (x2 : Int32) (σ : St) : Rs :=
  ob (f_X3_hasHouse x1 σ) fun r1 σ1 => (
  if r1 = 0 then (
    ob (f_X6_failing 1 σ1) fun r2 σ2 => (
    some (r2, σ2))
  ) else (
    ob (f_X6_isPlate x2 σ1) fun r3 σ3 => (
    if r3 = 0 then (
      ob (f_X6_failing 1 σ3) fun r5 σ5 => (
      some (r5, σ5))
    ) else (
      ob (f_X3_getsNumber x1 x2 σ3) fun r4 σ4 => (
      some (r4, σ4))
    ))
  ))
set_option maxRecDepth 100000 in
set_option maxHeartbeats 4000000 in
theorem T_X6_renames {l : Launch} {Γ : Gm} {x1 : Int32} {x2 : Int32} {σ : St} {r : Int32} {σ' : St} (h : f_X6_renames x1 x2 σ = some (r, σ')) : MetI l yX6_renames cX6_renames 3 .int 6 Γ σ [.ref (Γ.1 0), .int x1, .int x2] r σ' := by
  intro sz
  refine met_in (by decide) (Nat.le_of_ble_eq_true rfl) (fun p e s m args below meth c ls X hsz M hl => ?_)
  subst hsz
  have X : Cx p s m args meth c cX6_renames RX6 3 (some .int) Γ := X
  have hl : lv_has ls 3 [(0, .ref (Γ.1 0)), (1, .int x1), (2, .int x2)] := hl
  unfold f_X6_renames at h
  refine lv_aload_n X.x X.b dX6_renames_0 rfl (lv_at hl 0 rfl) ?_
  refine r_get X M hq_0 (el_0 _ _) rfl inX6 0 (by decide) q188 rfl rfl dX6_renames_1 ?_
  refine lv_iload_n X.x X.b dX6_renames_4 rfl (lv_at hl 1 rfl) ?_
  obtain ⟨r1, σ1, h1, h⟩ := ob_e h
  refine r_runI M (r_callV (As := [.int x1]) X M (lv_sub hl [] rfl) (T_X3_hasHouse h1 _) cal_X3_hasHouse q251 ⟨by decide, by decide⟩ hq_1 (el_1 _ _) rfl rfl rfl (Nat.le_of_ble_eq_true rfl) ⟨Nat.le_refl _, Nat.le_refl _⟩ dX6_renames_5) (fun H locs M => ?_)
  clear h1
  refine lv_if_eq (tgt := 18) X.x X.b dX6_renames_8 (by decide) (fun c7 => ?_) (fun c7 => ?_)
  · have h := it_t c7 h
    refine lv_aload_n X.x X.b dX6_renames_18 rfl (lv_at hl 0 rfl) ?_
    refine lv_iconst (v := 1) X.x X.b dX6_renames_19 (by decide) ?_
    obtain ⟨r2, σ2, h2, h⟩ := ob_e h
    refine r_runI M (r_callV (As := [.int 1]) X M (lv_sub hl [] rfl) (T_X6_failing h2 _) cal_X6_failing q223 ⟨by decide, by decide⟩ hq_0 (el_0 _ _) rfl rfl rfl (Nat.le_of_ble_eq_true rfl) ⟨Nat.le_refl _, Nat.le_refl _⟩ dX6_renames_20) (fun H locs M => ?_)
    clear h2
    exact r_iret X M rfl h dX6_renames_23
  · have h := it_f c7 h
    refine lv_iload_n X.x X.b dX6_renames_11 rfl (lv_at hl 2 rfl) ?_
    obtain ⟨r3, σ3, h3, h⟩ := ob_e h
    refine r_runI M (r_callS (As := [.int x2]) X M (lv_sub hl [] rfl) (T_X6_isPlate h3 _) cal_X6_isPlate q220 ⟨by decide, by decide⟩ rfl rfl (Nat.le_of_ble_eq_true rfl) ⟨Nat.le_refl _, Nat.le_refl _⟩ dX6_renames_12) (fun H locs M => ?_)
    clear h3
    refine lv_if_ne (tgt := 24) X.x X.b dX6_renames_15 (by decide) (fun c6 => ?_) (fun c6 => ?_)
    · have h := it_f c6 h
      refine lv_aload_n X.x X.b dX6_renames_24 rfl (lv_at hl 0 rfl) ?_
      refine r_get X M hq_0 (el_0 _ _) rfl inX6 0 (by decide) q188 rfl rfl dX6_renames_25 ?_
      refine lv_iload_n X.x X.b dX6_renames_28 rfl (lv_at hl 1 rfl) ?_
      refine lv_iload_n X.x X.b dX6_renames_29 rfl (lv_at hl 2 rfl) ?_
      obtain ⟨r4, σ4, h4, h⟩ := ob_e h
      refine r_runI M (r_callV (As := [.int x1, .int x2]) X M (lv_sub hl [] rfl) (T_X3_getsNumber h4 _) cal_X3_getsNumber q362 ⟨by decide, by decide⟩ hq_1 (el_1 _ _) rfl rfl rfl (Nat.le_of_ble_eq_true rfl) ⟨Nat.le_refl _, Nat.le_refl _⟩ dX6_renames_30) (fun H locs M => ?_)
      clear h4
      exact r_iret X M rfl h dX6_renames_33
    · have h := it_t c6 h
      refine lv_aload_n X.x X.b dX6_renames_18 rfl (lv_at hl 0 rfl) ?_
      refine lv_iconst (v := 1) X.x X.b dX6_renames_19 (by decide) ?_
      obtain ⟨r5, σ5, h5, h⟩ := ob_e h
      refine r_runI M (r_callV (As := [.int 1]) X M (lv_sub hl [] rfl) (T_X6_failing h5 _) cal_X6_failing q223 ⟨by decide, by decide⟩ hq_0 (el_0 _ _) rfl rfl rfl (Nat.le_of_ble_eq_true rfl) ⟨Nat.le_refl _, Nat.le_refl _⟩ dX6_renames_20) (fun H locs M => ?_)
      clear h5
      exact r_iret X M rfl h dX6_renames_23
