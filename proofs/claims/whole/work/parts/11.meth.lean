def f_X0_workOut_b6 (k6 : (Nat → Int32 → Int32 → Int32 → Int32 → Int32 → Int32 → St → Rs)) (x1 : Nat) (x2 : Int32) (x3 : Int32) (x4 : Int32) (x5 : Int32) (x6 : Int32) (x7 : Int32) (σ : St) : Rs :=
  if x2 ≤ x7 then (
    if x6 < 0 then (
      some (0, σ)
    ) else (
      if inb x6 60 then (
      some ((σ 8 x6.toNatClampNeg), σ)) else none
    )
  ) else (
    if ¬ (alen x1) = 0 then (
    if (Int32.ofNat (alen x1)) ≤ x7 then (
      if x6 < 0 then (
        some (0, σ)
      ) else (
        if inb x6 60 then (
        some ((σ 8 x6.toNatClampNeg), σ)) else none
      )
    ) else (
      if inb x7 (alen x1) then (
      if (σ x1 x7.toNatClampNeg) < 0 then (
        if (σ x1 x7.toNatClampNeg) = (-33) then (
          if x6 < 0 then (
            k6 x1 x2 x3 x4 x5 x6 (x7 + 1) σ
          ) else (
            if inb x6 60 then (
            if (σ 8 x6.toNatClampNeg) = 0 then (
              if inb x6 60 then (
              ol (st σ 8 x6.toNatClampNeg 1) fun σ17 => (
              k6 x1 x2 x3 x4 x5 x6 (x7 + 1) σ17)) else none
            ) else (
              if inb x6 60 then (
              ol (st σ 8 x6.toNatClampNeg 0) fun σ15 => (
              k6 x1 x2 x3 x4 x5 x6 (x7 + 1) σ15)) else none
            )) else none
          )
        ) else (
          if x6 < 1 then (
            k6 x1 x2 x3 x4 x5 x6 (x7 + 1) σ
          ) else (
            if inb (x6 + (-1)) 60 then (
            if inb ((x6 + (-1)) + 1) 60 then (
            ob (f_X0_joined (-(σ x1 x7.toNatClampNeg)) (σ 8 (x6 + (-1)).toNatClampNeg) (σ 8 ((x6 + (-1)) + 1).toNatClampNeg) σ) fun r9 σ9 => (
            if inb (x6 + (-1)) 60 then (
            ol (st σ9 8 (x6 + (-1)).toNatClampNeg r9) fun σ11 => (
            k6 x1 x2 x3 x4 x5 (x6 + (-1)) (x7 + 1) σ11)) else none)) else none) else none
          )
        )
      ) else (
        if 10000 ≤ (σ x1 x7.toNatClampNeg) then (
          ob (f_X0_named ((σ x1 x7.toNatClampNeg) - 10000) x3 x4 x5 σ) fun r21 σ21 => (
          if inb (imin (x6 + 1) (60 - 1)) 60 then (
          ol (st σ21 8 (imin (x6 + 1) (60 - 1)).toNatClampNeg r21) fun σ23 => (
          k6 x1 x2 x3 x4 x5 (imin (x6 + 1) (60 - 1)) (x7 + 1) σ23)) else none)
        ) else (
          if inb (imin (x6 + 1) (60 - 1)) 60 then (
          ol (st σ 8 (imin (x6 + 1) (60 - 1)).toNatClampNeg (σ x1 x7.toNatClampNeg)) fun σ25 => (
          k6 x1 x2 x3 x4 x5 (imin (x6 + 1) (60 - 1)) (x7 + 1) σ25)) else none
        )
      )) else none
    )) else none
  )
set_option maxRecDepth 100000 in
set_option maxHeartbeats 4000000 in
theorem u_X0_workOut_b6 {l : Launch} {Γ : Gm} {p : Program} {e : Env} {s : State} {m : MethodId} {args : Array Value} {below : List Frame} {meth : Method} {c : Code} {r : Int32} {σ' : St} {k6 : Nat → Int32 → Int32 → Int32 → Int32 → Int32 → Int32 → St → Rs} (X : Cx p s m args meth c cX0_workOut RX0 9 (some .int) Γ) (H6 : ∀ (x1 : Nat) (x2 : Int32) (x3 : Int32) (x4 : Int32) (x5 : Int32) (x6 : Int32) (x7 : Int32) (σ : St) (H : Heap) (locs : List Loc) (ls : Array Slot), k6 x1 x2 x3 x4 x5 x6 x7 σ = some (r, σ') → Mv Γ σ s H locs → lv_has ls 9 [(0, .ref (Γ.1 2)), (1, .ref (Γ.1 x1)), (2, .int x2), (3, .int x3), (4, .int x4), (5, .int x5), (6, .int x6), (7, .int x7)] → W p l e (rmd 2) s m args below meth c H locs 0 0 (MQ below (Qi Γ r σ' s.heap.size) args s 0 0 (Rg Γ s.heap.size)) (F0 m 6 ls [])) (x1 : Nat) (x2 : Int32) (x3 : Int32) (x4 : Int32) (x5 : Int32) (x6 : Int32) (x7 : Int32) (σ : St) (H : Heap) (locs : List Loc) (ls : Array Slot) (h : f_X0_workOut_b6 k6 x1 x2 x3 x4 x5 x6 x7 σ = some (r, σ')) (M : Mv Γ σ s H locs) (hl : lv_has ls 9 [(0, .ref (Γ.1 2)), (1, .ref (Γ.1 x1)), (2, .int x2), (3, .int x3), (4, .int x4), (5, .int x5), (6, .int x6), (7, .int x7)]) : W p l e (rmd 2) s m args below meth c H locs 0 0 (MQ below (Qi Γ r σ' s.heap.size) args s 0 0 (Rg Γ s.heap.size)) (F0 m 6 ls []) := by
  unfold f_X0_workOut_b6 at h
  refine lv_iload X.x X.b dX0_workOut_6 (lv_at hl 7 rfl) ?_
  refine lv_iload_n X.x X.b dX0_workOut_8 rfl (lv_at hl 2 rfl) ?_
  refine lv_icmp_ge (tgt := 164) X.x X.b dX0_workOut_9 (by decide) (fun c29 => ?_) (fun c29 => ?_)
  · have h := it_t c29 h
    refine lv_iload X.x X.b dX0_workOut_164 (lv_at hl 6 rfl) ?_
    refine lv_if_lt (tgt := 179) X.x X.b dX0_workOut_166 (by decide) (fun c2 => ?_) (fun c2 => ?_)
    · have h := it_t c2 h
      refine lv_iconst (v := 0) X.x X.b dX0_workOut_179 (by decide) ?_
      exact r_iret X M rfl h dX0_workOut_180
    · have h := it_f c2 h
      refine lv_aload_n X.x X.b dX0_workOut_169 rfl (lv_at hl 0 rfl) ?_
      refine r_get X M hq_2 (el_2 _ _) rfl inX0 4 (by decide) q39 rfl rfl dX0_workOut_170 ?_
      refine lv_iload X.x X.b dX0_workOut_173 (lv_at hl 6 rfl) ?_
      obtain ⟨c1, h⟩ := it_n h
      refine r_iald (q := 8) (n := 60) X M rfl c1 dX0_workOut_175 ?_
      refine lv_goto (tgt := 180) X.x X.b dX0_workOut_176 (by decide) ?_
      exact r_iret X M rfl h dX0_workOut_180
  · have h := it_f c29 h
    refine lv_iload X.x X.b dX0_workOut_12 (lv_at hl 7 rfl) ?_
    refine lv_aload_n X.x X.b dX0_workOut_14 rfl (lv_at hl 1 rfl) ?_
    obtain ⟨c3, h⟩ := it_n h
    refine r_alen (q := x1) (n := (alen x1)) (v := Int32.ofNat (alen x1)) X M rfl c3 rfl dX0_workOut_15 ?_
    refine lv_icmp_ge (tgt := 164) X.x X.b dX0_workOut_16 (by decide) (fun c28 => ?_) (fun c28 => ?_)
    · have h := it_t c28 h
      refine lv_iload X.x X.b dX0_workOut_164 (lv_at hl 6 rfl) ?_
      refine lv_if_lt (tgt := 179) X.x X.b dX0_workOut_166 (by decide) (fun c5 => ?_) (fun c5 => ?_)
      · have h := it_t c5 h
        refine lv_iconst (v := 0) X.x X.b dX0_workOut_179 (by decide) ?_
        exact r_iret X M rfl h dX0_workOut_180
      · have h := it_f c5 h
        refine lv_aload_n X.x X.b dX0_workOut_169 rfl (lv_at hl 0 rfl) ?_
        refine r_get X M hq_2 (el_2 _ _) rfl inX0 4 (by decide) q39 rfl rfl dX0_workOut_170 ?_
        refine lv_iload X.x X.b dX0_workOut_173 (lv_at hl 6 rfl) ?_
        obtain ⟨c4, h⟩ := it_n h
        refine r_iald (q := 8) (n := 60) X M rfl c4 dX0_workOut_175 ?_
        refine lv_goto (tgt := 180) X.x X.b dX0_workOut_176 (by decide) ?_
        exact r_iret X M rfl h dX0_workOut_180
    · have h := it_f c28 h
      refine lv_aload_n X.x X.b dX0_workOut_19 rfl (lv_at hl 1 rfl) ?_
      refine lv_iload X.x X.b dX0_workOut_20 (lv_at hl 7 rfl) ?_
      obtain ⟨c6, h⟩ := it_n h
      refine r_iald (q := x1) (n := (alen x1)) X M rfl c6 dX0_workOut_22 ?_
      refine lv_istore (lv' := [(8, .int (σ x1 x7.toNatClampNeg)), (0, .ref (Γ.1 2)), (1, .ref (Γ.1 x1)), (2, .int x2), (3, .int x3), (4, .int x4), (5, .int x5), (6, .int x6), (7, .int x7)]) X.x X.b dX0_workOut_23 hl (by decide) rfl (fun ls hl => ?_)
      refine lv_iload X.x X.b dX0_workOut_25 (lv_at hl 0 rfl) ?_
      refine lv_if_lt (tgt := 83) X.x X.b dX0_workOut_27 (by decide) (fun c27 => ?_) (fun c27 => ?_)
      · have h := it_t c27 h
        refine lv_iload X.x X.b dX0_workOut_83 (lv_at hl 0 rfl) ?_
        refine lv_bipush (v := (-33)) X.x X.b dX0_workOut_85 (by decide) ?_
        refine lv_icmp_ne (tgt := 120) X.x X.b dX0_workOut_87 (by decide) (fun c20 => ?_) (fun c20 => ?_)
        · have h := it_f c20 h
          refine lv_iload X.x X.b dX0_workOut_120 (lv_at hl 7 rfl) ?_
          refine lv_iconst (v := 1) X.x X.b dX0_workOut_122 (by decide) ?_
          refine lv_icmp_lt (tgt := 158) X.x X.b dX0_workOut_123 (by decide) (fun c12 => ?_) (fun c12 => ?_)
          · have h := it_t c12 h
            refine lv_iinc (v := (x7 + 1)) (lv' := [(7, .int (x7 + 1)), (8, .int (σ x1 x7.toNatClampNeg)), (0, .ref (Γ.1 2)), (1, .ref (Γ.1 x1)), (2, .int x2), (3, .int x3), (4, .int x4), (5, .int x5), (6, .int x6)]) X.x X.b dX0_workOut_158 hl (k := 8) rfl rfl (by decide) rfl (fun ls hl => ?_)
            refine lv_goto (tgt := 6) X.x X.b dX0_workOut_161 (by decide) ?_
            exact H6 x1 x2 x3 x4 x5 x6 (x7 + 1) σ _ _ _ h M (lv_sub hl [2, 3, 4, 5, 6, 7, 8, 0] rfl)
          · have h := it_f c12 h
            refine lv_iinc (v := (x6 + (-1))) (lv' := [(6, .int (x6 + (-1))), (8, .int (σ x1 x7.toNatClampNeg)), (0, .ref (Γ.1 2)), (1, .ref (Γ.1 x1)), (2, .int x2), (3, .int x3), (4, .int x4), (5, .int x5), (7, .int x7)]) X.x X.b dX0_workOut_126 hl (k := 7) rfl rfl (by decide) rfl (fun ls hl => ?_)
            refine lv_aload_n X.x X.b dX0_workOut_129 rfl (lv_at hl 2 rfl) ?_
            refine r_get X M hq_2 (el_2 _ _) rfl inX0 4 (by decide) q39 rfl rfl dX0_workOut_130 ?_
            refine lv_iload X.x X.b dX0_workOut_133 (lv_at hl 0 rfl) ?_
            refine lv_iload X.x X.b dX0_workOut_135 (lv_at hl 1 rfl) ?_
            refine lv_ineg X.x X.b dX0_workOut_137 ?_
            refine lv_aload_n X.x X.b dX0_workOut_138 rfl (lv_at hl 2 rfl) ?_
            refine r_get X M hq_2 (el_2 _ _) rfl inX0 4 (by decide) q39 rfl rfl dX0_workOut_139 ?_
            refine lv_iload X.x X.b dX0_workOut_142 (lv_at hl 0 rfl) ?_
            obtain ⟨c7, h⟩ := it_n h
            refine r_iald (q := 8) (n := 60) X M rfl c7 dX0_workOut_144 ?_
            refine lv_aload_n X.x X.b dX0_workOut_145 rfl (lv_at hl 2 rfl) ?_
            refine r_get X M hq_2 (el_2 _ _) rfl inX0 4 (by decide) q39 rfl rfl dX0_workOut_146 ?_
            refine lv_iload X.x X.b dX0_workOut_149 (lv_at hl 0 rfl) ?_
            refine lv_iconst (v := 1) X.x X.b dX0_workOut_151 (by decide) ?_
            refine lv_iadd X.x X.b dX0_workOut_152 ?_
            obtain ⟨c8, h⟩ := it_n h
            refine r_iald (q := 8) (n := 60) X M rfl c8 dX0_workOut_153 ?_
            obtain ⟨r9, σ9, h9, h⟩ := ob_e h
            refine r_runI M (r_callS (As := [.int (-(σ x1 x7.toNatClampNeg)), .int (σ 8 (x6 + (-1)).toNatClampNeg), .int (σ 8 ((x6 + (-1)) + 1).toNatClampNeg)]) X M (lv_sub hl [] rfl) (T_X0_joined h9 _) cal_X0_joined q299 ⟨by decide, by decide⟩ rfl rfl (Nat.le_of_ble_eq_true rfl) ⟨Nat.le_refl _, Nat.le_refl _⟩ dX0_workOut_154) (fun H locs M => ?_)
            clear h9
            obtain ⟨c10, h⟩ := it_n h
            obtain ⟨σ11, e11, h⟩ := ol_e h
            refine r_iast (q := 8) (n := 60) X M rfl c10 dX0_workOut_157 (fun H locs M => ?_)
            rw [← e11] at M
            refine lv_iinc (v := (x7 + 1)) (lv' := [(7, .int (x7 + 1)), (6, .int (x6 + (-1))), (8, .int (σ x1 x7.toNatClampNeg)), (0, .ref (Γ.1 2)), (1, .ref (Γ.1 x1)), (2, .int x2), (3, .int x3), (4, .int x4), (5, .int x5)]) X.x X.b dX0_workOut_158 hl (k := 8) rfl rfl (by decide) rfl (fun ls hl => ?_)
            refine lv_goto (tgt := 6) X.x X.b dX0_workOut_161 (by decide) ?_
            exact H6 x1 x2 x3 x4 x5 (x6 + (-1)) (x7 + 1) σ11 _ _ _ h M (lv_sub hl [3, 4, 5, 6, 7, 8, 1, 0] rfl)
        · have h := it_t c20 h
          refine lv_iload X.x X.b dX0_workOut_90 (lv_at hl 7 rfl) ?_
          refine lv_if_lt (tgt := 158) X.x X.b dX0_workOut_92 (by decide) (fun c19 => ?_) (fun c19 => ?_)
          · have h := it_t c19 h
            refine lv_iinc (v := (x7 + 1)) (lv' := [(7, .int (x7 + 1)), (8, .int (σ x1 x7.toNatClampNeg)), (0, .ref (Γ.1 2)), (1, .ref (Γ.1 x1)), (2, .int x2), (3, .int x3), (4, .int x4), (5, .int x5), (6, .int x6)]) X.x X.b dX0_workOut_158 hl (k := 8) rfl rfl (by decide) rfl (fun ls hl => ?_)
            refine lv_goto (tgt := 6) X.x X.b dX0_workOut_161 (by decide) ?_
            exact H6 x1 x2 x3 x4 x5 x6 (x7 + 1) σ _ _ _ h M (lv_sub hl [2, 3, 4, 5, 6, 7, 8, 0] rfl)
          · have h := it_f c19 h
            refine lv_aload_n X.x X.b dX0_workOut_95 rfl (lv_at hl 1 rfl) ?_
            refine r_get X M hq_2 (el_2 _ _) rfl inX0 4 (by decide) q39 rfl rfl dX0_workOut_96 ?_
            refine lv_iload X.x X.b dX0_workOut_99 (lv_at hl 7 rfl) ?_
            refine lv_aload_n X.x X.b dX0_workOut_101 rfl (lv_at hl 1 rfl) ?_
            refine r_get X M hq_2 (el_2 _ _) rfl inX0 4 (by decide) q39 rfl rfl dX0_workOut_102 ?_
            refine lv_iload X.x X.b dX0_workOut_105 (lv_at hl 7 rfl) ?_
            obtain ⟨c13, h⟩ := it_n h
            refine r_iald (q := 8) (n := 60) X M rfl c13 dX0_workOut_107 ?_
            refine lv_if_ne (tgt := 115) X.x X.b dX0_workOut_108 (by decide) (fun c18 => ?_) (fun c18 => ?_)
            · have h := it_f c18 h
              refine lv_iconst (v := 0) X.x X.b dX0_workOut_115 (by decide) ?_
              obtain ⟨c14, h⟩ := it_n h
              obtain ⟨σ15, e15, h⟩ := ol_e h
              refine r_iast (q := 8) (n := 60) X M rfl c14 dX0_workOut_116 (fun H locs M => ?_)
              rw [← e15] at M
              refine lv_goto (tgt := 158) X.x X.b dX0_workOut_117 (by decide) ?_
              refine lv_iinc (v := (x7 + 1)) (lv' := [(7, .int (x7 + 1)), (8, .int (σ x1 x7.toNatClampNeg)), (0, .ref (Γ.1 2)), (1, .ref (Γ.1 x1)), (2, .int x2), (3, .int x3), (4, .int x4), (5, .int x5), (6, .int x6)]) X.x X.b dX0_workOut_158 hl (k := 8) rfl rfl (by decide) rfl (fun ls hl => ?_)
              refine lv_goto (tgt := 6) X.x X.b dX0_workOut_161 (by decide) ?_
              exact H6 x1 x2 x3 x4 x5 x6 (x7 + 1) σ15 _ _ _ h M (lv_sub hl [2, 3, 4, 5, 6, 7, 8, 0] rfl)
            · have h := it_t c18 h
              refine lv_iconst (v := 1) X.x X.b dX0_workOut_111 (by decide) ?_
              refine lv_goto (tgt := 116) X.x X.b dX0_workOut_112 (by decide) ?_
              obtain ⟨c16, h⟩ := it_n h
              obtain ⟨σ17, e17, h⟩ := ol_e h
              refine r_iast (q := 8) (n := 60) X M rfl c16 dX0_workOut_116 (fun H locs M => ?_)
              rw [← e17] at M
              refine lv_goto (tgt := 158) X.x X.b dX0_workOut_117 (by decide) ?_
              refine lv_iinc (v := (x7 + 1)) (lv' := [(7, .int (x7 + 1)), (8, .int (σ x1 x7.toNatClampNeg)), (0, .ref (Γ.1 2)), (1, .ref (Γ.1 x1)), (2, .int x2), (3, .int x3), (4, .int x4), (5, .int x5), (6, .int x6)]) X.x X.b dX0_workOut_158 hl (k := 8) rfl rfl (by decide) rfl (fun ls hl => ?_)
              refine lv_goto (tgt := 6) X.x X.b dX0_workOut_161 (by decide) ?_
              exact H6 x1 x2 x3 x4 x5 x6 (x7 + 1) σ17 _ _ _ h M (lv_sub hl [2, 3, 4, 5, 6, 7, 8, 0] rfl)
      · have h := it_f c27 h
        refine lv_iload X.x X.b dX0_workOut_30 (lv_at hl 7 rfl) ?_
        refine lv_iconst (v := 1) X.x X.b dX0_workOut_32 (by decide) ?_
        refine lv_iadd X.x X.b dX0_workOut_33 ?_
        refine lv_aload_n X.x X.b dX0_workOut_34 rfl (lv_at hl 1 rfl) ?_
        refine r_get X M hq_2 (el_2 _ _) rfl inX0 4 (by decide) q39 rfl rfl dX0_workOut_35 ?_
        refine r_alen (q := 8) (n := 60) (v := 60) X M rfl (by decide) rfl dX0_workOut_38 ?_
        refine lv_iconst (v := 1) X.x X.b dX0_workOut_39 (by decide) ?_
        refine lv_isub X.x X.b dX0_workOut_40 ?_
        refine r_mmin X (lv_sub hl [] rfl) q293 q294 q10 q295 (by decide) (Nat.le_of_ble_eq_true rfl) (by decide) ⟨Nat.le_refl _, Nat.le_refl _⟩ dX0_workOut_41 ?_
        refine lv_istore (lv' := [(6, .int (imin (x6 + 1) (60 - 1))), (8, .int (σ x1 x7.toNatClampNeg)), (0, .ref (Γ.1 2)), (1, .ref (Γ.1 x1)), (2, .int x2), (3, .int x3), (4, .int x4), (5, .int x5), (7, .int x7)]) X.x X.b dX0_workOut_44 hl (by decide) rfl (fun ls hl => ?_)
        refine lv_aload_n X.x X.b dX0_workOut_46 rfl (lv_at hl 2 rfl) ?_
        refine r_get X M hq_2 (el_2 _ _) rfl inX0 4 (by decide) q39 rfl rfl dX0_workOut_47 ?_
        refine lv_iload X.x X.b dX0_workOut_50 (lv_at hl 0 rfl) ?_
        refine lv_iload X.x X.b dX0_workOut_52 (lv_at hl 1 rfl) ?_
        refine lv_sipush (v := 10000) X.x X.b dX0_workOut_54 (by decide) ?_
        refine lv_icmp_ge (tgt := 65) X.x X.b dX0_workOut_57 (by decide) (fun c26 => ?_) (fun c26 => ?_)
        · have h := it_t c26 h
          refine lv_iload X.x X.b dX0_workOut_65 (lv_at hl 1 rfl) ?_
          refine lv_sipush (v := 10000) X.x X.b dX0_workOut_67 (by decide) ?_
          refine lv_isub X.x X.b dX0_workOut_70 ?_
          refine lv_iload_n X.x X.b dX0_workOut_71 rfl (lv_at hl 5 rfl) ?_
          refine lv_iload X.x X.b dX0_workOut_72 (lv_at hl 6 rfl) ?_
          refine lv_iload X.x X.b dX0_workOut_74 (lv_at hl 7 rfl) ?_
          obtain ⟨r21, σ21, h21, h⟩ := ob_e h
          refine r_runI M (r_callS (As := [.int ((σ x1 x7.toNatClampNeg) - 10000), .int x3, .int x4, .int x5]) X M (lv_sub hl [] rfl) (T_X0_named h21 _) cal_X0_named q296 ⟨by decide, by decide⟩ rfl rfl (Nat.le_of_ble_eq_true rfl) ⟨Nat.le_refl _, Nat.le_refl _⟩ dX0_workOut_76) (fun H locs M => ?_)
          clear h21
          obtain ⟨c22, h⟩ := it_n h
          obtain ⟨σ23, e23, h⟩ := ol_e h
          refine r_iast (q := 8) (n := 60) X M rfl c22 dX0_workOut_79 (fun H locs M => ?_)
          rw [← e23] at M
          refine lv_goto (tgt := 158) X.x X.b dX0_workOut_80 (by decide) ?_
          refine lv_iinc (v := (x7 + 1)) (lv' := [(7, .int (x7 + 1)), (6, .int (imin (x6 + 1) (60 - 1))), (8, .int (σ x1 x7.toNatClampNeg)), (0, .ref (Γ.1 2)), (1, .ref (Γ.1 x1)), (2, .int x2), (3, .int x3), (4, .int x4), (5, .int x5)]) X.x X.b dX0_workOut_158 hl (k := 8) rfl rfl (by decide) rfl (fun ls hl => ?_)
          refine lv_goto (tgt := 6) X.x X.b dX0_workOut_161 (by decide) ?_
          exact H6 x1 x2 x3 x4 x5 (imin (x6 + 1) (60 - 1)) (x7 + 1) σ23 _ _ _ h M (lv_sub hl [3, 4, 5, 6, 7, 8, 1, 0] rfl)
        · have h := it_f c26 h
          refine lv_iload X.x X.b dX0_workOut_60 (lv_at hl 1 rfl) ?_
          refine lv_goto (tgt := 79) X.x X.b dX0_workOut_62 (by decide) ?_
          obtain ⟨c24, h⟩ := it_n h
          obtain ⟨σ25, e25, h⟩ := ol_e h
          refine r_iast (q := 8) (n := 60) X M rfl c24 dX0_workOut_79 (fun H locs M => ?_)
          rw [← e25] at M
          refine lv_goto (tgt := 158) X.x X.b dX0_workOut_80 (by decide) ?_
          refine lv_iinc (v := (x7 + 1)) (lv' := [(7, .int (x7 + 1)), (6, .int (imin (x6 + 1) (60 - 1))), (8, .int (σ x1 x7.toNatClampNeg)), (0, .ref (Γ.1 2)), (1, .ref (Γ.1 x1)), (2, .int x2), (3, .int x3), (4, .int x4), (5, .int x5)]) X.x X.b dX0_workOut_158 hl (k := 8) rfl rfl (by decide) rfl (fun ls hl => ?_)
          refine lv_goto (tgt := 6) X.x X.b dX0_workOut_161 (by decide) ?_
          exact H6 x1 x2 x3 x4 x5 (imin (x6 + 1) (60 - 1)) (x7 + 1) σ25 _ _ _ h M (lv_sub hl [3, 4, 5, 6, 7, 8, 1, 0] rfl)
def f_X0_workOut_L6 : Nat → Nat → Int32 → Int32 → Int32 → Int32 → Int32 → Int32 → St → Rs
  | 0 => fun _ _ _ _ _ _ _ _ => none
  | n + 1 => fun x1 x2 x3 x4 x5 x6 x7 σ => f_X0_workOut_b6 (f_X0_workOut_L6 n) x1 x2 x3 x4 x5 x6 x7 σ
theorem u_X0_workOut_L6 {l : Launch} {Γ : Gm} {p : Program} {e : Env} {s : State} {m : MethodId} {args : Array Value} {below : List Frame} {meth : Method} {c : Code} {r : Int32} {σ' : St} (X : Cx p s m args meth c cX0_workOut RX0 9 (some .int) Γ) : ∀ (n : Nat) (x1 : Nat) (x2 : Int32) (x3 : Int32) (x4 : Int32) (x5 : Int32) (x6 : Int32) (x7 : Int32) (σ : St) (H : Heap) (locs : List Loc) (ls : Array Slot), f_X0_workOut_L6 n x1 x2 x3 x4 x5 x6 x7 σ = some (r, σ') → Mv Γ σ s H locs → lv_has ls 9 [(0, .ref (Γ.1 2)), (1, .ref (Γ.1 x1)), (2, .int x2), (3, .int x3), (4, .int x4), (5, .int x5), (6, .int x6), (7, .int x7)] → W p l e (rmd 2) s m args below meth c H locs 0 0 (MQ below (Qi Γ r σ' s.heap.size) args s 0 0 (Rg Γ s.heap.size)) (F0 m 6 ls []) := by
  intro n
  induction n with
  | zero => intro x1 x2 x3 x4 x5 x6 x7 σ H locs ls h; cases h
  | succ n ih => intro x1 x2 x3 x4 x5 x6 x7 σ H locs ls h; exact u_X0_workOut_b6 X  ih x1 x2 x3 x4 x5 x6 x7 σ H locs ls h
/-- StreetNumbers$Laws.workOut([IIIII)I -/
def f_X0_workOut (x1 : Nat) (x2 : Int32) (x3 : Int32) (x4 : Int32) (x5 : Int32) (σ : St) : Rs :=
  f_X0_workOut_L6 LF x1 x2 x3 x4 x5 (-1) 0 σ
set_option maxRecDepth 100000 in
set_option maxHeartbeats 4000000 in
theorem T_X0_workOut {l : Launch} {Γ : Gm} {x1 : Nat} {x2 : Int32} {x3 : Int32} {x4 : Int32} {x5 : Int32} {σ : St} {r : Int32} {σ' : St} (h : f_X0_workOut x1 x2 x3 x4 x5 σ = some (r, σ')) : MetI l yX0_workOut cX0_workOut 9 .int 2 Γ σ [.ref (Γ.1 2), .ref (Γ.1 x1), .int x2, .int x3, .int x4, .int x5] r σ' := by
  intro sz
  refine met_in (by decide) (Nat.le_of_ble_eq_true rfl) (fun p e s m args below meth c ls X hsz M hl => ?_)
  subst hsz
  have X : Cx p s m args meth c cX0_workOut RX0 9 (some .int) Γ := X
  have hl : lv_has ls 9 [(0, .ref (Γ.1 2)), (1, .ref (Γ.1 x1)), (2, .int x2), (3, .int x3), (4, .int x4), (5, .int x5)] := hl
  unfold f_X0_workOut at h
  refine lv_iconst (v := (-1)) X.x X.b dX0_workOut_0 (by decide) ?_
  refine lv_istore (lv' := [(6, .int (-1)), (0, .ref (Γ.1 2)), (1, .ref (Γ.1 x1)), (2, .int x2), (3, .int x3), (4, .int x4), (5, .int x5)]) X.x X.b dX0_workOut_1 hl (by decide) rfl (fun ls hl => ?_)
  refine lv_iconst (v := 0) X.x X.b dX0_workOut_3 (by decide) ?_
  refine lv_istore (lv' := [(7, .int 0), (6, .int (-1)), (0, .ref (Γ.1 2)), (1, .ref (Γ.1 x1)), (2, .int x2), (3, .int x3), (4, .int x4), (5, .int x5)]) X.x X.b dX0_workOut_4 hl (by decide) rfl (fun ls hl => ?_)
  exact u_X0_workOut_L6 X LF x1 x2 x3 x4 x5 (-1) 0 σ _ _ _ h M (lv_sub hl [2, 3, 4, 5, 6, 7, 1, 0] rfl)
/-- StreetNumbers.held(III)I -/
def f_X6_held (x0 : Int32) (x1 : Int32) (x2 : Int32) (σ : St) : Rs :=
  some ((imax x1 (imin x2 x0)), σ)
set_option maxRecDepth 100000 in
set_option maxHeartbeats 4000000 in
theorem T_X6_held {l : Launch} {Γ : Gm} {x0 : Int32} {x1 : Int32} {x2 : Int32} {σ : St} {r : Int32} {σ' : St} (h : f_X6_held x0 x1 x2 σ = some (r, σ')) : MetI l yX6_held cX6_held 3 .int 2 Γ σ [.int x0, .int x1, .int x2] r σ' := by
  intro sz
  refine met_in (by decide) (Nat.le_of_ble_eq_true rfl) (fun p e s m args below meth c ls X hsz M hl => ?_)
  subst hsz
  have X : Cx p s m args meth c cX6_held RX6 3 (some .int) Γ := X
  have hl : lv_has ls 3 [(0, .int x0), (1, .int x1), (2, .int x2)] := hl
  unfold f_X6_held at h
  refine lv_iload_n X.x X.b dX6_held_0 rfl (lv_at hl 1 rfl) ?_
  refine lv_iload_n X.x X.b dX6_held_1 rfl (lv_at hl 2 rfl) ?_
  refine lv_iload_n X.x X.b dX6_held_2 rfl (lv_at hl 0 rfl) ?_
  refine r_mmin X (lv_sub hl [] rfl) q305 q294 q10 q295 (by decide) (Nat.le_of_ble_eq_true rfl) (by decide) ⟨Nat.le_refl _, Nat.le_refl _⟩ dX6_held_3 ?_
  refine r_mmax X (lv_sub hl [] rfl) q306 q307 q10 q308 (by decide) (Nat.le_of_ble_eq_true rfl) (by decide) ⟨Nat.le_refl _, Nat.le_refl _⟩ dX6_held_6 ?_
  exact r_iret X M rfl h dX6_held_9
def f_X0_give_b42 (x1 : Int32) (y0 : Int32) (σ : St) : Rs :=
  if x1 = 0 then (
    ob (f_X6_held y0 0 999 σ) fun r2 σ2 => (
    some (r2, σ2))
  ) else (
    ob (f_X6_held y0 1 99 σ) fun r1 σ1 => (
    some (r1, σ1))
  )
set_option maxRecDepth 100000 in
set_option maxHeartbeats 4000000 in
theorem u_X0_give_b42 {l : Launch} {Γ : Gm} {p : Program} {e : Env} {s : State} {m : MethodId} {args : Array Value} {below : List Frame} {meth : Method} {c : Code} {r : Int32} {σ' : St} (X : Cx p s m args meth c cX0_give RX0 6 (some .int) Γ) (x1 : Int32) (y0 : Int32) (σ : St) (H : Heap) (locs : List Loc) (ls : Array Slot) (h : f_X0_give_b42 x1 y0 σ = some (r, σ')) (M : Mv Γ σ s H locs) (hl : lv_has ls 6 [(1, .int x1)]) : W p l e (rmd 3) s m args below meth c H locs 0 0 (MQ below (Qi Γ r σ' s.heap.size) args s 0 0 (Rg Γ s.heap.size)) (F0 m 42 ls [.int y0]) := by
  unfold f_X0_give_b42 at h
  refine lv_istore (lv' := [(5, .int y0), (1, .int x1)]) X.x X.b dX0_give_42 hl (by decide) rfl (fun ls hl => ?_)
  refine lv_iload_n X.x X.b dX0_give_44 rfl (lv_at hl 1 rfl) ?_
  refine lv_if_ne (tgt := 60) X.x X.b dX0_give_45 (by decide) (fun c3 => ?_) (fun c3 => ?_)
  · have h := it_f c3 h
    refine lv_iload X.x X.b dX0_give_60 (lv_at hl 0 rfl) ?_
    refine lv_iconst (v := 1) X.x X.b dX0_give_62 (by decide) ?_
    refine lv_bipush (v := 99) X.x X.b dX0_give_63 (by decide) ?_
    obtain ⟨r1, σ1, h1, h⟩ := ob_e h
    refine r_runI M (r_callSN (As := [.int y0, .int 1, .int 99]) (host := "StreetNumbers") X M (lv_sub hl [] rfl) (T_X6_held h1 _) cal_X6_held nst_X0_50 ⟨by decide, by decide⟩ rfl rfl (Nat.le_of_ble_eq_true rfl) ⟨Nat.le_refl _, Nat.le_refl _⟩ dX0_give_65) (fun H locs M => ?_)
    clear h1
    exact r_iret X M rfl h dX0_give_68
  · have h := it_t c3 h
    refine lv_iload X.x X.b dX0_give_48 (lv_at hl 0 rfl) ?_
    refine lv_iconst (v := 0) X.x X.b dX0_give_50 (by decide) ?_
    refine lv_sipush (v := 999) X.x X.b dX0_give_51 (by decide) ?_
    obtain ⟨r2, σ2, h2, h⟩ := ob_e h
    refine r_runI M (r_callSN (As := [.int y0, .int 0, .int 999]) (host := "StreetNumbers") X M (lv_sub hl [] rfl) (T_X6_held h2 _) cal_X6_held nst_X0_50 ⟨by decide, by decide⟩ rfl rfl (Nat.le_of_ble_eq_true rfl) ⟨Nat.le_refl _, Nat.le_refl _⟩ dX0_give_54) (fun H locs M => ?_)
    clear h2
    refine lv_goto (tgt := 68) X.x X.b dX0_give_57 (by decide) ?_
    exact r_iret X M rfl h dX0_give_68
/-- StreetNumbers$Laws.give(IIII)I -/
def f_X0_give (x1 : Int32) (x2 : Int32) (x3 : Int32) (x4 : Int32) (σ : St) : Rs :=
  ob (f_X6_isUse x1 σ) fun r1 σ1 => (
  if r1 = 0 then (
    some (0, σ1)
  ) else (
    if inb x1 2 then (
    if (σ1 7 x1.toNatClampNeg) = 0 then (
      f_X0_give_b42 x1 x2 σ1
    ) else (
      if inb x1 2 then (
      if inb x1 2 then (
      ob (f_X0_workOut (5 + x1.toNatClampNeg) (σ1 7 x1.toNatClampNeg) x2 x3 x4 σ1) fun r5 σ5 => (
      f_X0_give_b42 x1 r5 σ5)) else none) else none
    )) else none
  ))
set_option maxRecDepth 100000 in
set_option maxHeartbeats 4000000 in
theorem T_X0_give {l : Launch} {Γ : Gm} {x1 : Int32} {x2 : Int32} {x3 : Int32} {x4 : Int32} {σ : St} {r : Int32} {σ' : St} (h : f_X0_give x1 x2 x3 x4 σ = some (r, σ')) : MetI l yX0_give cX0_give 6 .int 3 Γ σ [.ref (Γ.1 2), .int x1, .int x2, .int x3, .int x4] r σ' := by
  intro sz
  refine met_in (by decide) (Nat.le_of_ble_eq_true rfl) (fun p e s m args below meth c ls X hsz M hl => ?_)
  subst hsz
  have X : Cx p s m args meth c cX0_give RX0 6 (some .int) Γ := X
  have hl : lv_has ls 6 [(0, .ref (Γ.1 2)), (1, .int x1), (2, .int x2), (3, .int x3), (4, .int x4)] := hl
  unfold f_X0_give at h
  refine lv_iload_n X.x X.b dX0_give_0 rfl (lv_at hl 1 rfl) ?_
  obtain ⟨r1, σ1, h1, h⟩ := ob_e h
  refine r_runI M (r_callSN (As := [.int x1]) (host := "StreetNumbers") X M (lv_sub hl [] rfl) (T_X6_isUse h1 _) cal_X6_isUse nst_X0_42 ⟨by decide, by decide⟩ rfl rfl (Nat.le_of_ble_eq_true rfl) ⟨Nat.le_refl _, Nat.le_refl _⟩ dX0_give_1) (fun H locs M => ?_)
  clear h1
  refine lv_if_ne (tgt := 9) X.x X.b dX0_give_4 (by decide) (fun c7 => ?_) (fun c7 => ?_)
  · have h := it_f c7 h
    refine lv_aload_n X.x X.b dX0_give_9 rfl (lv_at hl 0 rfl) ?_
    refine r_get X M hq_2 (el_2 _ _) rfl inX0 3 (by decide) q38 rfl rfl dX0_give_10 ?_
    refine lv_iload_n X.x X.b dX0_give_13 rfl (lv_at hl 1 rfl) ?_
    obtain ⟨c2, h⟩ := it_n h
    refine r_iald (q := 7) (n := 2) X M rfl c2 dX0_give_14 ?_
    refine lv_if_ne (tgt := 22) X.x X.b dX0_give_15 (by decide) (fun c6 => ?_) (fun c6 => ?_)
    · have h := it_f c6 h
      refine lv_aload_n X.x X.b dX0_give_22 rfl (lv_at hl 0 rfl) ?_
      refine lv_aload_n X.x X.b dX0_give_23 rfl (lv_at hl 0 rfl) ?_
      refine r_get X M hq_2 (el_2 _ _) rfl inX0 2 (by decide) q37 rfl rfl dX0_give_24 ?_
      refine lv_iload_n X.x X.b dX0_give_27 rfl (lv_at hl 1 rfl) ?_
      obtain ⟨c3, h⟩ := it_n h
      refine r_aald X M hq_4 (el_4 _ _) c3 dX0_give_28 ?_
      refine lv_aload_n X.x X.b dX0_give_29 rfl (lv_at hl 0 rfl) ?_
      refine r_get X M hq_2 (el_2 _ _) rfl inX0 3 (by decide) q38 rfl rfl dX0_give_30 ?_
      refine lv_iload_n X.x X.b dX0_give_33 rfl (lv_at hl 1 rfl) ?_
      obtain ⟨c4, h⟩ := it_n h
      refine r_iald (q := 7) (n := 2) X M rfl c4 dX0_give_34 ?_
      refine lv_iload_n X.x X.b dX0_give_35 rfl (lv_at hl 2 rfl) ?_
      refine lv_iload_n X.x X.b dX0_give_36 rfl (lv_at hl 3 rfl) ?_
      refine lv_iload X.x X.b dX0_give_37 (lv_at hl 4 rfl) ?_
      obtain ⟨r5, σ5, h5, h⟩ := ob_e h
      refine r_runI M (r_callV (As := [.ref (Γ.1 (5 + x1.toNatClampNeg)), .int (σ1 7 x1.toNatClampNeg), .int x2, .int x3, .int x4]) X M (lv_sub hl [] rfl) (T_X0_workOut h5 _) cal_X0_workOut q289 ⟨by decide, by decide⟩ hq_2 (el_2 _ _) rfl rfl rfl (Nat.le_of_ble_eq_true rfl) ⟨Nat.le_refl _, Nat.le_refl _⟩ dX0_give_39) (fun H locs M => ?_)
      clear h5
      exact u_X0_give_b42 X x1 r5 σ5 _ _ _ h M (lv_sub hl [1] rfl)
    · have h := it_t c6 h
      refine lv_iload_n X.x X.b dX0_give_18 rfl (lv_at hl 2 rfl) ?_
      refine lv_goto (tgt := 42) X.x X.b dX0_give_19 (by decide) ?_
      exact u_X0_give_b42 X x1 x2 σ1 _ _ _ h M (lv_sub hl [1] rfl)
  · have h := it_t c7 h
    refine lv_iconst (v := 0) X.x X.b dX0_give_7 (by decide) ?_
    exact r_iret X M rfl h dX0_give_8
/-- StreetNumbers$Street.harmTo(II)I -/
def f_X3_harmTo (x1 : Int32) (x2 : Int32) (σ : St) : Rs :=
  ob (f_X3_plate x1 σ) fun r1 σ1 => (
  if x2 = r1 then (
    some (0, σ1)
  ) else (
    ob (f_X3_minds x1 x2 σ1) fun r2 σ2 => (
    ob (f_X0_give 0 r2 (irm (σ2 1 2) 7) r1 σ2) fun r3 σ3 => (
    some (r3, σ3)))
  ))
set_option maxRecDepth 100000 in
set_option maxHeartbeats 4000000 in
theorem T_X3_harmTo {l : Launch} {Γ : Gm} {x1 : Int32} {x2 : Int32} {σ : St} {r : Int32} {σ' : St} (h : f_X3_harmTo x1 x2 σ = some (r, σ')) : MetI l yX3_harmTo cX3_harmTo 4 .int 4 Γ σ [.ref (Γ.1 1), .int x1, .int x2] r σ' := by
  intro sz
  refine met_in (by decide) (Nat.le_of_ble_eq_true rfl) (fun p e s m args below meth c ls X hsz M hl => ?_)
  subst hsz
  have X : Cx p s m args meth c cX3_harmTo RX3 4 (some .int) Γ := X
  have hl : lv_has ls 4 [(0, .ref (Γ.1 1)), (1, .int x1), (2, .int x2)] := hl
  unfold f_X3_harmTo at h
  refine lv_aload_n X.x X.b dX3_harmTo_0 rfl (lv_at hl 0 rfl) ?_
  refine lv_iload_n X.x X.b dX3_harmTo_1 rfl (lv_at hl 1 rfl) ?_
  obtain ⟨r1, σ1, h1, h⟩ := ob_e h
  refine r_runI M (r_callV (As := [.int x1]) X M (lv_sub hl [] rfl) (T_X3_plate h1 _) cal_X3_plate q344 ⟨by decide, by decide⟩ hq_1 (el_1 _ _) rfl rfl rfl (Nat.le_of_ble_eq_true rfl) ⟨Nat.le_refl _, Nat.le_refl _⟩ dX3_harmTo_2) (fun H locs M => ?_)
  clear h1
  refine lv_istore_n (lv' := [(3, .int r1), (0, .ref (Γ.1 1)), (1, .int x1), (2, .int x2)]) X.x X.b dX3_harmTo_5 rfl hl (by decide) rfl (fun ls hl => ?_)
  refine lv_iload_n X.x X.b dX3_harmTo_6 rfl (lv_at hl 3 rfl) ?_
  refine lv_iload_n X.x X.b dX3_harmTo_7 rfl (lv_at hl 0 rfl) ?_
  refine lv_icmp_ne (tgt := 15) X.x X.b dX3_harmTo_8 (by decide) (fun c4 => ?_) (fun c4 => ?_)
  · have h := it_f c4 h
    refine lv_aload_n X.x X.b dX3_harmTo_15 rfl (lv_at hl 1 rfl) ?_
    refine r_get X M hq_1 (el_1 _ _) rfl inX3 0 (by decide) q52 rfl rfl dX3_harmTo_16 ?_
    refine lv_iconst (v := 0) X.x X.b dX3_harmTo_19 (by decide) ?_
    refine lv_aload_n X.x X.b dX3_harmTo_20 rfl (lv_at hl 1 rfl) ?_
    refine lv_iload_n X.x X.b dX3_harmTo_21 rfl (lv_at hl 2 rfl) ?_
    refine lv_iload_n X.x X.b dX3_harmTo_22 rfl (lv_at hl 3 rfl) ?_
    obtain ⟨r2, σ2, h2, h⟩ := ob_e h
    refine r_runI M (r_callV (As := [.int x1, .int x2]) X M (lv_sub hl [] rfl) (T_X3_minds h2 _) cal_X3_minds q345 ⟨by decide, by decide⟩ hq_1 (el_1 _ _) rfl rfl rfl (Nat.le_of_ble_eq_true rfl) ⟨Nat.le_refl _, Nat.le_refl _⟩ dX3_harmTo_23) (fun H locs M => ?_)
    clear h2
    refine lv_aload_n X.x X.b dX3_harmTo_26 rfl (lv_at hl 1 rfl) ?_
    refine r_get X M hq_1 (el_1 _ _) rfl inX3 2 (by decide) q57 rfl rfl dX3_harmTo_27 ?_
    refine lv_bipush (v := 7) X.x X.b dX3_harmTo_30 (by decide) ?_
    refine r_irem X dX3_harmTo_32 (by decide) ?_
    refine lv_iload_n X.x X.b dX3_harmTo_33 rfl (lv_at hl 0 rfl) ?_
    obtain ⟨r3, σ3, h3, h⟩ := ob_e h
    refine r_runI M (r_callV (As := [.int 0, .int r2, .int (irm (σ2 1 2) 7), .int r1]) X M (lv_sub hl [] rfl) (T_X0_give h3 _) cal_X0_give q282 ⟨by decide, by decide⟩ hq_2 (el_2 _ _) rfl rfl rfl (Nat.le_of_ble_eq_true rfl) ⟨Nat.le_refl _, Nat.le_refl _⟩ dX3_harmTo_34) (fun H locs M => ?_)
    clear h3
    exact r_iret X M rfl h dX3_harmTo_37
  · have h := it_t c4 h
    refine lv_iconst (v := 0) X.x X.b dX3_harmTo_11 (by decide) ?_
    refine lv_goto (tgt := 37) X.x X.b dX3_harmTo_12 (by decide) ?_
    exact r_iret X M rfl h dX3_harmTo_37
/-- StreetNumbers$Sheets.holds(III)Z -/
def f_X2_holds (x1 : Int32) (x2 : Int32) (x3 : Int32) (σ : St) : Rs :=
  if x3 < 0 then (
    some (0, σ)
  ) else (
    if x2 < 0 then (
      some (0, σ)
    ) else (
      ob (f_X2_size x1 σ) fun r1 σ1 => (
      if r1 < x3 then (
        some (0, σ1)
      ) else (
        ob (f_X2_size x1 σ1) fun r2 σ2 => (
        if (r2 - x3) < x2 then (
          some (0, σ2)
        ) else (
          some (1, σ2)
        ))
      ))
    )
  )
set_option maxRecDepth 100000 in
set_option maxHeartbeats 4000000 in
theorem T_X2_holds {l : Launch} {Γ : Gm} {x1 : Int32} {x2 : Int32} {x3 : Int32} {σ : St} {r : Int32} {σ' : St} (h : f_X2_holds x1 x2 x3 σ = some (r, σ')) : MetI l yX2_holds cX2_holds 4 .boolean 3 Γ σ [.ref (Γ.1 57), .int x1, .int x2, .int x3] r σ' := by
  intro sz
  refine met_in (by decide) (Nat.le_of_ble_eq_true rfl) (fun p e s m args below meth c ls X hsz M hl => ?_)
  subst hsz
  have X : Cx p s m args meth c cX2_holds RX2 4 (some .boolean) Γ := X
  have hl : lv_has ls 4 [(0, .ref (Γ.1 57)), (1, .int x1), (2, .int x2), (3, .int x3)] := hl
  unfold f_X2_holds at h
  refine lv_iload_n X.x X.b dX2_holds_0 rfl (lv_at hl 3 rfl) ?_
  refine lv_if_lt (tgt := 32) X.x X.b dX2_holds_1 (by decide) (fun c6 => ?_) (fun c6 => ?_)
  · have h := it_t c6 h
    refine lv_iconst (v := 0) X.x X.b dX2_holds_32 (by decide) ?_
    exact r_iret X M rfl h dX2_holds_33
  · have h := it_f c6 h
    refine lv_iload_n X.x X.b dX2_holds_4 rfl (lv_at hl 2 rfl) ?_
    refine lv_if_lt (tgt := 32) X.x X.b dX2_holds_5 (by decide) (fun c5 => ?_) (fun c5 => ?_)
    · have h := it_t c5 h
      refine lv_iconst (v := 0) X.x X.b dX2_holds_32 (by decide) ?_
      exact r_iret X M rfl h dX2_holds_33
    · have h := it_f c5 h
      refine lv_iload_n X.x X.b dX2_holds_8 rfl (lv_at hl 3 rfl) ?_
      refine lv_aload_n X.x X.b dX2_holds_9 rfl (lv_at hl 0 rfl) ?_
      refine lv_iload_n X.x X.b dX2_holds_10 rfl (lv_at hl 1 rfl) ?_
      obtain ⟨r1, σ1, h1, h⟩ := ob_e h
      refine r_runI M (r_callV (As := [.int x1]) X M (lv_sub hl [] rfl) (T_X2_size h1 _) cal_X2_size q570 ⟨by decide, by decide⟩ hq_57 (el_57 _ _) rfl rfl rfl (Nat.le_of_ble_eq_true rfl) ⟨Nat.le_refl _, Nat.le_refl _⟩ dX2_holds_11) (fun H locs M => ?_)
      clear h1
      refine lv_icmp_gt (tgt := 32) X.x X.b dX2_holds_14 (by decide) (fun c4 => ?_) (fun c4 => ?_)
      · have h := it_t c4 h
        refine lv_iconst (v := 0) X.x X.b dX2_holds_32 (by decide) ?_
        exact r_iret X M rfl h dX2_holds_33
      · have h := it_f c4 h
        refine lv_iload_n X.x X.b dX2_holds_17 rfl (lv_at hl 2 rfl) ?_
        refine lv_aload_n X.x X.b dX2_holds_18 rfl (lv_at hl 0 rfl) ?_
        refine lv_iload_n X.x X.b dX2_holds_19 rfl (lv_at hl 1 rfl) ?_
        obtain ⟨r2, σ2, h2, h⟩ := ob_e h
        refine r_runI M (r_callV (As := [.int x1]) X M (lv_sub hl [] rfl) (T_X2_size h2 _) cal_X2_size q570 ⟨by decide, by decide⟩ hq_57 (el_57 _ _) rfl rfl rfl (Nat.le_of_ble_eq_true rfl) ⟨Nat.le_refl _, Nat.le_refl _⟩ dX2_holds_20) (fun H locs M => ?_)
        clear h2
        refine lv_iload_n X.x X.b dX2_holds_23 rfl (lv_at hl 3 rfl) ?_
        refine lv_isub X.x X.b dX2_holds_24 ?_
        refine lv_icmp_gt (tgt := 32) X.x X.b dX2_holds_25 (by decide) (fun c3 => ?_) (fun c3 => ?_)
        · have h := it_t c3 h
          refine lv_iconst (v := 0) X.x X.b dX2_holds_32 (by decide) ?_
          exact r_iret X M rfl h dX2_holds_33
        · have h := it_f c3 h
          refine lv_iconst (v := 1) X.x X.b dX2_holds_28 (by decide) ?_
          refine lv_goto (tgt := 33) X.x X.b dX2_holds_29 (by decide) ?_
          exact r_iret X M rfl h dX2_holds_33
/-- StreetNumbers$Sheets.number(II)I -/
def f_X2_number (x1 : Int32) (x2 : Int32) (σ : St) : Rs :=
  ob (f_X2_holds x1 x2 1 σ) fun r1 σ1 => (
  if r1 = 0 then (
    some (0, σ1)
  ) else (
    if inb x1 4 then (
    if inb x2 24 then (
    some ((σ1 (59 + x1.toNatClampNeg) x2.toNatClampNeg), σ1)) else none) else none
  ))
set_option maxRecDepth 100000 in
set_option maxHeartbeats 4000000 in
theorem T_X2_number {l : Launch} {Γ : Gm} {x1 : Int32} {x2 : Int32} {σ : St} {r : Int32} {σ' : St} (h : f_X2_number x1 x2 σ = some (r, σ')) : MetI l yX2_number cX2_number 3 .int 4 Γ σ [.ref (Γ.1 57), .int x1, .int x2] r σ' := by
  intro sz
  refine met_in (by decide) (Nat.le_of_ble_eq_true rfl) (fun p e s m args below meth c ls X hsz M hl => ?_)
  subst hsz
  have X : Cx p s m args meth c cX2_number RX2 3 (some .int) Γ := X
  have hl : lv_has ls 3 [(0, .ref (Γ.1 57)), (1, .int x1), (2, .int x2)] := hl
  unfold f_X2_number at h
  refine lv_aload_n X.x X.b dX2_number_0 rfl (lv_at hl 0 rfl) ?_
  refine lv_iload_n X.x X.b dX2_number_1 rfl (lv_at hl 1 rfl) ?_
  refine lv_iload_n X.x X.b dX2_number_2 rfl (lv_at hl 2 rfl) ?_
  refine lv_iconst (v := 1) X.x X.b dX2_number_3 (by decide) ?_
  obtain ⟨r1, σ1, h1, h⟩ := ob_e h
  refine r_runI M (r_callV (As := [.int x1, .int x2, .int 1]) X M (lv_sub hl [] rfl) (T_X2_holds h1 _) cal_X2_holds q566 ⟨by decide, by decide⟩ hq_57 (el_57 _ _) rfl rfl rfl (Nat.le_of_ble_eq_true rfl) ⟨Nat.le_refl _, Nat.le_refl _⟩ dX2_number_4) (fun H locs M => ?_)
  clear h1
  refine lv_if_eq (tgt := 21) X.x X.b dX2_number_7 (by decide) (fun c4 => ?_) (fun c4 => ?_)
  · have h := it_t c4 h
    refine lv_iconst (v := 0) X.x X.b dX2_number_21 (by decide) ?_
    exact r_iret X M rfl h dX2_number_22
  · have h := it_f c4 h
    refine lv_aload_n X.x X.b dX2_number_10 rfl (lv_at hl 0 rfl) ?_
    refine r_get X M hq_57 (el_57 _ _) rfl inX2 0 (by decide) q178 rfl rfl dX2_number_11 ?_
    refine lv_iload_n X.x X.b dX2_number_14 rfl (lv_at hl 1 rfl) ?_
    obtain ⟨c2, h⟩ := it_n h
    refine r_aald X M hq_58 (el_58 _ _) c2 dX2_number_15 ?_
    refine lv_iload_n X.x X.b dX2_number_16 rfl (lv_at hl 2 rfl) ?_
    obtain ⟨c3, h⟩ := it_n h
    refine r_iald (q := (59 + x1.toNatClampNeg)) (n := 24) X M (al_58 _ (in_lt c2)) c3 dX2_number_17 ?_
    refine lv_goto (tgt := 22) X.x X.b dX2_number_18 (by decide) ?_
    exact r_iret X M rfl h dX2_number_22
def f_X6_tellsHarmOfGap_b25 (k25 : (Int32 → Int32 → Int32 → Int32 → St → Rs)) (x1 : Int32) (x2 : Int32) (x3 : Int32) (x4 : Int32) (σ : St) : Rs :=
  if x3 ≤ x4 then (
    some (1, σ)
  ) else (
    ob (f_X3_houseAt x4 σ) fun r1 σ1 => (
    ob (f_X3_harmTo r1 (x2 * (x4 + 1)) σ1) fun r2 σ2 => (
    ob (f_X2_number x1 x4 σ2) fun r3 σ3 => (
    if r3 = r2 then (
      k25 x1 x2 x3 (x4 + 1) σ3
    ) else (
      some (0, σ3)
    ))))
  )
set_option maxRecDepth 100000 in
set_option maxHeartbeats 4000000 in
theorem u_X6_tellsHarmOfGap_b25 {l : Launch} {Γ : Gm} {p : Program} {e : Env} {s : State} {m : MethodId} {args : Array Value} {below : List Frame} {meth : Method} {c : Code} {r : Int32} {σ' : St} {k25 : Int32 → Int32 → Int32 → Int32 → St → Rs} (X : Cx p s m args meth c cX6_tellsHarmOfGap RX6 6 (some .boolean) Γ) (H25 : ∀ (x1 : Int32) (x2 : Int32) (x3 : Int32) (x4 : Int32) (σ : St) (H : Heap) (locs : List Loc) (ls : Array Slot), k25 x1 x2 x3 x4 σ = some (r, σ') → Mv Γ σ s H locs → lv_has ls 6 [(0, .ref (Γ.1 0)), (1, .int x1), (2, .int x2), (3, .int x3), (4, .int x4)] → W p l e (rmd 5) s m args below meth c H locs 0 0 (MQ below (Qi Γ r σ' s.heap.size) args s 0 0 (Rg Γ s.heap.size)) (F0 m 25 ls [])) (x1 : Int32) (x2 : Int32) (x3 : Int32) (x4 : Int32) (σ : St) (H : Heap) (locs : List Loc) (ls : Array Slot) (h : f_X6_tellsHarmOfGap_b25 k25 x1 x2 x3 x4 σ = some (r, σ')) (M : Mv Γ σ s H locs) (hl : lv_has ls 6 [(0, .ref (Γ.1 0)), (1, .int x1), (2, .int x2), (3, .int x3), (4, .int x4)]) : W p l e (rmd 5) s m args below meth c H locs 0 0 (MQ below (Qi Γ r σ' s.heap.size) args s 0 0 (Rg Γ s.heap.size)) (F0 m 25 ls []) := by
  unfold f_X6_tellsHarmOfGap_b25 at h
  refine lv_iload X.x X.b dX6_tellsHarmOfGap_25 (lv_at hl 4 rfl) ?_
  refine lv_iload_n X.x X.b dX6_tellsHarmOfGap_27 rfl (lv_at hl 3 rfl) ?_
  refine lv_icmp_ge (tgt := 78) X.x X.b dX6_tellsHarmOfGap_28 (by decide) (fun c5 => ?_) (fun c5 => ?_)
  · have h := it_t c5 h
    refine lv_iconst (v := 1) X.x X.b dX6_tellsHarmOfGap_78 (by decide) ?_
    exact r_iret X M rfl h dX6_tellsHarmOfGap_79
  · have h := it_f c5 h
    refine lv_aload_n X.x X.b dX6_tellsHarmOfGap_31 rfl (lv_at hl 0 rfl) ?_
    refine r_get X M hq_0 (el_0 _ _) rfl inX6 0 (by decide) q188 rfl rfl dX6_tellsHarmOfGap_32 ?_
    refine lv_aload_n X.x X.b dX6_tellsHarmOfGap_35 rfl (lv_at hl 0 rfl) ?_
    refine r_get X M hq_0 (el_0 _ _) rfl inX6 0 (by decide) q188 rfl rfl dX6_tellsHarmOfGap_36 ?_
    refine lv_iload X.x X.b dX6_tellsHarmOfGap_39 (lv_at hl 4 rfl) ?_
    obtain ⟨r1, σ1, h1, h⟩ := ob_e h
    refine r_runI M (r_callV (As := [.int x4]) X M (lv_sub hl [] rfl) (T_X3_houseAt h1 _) cal_X3_houseAt q318 ⟨by decide, by decide⟩ hq_1 (el_1 _ _) rfl rfl rfl (Nat.le_of_ble_eq_true rfl) ⟨Nat.le_refl _, Nat.le_refl _⟩ dX6_tellsHarmOfGap_41) (fun H locs M => ?_)
    clear h1
    refine lv_iload_n X.x X.b dX6_tellsHarmOfGap_44 rfl (lv_at hl 2 rfl) ?_
    refine lv_iload X.x X.b dX6_tellsHarmOfGap_45 (lv_at hl 4 rfl) ?_
    refine lv_iconst (v := 1) X.x X.b dX6_tellsHarmOfGap_47 (by decide) ?_
    refine lv_iadd X.x X.b dX6_tellsHarmOfGap_48 ?_
    refine lv_imul X.x X.b dX6_tellsHarmOfGap_49 ?_
    obtain ⟨r2, σ2, h2, h⟩ := ob_e h
    refine r_runI M (r_callV (As := [.int r1, .int (x2 * (x4 + 1))]) X M (lv_sub hl [] rfl) (T_X3_harmTo h2 _) cal_X3_harmTo q340 ⟨by decide, by decide⟩ hq_1 (el_1 _ _) rfl rfl rfl (Nat.le_of_ble_eq_true rfl) ⟨Nat.le_refl _, Nat.le_refl _⟩ dX6_tellsHarmOfGap_50) (fun H locs M => ?_)
    clear h2
    refine lv_istore (lv' := [(5, .int r2), (0, .ref (Γ.1 0)), (1, .int x1), (2, .int x2), (3, .int x3), (4, .int x4)]) X.x X.b dX6_tellsHarmOfGap_53 hl (by decide) rfl (fun ls hl => ?_)
    refine lv_aload_n X.x X.b dX6_tellsHarmOfGap_55 rfl (lv_at hl 1 rfl) ?_
    refine r_get X M hq_0 (el_0 _ _) rfl inX6 5 (by decide) q193 rfl rfl dX6_tellsHarmOfGap_56 ?_
    refine lv_iload_n X.x X.b dX6_tellsHarmOfGap_59 rfl (lv_at hl 2 rfl) ?_
    refine lv_iload X.x X.b dX6_tellsHarmOfGap_60 (lv_at hl 5 rfl) ?_
    obtain ⟨r3, σ3, h3, h⟩ := ob_e h
    refine r_runI M (r_callV (As := [.int x1, .int x4]) X M (lv_sub hl [] rfl) (T_X2_number h3 _) cal_X2_number q562 ⟨by decide, by decide⟩ hq_57 (el_57 _ _) rfl rfl rfl (Nat.le_of_ble_eq_true rfl) ⟨Nat.le_refl _, Nat.le_refl _⟩ dX6_tellsHarmOfGap_62) (fun H locs M => ?_)
    clear h3
    refine lv_iload X.x X.b dX6_tellsHarmOfGap_65 (lv_at hl 0 rfl) ?_
    refine lv_icmp_eq (tgt := 72) X.x X.b dX6_tellsHarmOfGap_67 (by decide) (fun c4 => ?_) (fun c4 => ?_)
    · have h := it_t c4 h
      refine lv_iinc (v := (x4 + 1)) (lv' := [(4, .int (x4 + 1)), (5, .int r2), (0, .ref (Γ.1 0)), (1, .int x1), (2, .int x2), (3, .int x3)]) X.x X.b dX6_tellsHarmOfGap_72 hl (k := 5) rfl rfl (by decide) rfl (fun ls hl => ?_)
      refine lv_goto (tgt := 25) X.x X.b dX6_tellsHarmOfGap_75 (by decide) ?_
      exact H25 x1 x2 x3 (x4 + 1) σ3 _ _ _ h M (lv_sub hl [2, 3, 4, 5, 0] rfl)
    · have h := it_f c4 h
      refine lv_iconst (v := 0) X.x X.b dX6_tellsHarmOfGap_70 (by decide) ?_
      exact r_iret X M rfl h dX6_tellsHarmOfGap_71
def f_X6_tellsHarmOfGap_L25 : Nat → Int32 → Int32 → Int32 → Int32 → St → Rs
  | 0 => fun _ _ _ _ _ => none
  | n + 1 => fun x1 x2 x3 x4 σ => f_X6_tellsHarmOfGap_b25 (f_X6_tellsHarmOfGap_L25 n) x1 x2 x3 x4 σ
theorem u_X6_tellsHarmOfGap_L25 {l : Launch} {Γ : Gm} {p : Program} {e : Env} {s : State} {m : MethodId} {args : Array Value} {below : List Frame} {meth : Method} {c : Code} {r : Int32} {σ' : St} (X : Cx p s m args meth c cX6_tellsHarmOfGap RX6 6 (some .boolean) Γ) : ∀ (n : Nat) (x1 : Int32) (x2 : Int32) (x3 : Int32) (x4 : Int32) (σ : St) (H : Heap) (locs : List Loc) (ls : Array Slot), f_X6_tellsHarmOfGap_L25 n x1 x2 x3 x4 σ = some (r, σ') → Mv Γ σ s H locs → lv_has ls 6 [(0, .ref (Γ.1 0)), (1, .int x1), (2, .int x2), (3, .int x3), (4, .int x4)] → W p l e (rmd 5) s m args below meth c H locs 0 0 (MQ below (Qi Γ r σ' s.heap.size) args s 0 0 (Rg Γ s.heap.size)) (F0 m 25 ls []) := by
  intro n
  induction n with
  | zero => intro x1 x2 x3 x4 σ H locs ls h; cases h
  | succ n ih => intro x1 x2 x3 x4 σ H locs ls h; exact u_X6_tellsHarmOfGap_b25 X  ih x1 x2 x3 x4 σ H locs ls h
/-- StreetNumbers.tellsHarmOfGap(II)Z -/
def f_X6_tellsHarmOfGap (x1 : Int32) (x2 : Int32) (σ : St) : Rs :=
  ob (f_X2_size x1 σ) fun r1 σ1 => (
  if r1 ≤ (σ1 1 1) then (
    f_X6_tellsHarmOfGap_L25 LF x1 x2 r1 0 σ1
  ) else (
    some (0, σ1)
  ))
set_option maxRecDepth 100000 in
set_option maxHeartbeats 4000000 in
theorem T_X6_tellsHarmOfGap {l : Launch} {Γ : Gm} {x1 : Int32} {x2 : Int32} {σ : St} {r : Int32} {σ' : St} (h : f_X6_tellsHarmOfGap x1 x2 σ = some (r, σ')) : MetI l yX6_tellsHarmOfGap cX6_tellsHarmOfGap 6 .boolean 5 Γ σ [.ref (Γ.1 0), .int x1, .int x2] r σ' := by
  intro sz
  refine met_in (by decide) (Nat.le_of_ble_eq_true rfl) (fun p e s m args below meth c ls X hsz M hl => ?_)
  subst hsz
  have X : Cx p s m args meth c cX6_tellsHarmOfGap RX6 6 (some .boolean) Γ := X
  have hl : lv_has ls 6 [(0, .ref (Γ.1 0)), (1, .int x1), (2, .int x2)] := hl
  unfold f_X6_tellsHarmOfGap at h
  refine lv_aload_n X.x X.b dX6_tellsHarmOfGap_0 rfl (lv_at hl 0 rfl) ?_
  refine r_get X M hq_0 (el_0 _ _) rfl inX6 5 (by decide) q193 rfl rfl dX6_tellsHarmOfGap_1 ?_
  refine lv_iload_n X.x X.b dX6_tellsHarmOfGap_4 rfl (lv_at hl 1 rfl) ?_
  obtain ⟨r1, σ1, h1, h⟩ := ob_e h
  refine r_runI M (r_callV (As := [.int x1]) X M (lv_sub hl [] rfl) (T_X2_size h1 _) cal_X2_size q558 ⟨by decide, by decide⟩ hq_57 (el_57 _ _) rfl rfl rfl (Nat.le_of_ble_eq_true rfl) ⟨Nat.le_refl _, Nat.le_refl _⟩ dX6_tellsHarmOfGap_5) (fun H locs M => ?_)
  clear h1
  refine lv_istore_n (lv' := [(3, .int r1), (0, .ref (Γ.1 0)), (1, .int x1), (2, .int x2)]) X.x X.b dX6_tellsHarmOfGap_8 rfl hl (by decide) rfl (fun ls hl => ?_)
  refine lv_iload_n X.x X.b dX6_tellsHarmOfGap_9 rfl (lv_at hl 0 rfl) ?_
  refine lv_aload_n X.x X.b dX6_tellsHarmOfGap_10 rfl (lv_at hl 1 rfl) ?_
  refine r_get X M hq_0 (el_0 _ _) rfl inX6 0 (by decide) q188 rfl rfl dX6_tellsHarmOfGap_11 ?_
  refine r_get X M hq_1 (el_1 _ _) rfl inX3 1 (by decide) q56 rfl rfl dX6_tellsHarmOfGap_14 ?_
  refine lv_icmp_le (tgt := 22) X.x X.b dX6_tellsHarmOfGap_17 (by decide) (fun c2 => ?_) (fun c2 => ?_)
  · have h := it_t c2 h
    refine lv_iconst (v := 0) X.x X.b dX6_tellsHarmOfGap_22 (by decide) ?_
    refine lv_istore (lv' := [(4, .int 0), (3, .int r1), (0, .ref (Γ.1 0)), (1, .int x1), (2, .int x2)]) X.x X.b dX6_tellsHarmOfGap_23 hl (by decide) rfl (fun ls hl => ?_)
    exact u_X6_tellsHarmOfGap_L25 X LF x1 x2 r1 0 σ1 _ _ _ h M (lv_sub hl [2, 3, 4, 1, 0] rfl)
  · have h := it_f c2 h
    refine lv_iconst (v := 0) X.x X.b dX6_tellsHarmOfGap_20 (by decide) ?_
    exact r_iret X M rfl h dX6_tellsHarmOfGap_21
def f_X6_fits_b16 (σ : St) : Rs :=
  ob (f_X6_failing 1 σ) fun r1 σ1 => (
  some (r1, σ1))
set_option maxRecDepth 100000 in
set_option maxHeartbeats 4000000 in
theorem u_X6_fits_b16 {l : Launch} {Γ : Gm} {p : Program} {e : Env} {s : State} {m : MethodId} {args : Array Value} {below : List Frame} {meth : Method} {c : Code} {r : Int32} {σ' : St} (X : Cx p s m args meth c cX6_fits RX6 6 (some .int) Γ) (σ : St) (H : Heap) (locs : List Loc) (ls : Array Slot) (h : f_X6_fits_b16 σ = some (r, σ')) (M : Mv Γ σ s H locs) (hl : lv_has ls 6 [(0, .ref (Γ.1 0))]) : W p l e (rmd 6) s m args below meth c H locs 0 0 (MQ below (Qi Γ r σ' s.heap.size) args s 0 0 (Rg Γ s.heap.size)) (F0 m 16 ls []) := by
  unfold f_X6_fits_b16 at h
  refine lv_aload_n X.x X.b dX6_fits_16 rfl (lv_at hl 0 rfl) ?_
  refine lv_iconst (v := 1) X.x X.b dX6_fits_17 (by decide) ?_
  obtain ⟨r1, σ1, h1, h⟩ := ob_e h
  refine r_runI M (r_callV (As := [.int 1]) X M (lv_sub hl [] rfl) (T_X6_failing h1 _) cal_X6_failing q223 ⟨by decide, by decide⟩ hq_0 (el_0 _ _) rfl rfl rfl (Nat.le_of_ble_eq_true rfl) ⟨Nat.le_refl _, Nat.le_refl _⟩ dX6_fits_18) (fun H locs M => ?_)
  clear h1
  exact r_iret X M rfl h dX6_fits_21
def f_X6_fits_b48 (k48 : (Int32 → Int32 → Int32 → Int32 → Int32 → St → Rs)) (x1 : Int32) (x2 : Int32) (x3 : Int32) (x4 : Int32) (x5 : Int32) (σ : St) : Rs :=
  if x5 < 1 then (
    if x2 = 0 then (
      some (x3, σ)
    ) else (
      if x3 = 0 then (
        ob (f_X6_failing 2 σ) fun r1 σ1 => (
        some (r1, σ1))
      ) else (
        some (x4, σ)
      )
    )
  ) else (
    ob (f_X6_tellsHarmOfGap x1 x5 σ) fun r4 σ4 => (
    if r4 = 0 then (
      k48 x1 x2 x3 x4 (x5 + (-1)) σ4
    ) else (
      k48 x1 x2 (x3 + 1) x5 (x5 + (-1)) σ4
    ))
  )
set_option maxRecDepth 100000 in
set_option maxHeartbeats 4000000 in
theorem u_X6_fits_b48 {l : Launch} {Γ : Gm} {p : Program} {e : Env} {s : State} {m : MethodId} {args : Array Value} {below : List Frame} {meth : Method} {c : Code} {r : Int32} {σ' : St} {k48 : Int32 → Int32 → Int32 → Int32 → Int32 → St → Rs} (X : Cx p s m args meth c cX6_fits RX6 6 (some .int) Γ) (H48 : ∀ (x1 : Int32) (x2 : Int32) (x3 : Int32) (x4 : Int32) (x5 : Int32) (σ : St) (H : Heap) (locs : List Loc) (ls : Array Slot), k48 x1 x2 x3 x4 x5 σ = some (r, σ') → Mv Γ σ s H locs → lv_has ls 6 [(0, .ref (Γ.1 0)), (1, .int x1), (2, .int x2), (3, .int x3), (4, .int x4), (5, .int x5)] → W p l e (rmd 6) s m args below meth c H locs 0 0 (MQ below (Qi Γ r σ' s.heap.size) args s 0 0 (Rg Γ s.heap.size)) (F0 m 48 ls [])) (x1 : Int32) (x2 : Int32) (x3 : Int32) (x4 : Int32) (x5 : Int32) (σ : St) (H : Heap) (locs : List Loc) (ls : Array Slot) (h : f_X6_fits_b48 k48 x1 x2 x3 x4 x5 σ = some (r, σ')) (M : Mv Γ σ s H locs) (hl : lv_has ls 6 [(0, .ref (Γ.1 0)), (1, .int x1), (2, .int x2), (3, .int x3), (4, .int x4), (5, .int x5)]) : W p l e (rmd 6) s m args below meth c H locs 0 0 (MQ below (Qi Γ r σ' s.heap.size) args s 0 0 (Rg Γ s.heap.size)) (F0 m 48 ls []) := by
  unfold f_X6_fits_b48 at h
  refine lv_iload X.x X.b dX6_fits_48 (lv_at hl 5 rfl) ?_
  refine lv_iconst (v := 1) X.x X.b dX6_fits_50 (by decide) ?_
  refine lv_icmp_lt (tgt := 77) X.x X.b dX6_fits_51 (by decide) (fun c6 => ?_) (fun c6 => ?_)
  · have h := it_t c6 h
    refine lv_iload_n X.x X.b dX6_fits_77 rfl (lv_at hl 2 rfl) ?_
    refine lv_if_ne (tgt := 83) X.x X.b dX6_fits_78 (by decide) (fun c3 => ?_) (fun c3 => ?_)
    · have h := it_f c3 h
      refine lv_iload_n X.x X.b dX6_fits_83 rfl (lv_at hl 3 rfl) ?_
      refine lv_if_ne (tgt := 95) X.x X.b dX6_fits_84 (by decide) (fun c2 => ?_) (fun c2 => ?_)
      · have h := it_f c2 h
        refine lv_iload X.x X.b dX6_fits_95 (lv_at hl 4 rfl) ?_
        exact r_iret X M rfl h dX6_fits_97
      · have h := it_t c2 h
        refine lv_aload_n X.x X.b dX6_fits_87 rfl (lv_at hl 0 rfl) ?_
        refine lv_iconst (v := 2) X.x X.b dX6_fits_88 (by decide) ?_
        obtain ⟨r1, σ1, h1, h⟩ := ob_e h
        refine r_runI M (r_callV (As := [.int 2]) X M (lv_sub hl [] rfl) (T_X6_failing h1 _) cal_X6_failing q223 ⟨by decide, by decide⟩ hq_0 (el_0 _ _) rfl rfl rfl (Nat.le_of_ble_eq_true rfl) ⟨Nat.le_refl _, Nat.le_refl _⟩ dX6_fits_89) (fun H locs M => ?_)
        clear h1
        refine lv_goto (tgt := 97) X.x X.b dX6_fits_92 (by decide) ?_
        exact r_iret X M rfl h dX6_fits_97
    · have h := it_t c3 h
      refine lv_iload_n X.x X.b dX6_fits_81 rfl (lv_at hl 3 rfl) ?_
      exact r_iret X M rfl h dX6_fits_82
  · have h := it_f c6 h
    refine lv_aload_n X.x X.b dX6_fits_54 rfl (lv_at hl 0 rfl) ?_
    refine lv_iload_n X.x X.b dX6_fits_55 rfl (lv_at hl 1 rfl) ?_
    refine lv_iload X.x X.b dX6_fits_56 (lv_at hl 5 rfl) ?_
    obtain ⟨r4, σ4, h4, h⟩ := ob_e h
    refine r_runI M (r_callV (As := [.int x1, .int x5]) X M (lv_sub hl [] rfl) (T_X6_tellsHarmOfGap h4 _) cal_X6_tellsHarmOfGap q554 ⟨by decide, by decide⟩ hq_0 (el_0 _ _) rfl rfl rfl (Nat.le_of_ble_eq_true rfl) ⟨Nat.le_refl _, Nat.le_refl _⟩ dX6_fits_58) (fun H locs M => ?_)
    clear h4
    refine lv_if_eq (tgt := 71) X.x X.b dX6_fits_61 (by decide) (fun c5 => ?_) (fun c5 => ?_)
    · have h := it_t c5 h
      refine lv_iinc (v := (x5 + (-1))) (lv' := [(5, .int (x5 + (-1))), (0, .ref (Γ.1 0)), (1, .int x1), (2, .int x2), (3, .int x3), (4, .int x4)]) X.x X.b dX6_fits_71 hl (k := 5) rfl rfl (by decide) rfl (fun ls hl => ?_)
      refine lv_goto (tgt := 48) X.x X.b dX6_fits_74 (by decide) ?_
      exact H48 x1 x2 x3 x4 (x5 + (-1)) σ4 _ _ _ h M (lv_sub hl [1, 2, 3, 4, 5, 0] rfl)
    · have h := it_f c5 h
      refine lv_iinc (v := (x3 + 1)) (lv' := [(3, .int (x3 + 1)), (0, .ref (Γ.1 0)), (1, .int x1), (2, .int x2), (4, .int x4), (5, .int x5)]) X.x X.b dX6_fits_64 hl (k := 3) rfl rfl (by decide) rfl (fun ls hl => ?_)
      refine lv_iload X.x X.b dX6_fits_67 (lv_at hl 5 rfl) ?_
      refine lv_istore (lv' := [(4, .int x5), (3, .int (x3 + 1)), (0, .ref (Γ.1 0)), (1, .int x1), (2, .int x2), (5, .int x5)]) X.x X.b dX6_fits_69 hl (by decide) rfl (fun ls hl => ?_)
      refine lv_iinc (v := (x5 + (-1))) (lv' := [(5, .int (x5 + (-1))), (4, .int x5), (3, .int (x3 + 1)), (0, .ref (Γ.1 0)), (1, .int x1), (2, .int x2)]) X.x X.b dX6_fits_71 hl (k := 5) rfl rfl (by decide) rfl (fun ls hl => ?_)
      refine lv_goto (tgt := 48) X.x X.b dX6_fits_74 (by decide) ?_
      exact H48 x1 x2 (x3 + 1) x5 (x5 + (-1)) σ4 _ _ _ h M (lv_sub hl [3, 4, 5, 2, 1, 0] rfl)
def f_X6_fits_L48 : Nat → Int32 → Int32 → Int32 → Int32 → Int32 → St → Rs
  | 0 => fun _ _ _ _ _ _ => none
  | n + 1 => fun x1 x2 x3 x4 x5 σ => f_X6_fits_b48 (f_X6_fits_L48 n) x1 x2 x3 x4 x5 σ
theorem u_X6_fits_L48 {l : Launch} {Γ : Gm} {p : Program} {e : Env} {s : State} {m : MethodId} {args : Array Value} {below : List Frame} {meth : Method} {c : Code} {r : Int32} {σ' : St} (X : Cx p s m args meth c cX6_fits RX6 6 (some .int) Γ) : ∀ (n : Nat) (x1 : Int32) (x2 : Int32) (x3 : Int32) (x4 : Int32) (x5 : Int32) (σ : St) (H : Heap) (locs : List Loc) (ls : Array Slot), f_X6_fits_L48 n x1 x2 x3 x4 x5 σ = some (r, σ') → Mv Γ σ s H locs → lv_has ls 6 [(0, .ref (Γ.1 0)), (1, .int x1), (2, .int x2), (3, .int x3), (4, .int x4), (5, .int x5)] → W p l e (rmd 6) s m args below meth c H locs 0 0 (MQ below (Qi Γ r σ' s.heap.size) args s 0 0 (Rg Γ s.heap.size)) (F0 m 48 ls []) := by
  intro n
  induction n with
  | zero => intro x1 x2 x3 x4 x5 σ H locs ls h; cases h
  | succ n ih => intro x1 x2 x3 x4 x5 σ H locs ls h; exact u_X6_fits_b48 X  ih x1 x2 x3 x4 x5 σ H locs ls h
/-- StreetNumbers.fits(II)I -/
def f_X6_fits (x1 : Int32) (x2 : Int32) (σ : St) : Rs :=
  ob (f_X6_isSheet x1 σ) fun r1 σ1 => (
  if r1 = 0 then (
    f_X6_fits_b16 σ1
  ) else (
    if x2 < 0 then (
      f_X6_fits_b16 σ1
    ) else (
      if x2 ≤ 1 then (
        ob (f_X2_isMissing x1 σ1) fun r2 σ2 => (
        if r2 = 0 then (
          f_X6_fits_L48 LF x1 x2 0 0 50 σ2
        ) else (
          ob (f_X6_failing 2 σ2) fun r3 σ3 => (
          some (r3, σ3))
        ))
      ) else (
        f_X6_fits_b16 σ1
      )
    )
  ))
set_option maxRecDepth 100000 in
set_option maxHeartbeats 4000000 in
theorem T_X6_fits {l : Launch} {Γ : Gm} {x1 : Int32} {x2 : Int32} {σ : St} {r : Int32} {σ' : St} (h : f_X6_fits x1 x2 σ = some (r, σ')) : MetI l yX6_fits cX6_fits 6 .int 6 Γ σ [.ref (Γ.1 0), .int x1, .int x2] r σ' := by
  intro sz
  refine met_in (by decide) (Nat.le_of_ble_eq_true rfl) (fun p e s m args below meth c ls X hsz M hl => ?_)
  subst hsz
  have X : Cx p s m args meth c cX6_fits RX6 6 (some .int) Γ := X
  have hl : lv_has ls 6 [(0, .ref (Γ.1 0)), (1, .int x1), (2, .int x2)] := hl
  unfold f_X6_fits at h
  refine lv_iload_n X.x X.b dX6_fits_0 rfl (lv_at hl 1 rfl) ?_
  obtain ⟨r1, σ1, h1, h⟩ := ob_e h
  refine r_runI M (r_callS (As := [.int x1]) X M (lv_sub hl [] rfl) (T_X6_isSheet h1 _) cal_X6_isSheet q542 ⟨by decide, by decide⟩ rfl rfl (Nat.le_of_ble_eq_true rfl) ⟨Nat.le_refl _, Nat.le_refl _⟩ dX6_fits_1) (fun H locs M => ?_)
  clear h1
  refine lv_if_eq (tgt := 16) X.x X.b dX6_fits_4 (by decide) (fun c7 => ?_) (fun c7 => ?_)
  · have h := it_t c7 h
    exact u_X6_fits_b16 X σ1 _ _ _ h M (lv_sub hl [0] rfl)
  · have h := it_f c7 h
    refine lv_iload_n X.x X.b dX6_fits_7 rfl (lv_at hl 2 rfl) ?_
    refine lv_if_lt (tgt := 16) X.x X.b dX6_fits_8 (by decide) (fun c6 => ?_) (fun c6 => ?_)
    · have h := it_t c6 h
      exact u_X6_fits_b16 X σ1 _ _ _ h M (lv_sub hl [0] rfl)
    · have h := it_f c6 h
      refine lv_iload_n X.x X.b dX6_fits_11 rfl (lv_at hl 2 rfl) ?_
      refine lv_iconst (v := 1) X.x X.b dX6_fits_12 (by decide) ?_
      refine lv_icmp_le (tgt := 22) X.x X.b dX6_fits_13 (by decide) (fun c5 => ?_) (fun c5 => ?_)
      · have h := it_t c5 h
        refine lv_aload_n X.x X.b dX6_fits_22 rfl (lv_at hl 0 rfl) ?_
        refine r_get X M hq_0 (el_0 _ _) rfl inX6 5 (by decide) q193 rfl rfl dX6_fits_23 ?_
        refine lv_iload_n X.x X.b dX6_fits_26 rfl (lv_at hl 1 rfl) ?_
        obtain ⟨r2, σ2, h2, h⟩ := ob_e h
        refine r_runI M (r_callV (As := [.int x1]) X M (lv_sub hl [] rfl) (T_X2_isMissing h2 _) cal_X2_isMissing q545 ⟨by decide, by decide⟩ hq_57 (el_57 _ _) rfl rfl rfl (Nat.le_of_ble_eq_true rfl) ⟨Nat.le_refl _, Nat.le_refl _⟩ dX6_fits_27) (fun H locs M => ?_)
        clear h2
        refine lv_if_eq (tgt := 39) X.x X.b dX6_fits_30 (by decide) (fun c4 => ?_) (fun c4 => ?_)
        · have h := it_t c4 h
          refine lv_iconst (v := 0) X.x X.b dX6_fits_39 (by decide) ?_
          refine lv_istore_n (lv' := [(3, .int 0), (0, .ref (Γ.1 0)), (1, .int x1), (2, .int x2)]) X.x X.b dX6_fits_40 rfl hl (by decide) rfl (fun ls hl => ?_)
          refine lv_iconst (v := 0) X.x X.b dX6_fits_41 (by decide) ?_
          refine lv_istore (lv' := [(4, .int 0), (3, .int 0), (0, .ref (Γ.1 0)), (1, .int x1), (2, .int x2)]) X.x X.b dX6_fits_42 hl (by decide) rfl (fun ls hl => ?_)
          refine lv_bipush (v := 50) X.x X.b dX6_fits_44 (by decide) ?_
          refine lv_istore (lv' := [(5, .int 50), (4, .int 0), (3, .int 0), (0, .ref (Γ.1 0)), (1, .int x1), (2, .int x2)]) X.x X.b dX6_fits_46 hl (by decide) rfl (fun ls hl => ?_)
          exact u_X6_fits_L48 X LF x1 x2 0 0 50 σ2 _ _ _ h M (lv_sub hl [3, 4, 5, 2, 1, 0] rfl)
        · have h := it_f c4 h
          refine lv_aload_n X.x X.b dX6_fits_33 rfl (lv_at hl 0 rfl) ?_
          refine lv_iconst (v := 2) X.x X.b dX6_fits_34 (by decide) ?_
          obtain ⟨r3, σ3, h3, h⟩ := ob_e h
          refine r_runI M (r_callV (As := [.int 2]) X M (lv_sub hl [] rfl) (T_X6_failing h3 _) cal_X6_failing q223 ⟨by decide, by decide⟩ hq_0 (el_0 _ _) rfl rfl rfl (Nat.le_of_ble_eq_true rfl) ⟨Nat.le_refl _, Nat.le_refl _⟩ dX6_fits_35) (fun H locs M => ?_)
          clear h3
          exact r_iret X M rfl h dX6_fits_38
      · have h := it_f c5 h
        exact u_X6_fits_b16 X σ1 _ _ _ h M (lv_sub hl [0] rfl)
def f_X3_harmOfGap_b4 (k4 : (Int32 → Int32 → Int32 → St → Rs)) (x1 : Int32) (x2 : Int32) (x3 : Int32) (σ : St) : Rs :=
  if (σ 1 1) ≤ x3 then (
    some (x2, σ)
  ) else (
    ob (f_X3_houseAt x3 σ) fun r1 σ1 => (
    ob (f_X3_harmTo r1 (x1 * (x3 + 1)) σ1) fun r2 σ2 => (
    k4 x1 (x2 + r2) (x3 + 1) σ2))
  )
set_option maxRecDepth 100000 in
set_option maxHeartbeats 4000000 in
theorem u_X3_harmOfGap_b4 {l : Launch} {Γ : Gm} {p : Program} {e : Env} {s : State} {m : MethodId} {args : Array Value} {below : List Frame} {meth : Method} {c : Code} {r : Int32} {σ' : St} {k4 : Int32 → Int32 → Int32 → St → Rs} (X : Cx p s m args meth c cX3_harmOfGap RX3 4 (some .int) Γ) (H4 : ∀ (x1 : Int32) (x2 : Int32) (x3 : Int32) (σ : St) (H : Heap) (locs : List Loc) (ls : Array Slot), k4 x1 x2 x3 σ = some (r, σ') → Mv Γ σ s H locs → lv_has ls 4 [(0, .ref (Γ.1 1)), (1, .int x1), (2, .int x2), (3, .int x3)] → W p l e (rmd 5) s m args below meth c H locs 0 0 (MQ below (Qi Γ r σ' s.heap.size) args s 0 0 (Rg Γ s.heap.size)) (F0 m 4 ls [])) (x1 : Int32) (x2 : Int32) (x3 : Int32) (σ : St) (H : Heap) (locs : List Loc) (ls : Array Slot) (h : f_X3_harmOfGap_b4 k4 x1 x2 x3 σ = some (r, σ')) (M : Mv Γ σ s H locs) (hl : lv_has ls 4 [(0, .ref (Γ.1 1)), (1, .int x1), (2, .int x2), (3, .int x3)]) : W p l e (rmd 5) s m args below meth c H locs 0 0 (MQ below (Qi Γ r σ' s.heap.size) args s 0 0 (Rg Γ s.heap.size)) (F0 m 4 ls []) := by
  unfold f_X3_harmOfGap_b4 at h
  refine lv_iload_n X.x X.b dX3_harmOfGap_4 rfl (lv_at hl 3 rfl) ?_
  refine lv_aload_n X.x X.b dX3_harmOfGap_5 rfl (lv_at hl 0 rfl) ?_
  refine r_get X M hq_1 (el_1 _ _) rfl inX3 1 (by decide) q55 rfl rfl dX3_harmOfGap_6 ?_
  refine lv_icmp_ge (tgt := 35) X.x X.b dX3_harmOfGap_9 (by decide) (fun c3 => ?_) (fun c3 => ?_)
  · have h := it_t c3 h
    refine lv_iload_n X.x X.b dX3_harmOfGap_35 rfl (lv_at hl 2 rfl) ?_
    exact r_iret X M rfl h dX3_harmOfGap_36
  · have h := it_f c3 h
    refine lv_iload_n X.x X.b dX3_harmOfGap_12 rfl (lv_at hl 2 rfl) ?_
    refine lv_aload_n X.x X.b dX3_harmOfGap_13 rfl (lv_at hl 0 rfl) ?_
    refine lv_aload_n X.x X.b dX3_harmOfGap_14 rfl (lv_at hl 0 rfl) ?_
    refine lv_iload_n X.x X.b dX3_harmOfGap_15 rfl (lv_at hl 3 rfl) ?_
    obtain ⟨r1, σ1, h1, h⟩ := ob_e h
    refine r_runI M (r_callV (As := [.int x3]) X M (lv_sub hl [] rfl) (T_X3_houseAt h1 _) cal_X3_houseAt q272 ⟨by decide, by decide⟩ hq_1 (el_1 _ _) rfl rfl rfl (Nat.le_of_ble_eq_true rfl) ⟨Nat.le_refl _, Nat.le_refl _⟩ dX3_harmOfGap_16) (fun H locs M => ?_)
    clear h1
    refine lv_iload_n X.x X.b dX3_harmOfGap_19 rfl (lv_at hl 1 rfl) ?_
    refine lv_iload_n X.x X.b dX3_harmOfGap_20 rfl (lv_at hl 3 rfl) ?_
    refine lv_iconst (v := 1) X.x X.b dX3_harmOfGap_21 (by decide) ?_
    refine lv_iadd X.x X.b dX3_harmOfGap_22 ?_
    refine lv_imul X.x X.b dX3_harmOfGap_23 ?_
    obtain ⟨r2, σ2, h2, h⟩ := ob_e h
    refine r_runI M (r_callV (As := [.int r1, .int (x1 * (x3 + 1))]) X M (lv_sub hl [] rfl) (T_X3_harmTo h2 _) cal_X3_harmTo q366 ⟨by decide, by decide⟩ hq_1 (el_1 _ _) rfl rfl rfl (Nat.le_of_ble_eq_true rfl) ⟨Nat.le_refl _, Nat.le_refl _⟩ dX3_harmOfGap_24) (fun H locs M => ?_)
    clear h2
    refine lv_iadd X.x X.b dX3_harmOfGap_27 ?_
    refine lv_istore_n (lv' := [(2, .int (x2 + r2)), (0, .ref (Γ.1 1)), (1, .int x1), (3, .int x3)]) X.x X.b dX3_harmOfGap_28 rfl hl (by decide) rfl (fun ls hl => ?_)
    refine lv_iinc (v := (x3 + 1)) (lv' := [(3, .int (x3 + 1)), (2, .int (x2 + r2)), (0, .ref (Γ.1 1)), (1, .int x1)]) X.x X.b dX3_harmOfGap_29 hl (k := 3) rfl rfl (by decide) rfl (fun ls hl => ?_)
    refine lv_goto (tgt := 4) X.x X.b dX3_harmOfGap_32 (by decide) ?_
    exact H4 x1 (x2 + r2) (x3 + 1) σ2 _ _ _ h M (lv_sub hl [2, 3, 1, 0] rfl)
def f_X3_harmOfGap_L4 : Nat → Int32 → Int32 → Int32 → St → Rs
  | 0 => fun _ _ _ _ => none
  | n + 1 => fun x1 x2 x3 σ => f_X3_harmOfGap_b4 (f_X3_harmOfGap_L4 n) x1 x2 x3 σ
theorem u_X3_harmOfGap_L4 {l : Launch} {Γ : Gm} {p : Program} {e : Env} {s : State} {m : MethodId} {args : Array Value} {below : List Frame} {meth : Method} {c : Code} {r : Int32} {σ' : St} (X : Cx p s m args meth c cX3_harmOfGap RX3 4 (some .int) Γ) : ∀ (n : Nat) (x1 : Int32) (x2 : Int32) (x3 : Int32) (σ : St) (H : Heap) (locs : List Loc) (ls : Array Slot), f_X3_harmOfGap_L4 n x1 x2 x3 σ = some (r, σ') → Mv Γ σ s H locs → lv_has ls 4 [(0, .ref (Γ.1 1)), (1, .int x1), (2, .int x2), (3, .int x3)] → W p l e (rmd 5) s m args below meth c H locs 0 0 (MQ below (Qi Γ r σ' s.heap.size) args s 0 0 (Rg Γ s.heap.size)) (F0 m 4 ls []) := by
  intro n
  induction n with
  | zero => intro x1 x2 x3 σ H locs ls h; cases h
  | succ n ih => intro x1 x2 x3 σ H locs ls h; exact u_X3_harmOfGap_b4 X  ih x1 x2 x3 σ H locs ls h
/-- StreetNumbers$Street.harmOfGap(I)I -/
def f_X3_harmOfGap (x1 : Int32) (σ : St) : Rs :=
  f_X3_harmOfGap_L4 LF x1 0 0 σ
set_option maxRecDepth 100000 in
set_option maxHeartbeats 4000000 in
theorem T_X3_harmOfGap {l : Launch} {Γ : Gm} {x1 : Int32} {σ : St} {r : Int32} {σ' : St} (h : f_X3_harmOfGap x1 σ = some (r, σ')) : MetI l yX3_harmOfGap cX3_harmOfGap 4 .int 5 Γ σ [.ref (Γ.1 1), .int x1] r σ' := by
  intro sz
  refine met_in (by decide) (Nat.le_of_ble_eq_true rfl) (fun p e s m args below meth c ls X hsz M hl => ?_)
  subst hsz
  have X : Cx p s m args meth c cX3_harmOfGap RX3 4 (some .int) Γ := X
  have hl : lv_has ls 4 [(0, .ref (Γ.1 1)), (1, .int x1)] := hl
  unfold f_X3_harmOfGap at h
  refine lv_iconst (v := 0) X.x X.b dX3_harmOfGap_0 (by decide) ?_
  refine lv_istore_n (lv' := [(2, .int 0), (0, .ref (Γ.1 1)), (1, .int x1)]) X.x X.b dX3_harmOfGap_1 rfl hl (by decide) rfl (fun ls hl => ?_)
  refine lv_iconst (v := 0) X.x X.b dX3_harmOfGap_2 (by decide) ?_
  refine lv_istore_n (lv' := [(3, .int 0), (2, .int 0), (0, .ref (Γ.1 1)), (1, .int x1)]) X.x X.b dX3_harmOfGap_3 rfl hl (by decide) rfl (fun ls hl => ?_)
  exact u_X3_harmOfGap_L4 X LF x1 0 0 σ _ _ _ h M (lv_sub hl [2, 3, 1, 0] rfl)
def f_X6_gap_b29 (k29 : (Int32 → Int32 → Int32 → Int32 → St → Rs)) (x1 : Int32) (x2 : Int32) (x3 : Int32) (x4 : Int32) (σ : St) : Rs :=
  if 50 < x4 then (
    if x1 = 0 then (
      some (x2, σ)
    ) else (
      some (x3, σ)
    )
  ) else (
    ob (f_X3_harmOfGap x4 σ) fun r2 σ2 => (
    if x3 ≤ r2 then (
      k29 x1 x2 x3 (x4 + 1) σ2
    ) else (
      k29 x1 x4 r2 (x4 + 1) σ2
    ))
  )
set_option maxRecDepth 100000 in
set_option maxHeartbeats 4000000 in
theorem u_X6_gap_b29 {l : Launch} {Γ : Gm} {p : Program} {e : Env} {s : State} {m : MethodId} {args : Array Value} {below : List Frame} {meth : Method} {c : Code} {r : Int32} {σ' : St} {k29 : Int32 → Int32 → Int32 → Int32 → St → Rs} (X : Cx p s m args meth c cX6_gap RX6 6 (some .int) Γ) (H29 : ∀ (x1 : Int32) (x2 : Int32) (x3 : Int32) (x4 : Int32) (σ : St) (H : Heap) (locs : List Loc) (ls : Array Slot), k29 x1 x2 x3 x4 σ = some (r, σ') → Mv Γ σ s H locs → lv_has ls 6 [(0, .ref (Γ.1 0)), (1, .int x1), (2, .int x2), (3, .int x3), (4, .int x4)] → W p l e (rmd 6) s m args below meth c H locs 0 0 (MQ below (Qi Γ r σ' s.heap.size) args s 0 0 (Rg Γ s.heap.size)) (F0 m 29 ls [])) (x1 : Int32) (x2 : Int32) (x3 : Int32) (x4 : Int32) (σ : St) (H : Heap) (locs : List Loc) (ls : Array Slot) (h : f_X6_gap_b29 k29 x1 x2 x3 x4 σ = some (r, σ')) (M : Mv Γ σ s H locs) (hl : lv_has ls 6 [(0, .ref (Γ.1 0)), (1, .int x1), (2, .int x2), (3, .int x3), (4, .int x4)]) : W p l e (rmd 6) s m args below meth c H locs 0 0 (MQ below (Qi Γ r σ' s.heap.size) args s 0 0 (Rg Γ s.heap.size)) (F0 m 29 ls []) := by
  unfold f_X6_gap_b29 at h
  refine lv_iload X.x X.b dX6_gap_29 (lv_at hl 4 rfl) ?_
  refine lv_bipush (v := 50) X.x X.b dX6_gap_31 (by decide) ?_
  refine lv_icmp_gt (tgt := 65) X.x X.b dX6_gap_33 (by decide) (fun c4 => ?_) (fun c4 => ?_)
  · have h := it_t c4 h
    refine lv_iload_n X.x X.b dX6_gap_65 rfl (lv_at hl 1 rfl) ?_
    refine lv_if_ne (tgt := 73) X.x X.b dX6_gap_66 (by decide) (fun c1 => ?_) (fun c1 => ?_)
    · have h := it_f c1 h
      refine lv_iload_n X.x X.b dX6_gap_73 rfl (lv_at hl 3 rfl) ?_
      exact r_iret X M rfl h dX6_gap_74
    · have h := it_t c1 h
      refine lv_iload_n X.x X.b dX6_gap_69 rfl (lv_at hl 2 rfl) ?_
      refine lv_goto (tgt := 74) X.x X.b dX6_gap_70 (by decide) ?_
      exact r_iret X M rfl h dX6_gap_74
  · have h := it_f c4 h
    refine lv_aload_n X.x X.b dX6_gap_36 rfl (lv_at hl 0 rfl) ?_
    refine r_get X M hq_0 (el_0 _ _) rfl inX6 0 (by decide) q188 rfl rfl dX6_gap_37 ?_
    refine lv_iload X.x X.b dX6_gap_40 (lv_at hl 4 rfl) ?_
    obtain ⟨r2, σ2, h2, h⟩ := ob_e h
    refine r_runI M (r_callV (As := [.int x4]) X M (lv_sub hl [] rfl) (T_X3_harmOfGap h2 _) cal_X3_harmOfGap q460 ⟨by decide, by decide⟩ hq_1 (el_1 _ _) rfl rfl rfl (Nat.le_of_ble_eq_true rfl) ⟨Nat.le_refl _, Nat.le_refl _⟩ dX6_gap_42) (fun H locs M => ?_)
    clear h2
    refine lv_istore (lv' := [(5, .int r2), (0, .ref (Γ.1 0)), (1, .int x1), (2, .int x2), (3, .int x3), (4, .int x4)]) X.x X.b dX6_gap_45 hl (by decide) rfl (fun ls hl => ?_)
    refine lv_iload X.x X.b dX6_gap_47 (lv_at hl 0 rfl) ?_
    refine lv_iload_n X.x X.b dX6_gap_49 rfl (lv_at hl 4 rfl) ?_
    refine lv_icmp_ge (tgt := 59) X.x X.b dX6_gap_50 (by decide) (fun c3 => ?_) (fun c3 => ?_)
    · have h := it_t c3 h
      refine lv_iinc (v := (x4 + 1)) (lv' := [(4, .int (x4 + 1)), (5, .int r2), (0, .ref (Γ.1 0)), (1, .int x1), (2, .int x2), (3, .int x3)]) X.x X.b dX6_gap_59 hl (k := 5) rfl rfl (by decide) rfl (fun ls hl => ?_)
      refine lv_goto (tgt := 29) X.x X.b dX6_gap_62 (by decide) ?_
      exact H29 x1 x2 x3 (x4 + 1) σ2 _ _ _ h M (lv_sub hl [2, 3, 4, 5, 0] rfl)
    · have h := it_f c3 h
      refine lv_iload X.x X.b dX6_gap_53 (lv_at hl 5 rfl) ?_
      refine lv_istore_n (lv' := [(2, .int x4), (5, .int r2), (0, .ref (Γ.1 0)), (1, .int x1), (3, .int x3), (4, .int x4)]) X.x X.b dX6_gap_55 rfl hl (by decide) rfl (fun ls hl => ?_)
      refine lv_iload X.x X.b dX6_gap_56 (lv_at hl 1 rfl) ?_
      refine lv_istore_n (lv' := [(3, .int r2), (2, .int x4), (5, .int r2), (0, .ref (Γ.1 0)), (1, .int x1), (4, .int x4)]) X.x X.b dX6_gap_58 rfl hl (by decide) rfl (fun ls hl => ?_)
      refine lv_iinc (v := (x4 + 1)) (lv' := [(4, .int (x4 + 1)), (3, .int r2), (2, .int x4), (5, .int r2), (0, .ref (Γ.1 0)), (1, .int x1)]) X.x X.b dX6_gap_59 hl (k := 5) rfl rfl (by decide) rfl (fun ls hl => ?_)
      refine lv_goto (tgt := 29) X.x X.b dX6_gap_62 (by decide) ?_
      exact H29 x1 x4 r2 (x4 + 1) σ2 _ _ _ h M (lv_sub hl [4, 5, 2, 1, 0] rfl)
def f_X6_gap_L29 : Nat → Int32 → Int32 → Int32 → Int32 → St → Rs
  | 0 => fun _ _ _ _ _ => none
  | n + 1 => fun x1 x2 x3 x4 σ => f_X6_gap_b29 (f_X6_gap_L29 n) x1 x2 x3 x4 σ
theorem u_X6_gap_L29 {l : Launch} {Γ : Gm} {p : Program} {e : Env} {s : State} {m : MethodId} {args : Array Value} {below : List Frame} {meth : Method} {c : Code} {r : Int32} {σ' : St} (X : Cx p s m args meth c cX6_gap RX6 6 (some .int) Γ) : ∀ (n : Nat) (x1 : Int32) (x2 : Int32) (x3 : Int32) (x4 : Int32) (σ : St) (H : Heap) (locs : List Loc) (ls : Array Slot), f_X6_gap_L29 n x1 x2 x3 x4 σ = some (r, σ') → Mv Γ σ s H locs → lv_has ls 6 [(0, .ref (Γ.1 0)), (1, .int x1), (2, .int x2), (3, .int x3), (4, .int x4)] → W p l e (rmd 6) s m args below meth c H locs 0 0 (MQ below (Qi Γ r σ' s.heap.size) args s 0 0 (Rg Γ s.heap.size)) (F0 m 29 ls []) := by
  intro n
  induction n with
  | zero => intro x1 x2 x3 x4 σ H locs ls h; cases h
  | succ n ih => intro x1 x2 x3 x4 σ H locs ls h; exact u_X6_gap_b29 X  ih x1 x2 x3 x4 σ H locs ls h
/-- StreetNumbers.gap(I)I -/
def f_X6_gap (x1 : Int32) (σ : St) : Rs :=
  if x1 < 0 then (
    ob (f_X6_failing 1 σ) fun r1 σ1 => (
    some (r1, σ1))
  ) else (
    if x1 ≤ 1 then (
      ob (f_X3_harmOfGap 1 σ) fun r2 σ2 => (
      f_X6_gap_L29 LF x1 1 r2 2 σ2)
    ) else (
      ob (f_X6_failing 1 σ) fun r3 σ3 => (
      some (r3, σ3))
    )
  )
set_option maxRecDepth 100000 in
set_option maxHeartbeats 4000000 in
theorem T_X6_gap {l : Launch} {Γ : Gm} {x1 : Int32} {σ : St} {r : Int32} {σ' : St} (h : f_X6_gap x1 σ = some (r, σ')) : MetI l yX6_gap cX6_gap 6 .int 6 Γ σ [.ref (Γ.1 0), .int x1] r σ' := by
  intro sz
  refine met_in (by decide) (Nat.le_of_ble_eq_true rfl) (fun p e s m args below meth c ls X hsz M hl => ?_)
  subst hsz
  have X : Cx p s m args meth c cX6_gap RX6 6 (some .int) Γ := X
  have hl : lv_has ls 6 [(0, .ref (Γ.1 0)), (1, .int x1)] := hl
  unfold f_X6_gap at h
  refine lv_iload_n X.x X.b dX6_gap_0 rfl (lv_at hl 1 rfl) ?_
  refine lv_if_lt (tgt := 9) X.x X.b dX6_gap_1 (by decide) (fun c5 => ?_) (fun c5 => ?_)
  · have h := it_t c5 h
    refine lv_aload_n X.x X.b dX6_gap_9 rfl (lv_at hl 0 rfl) ?_
    refine lv_iconst (v := 1) X.x X.b dX6_gap_10 (by decide) ?_
    obtain ⟨r1, σ1, h1, h⟩ := ob_e h
    refine r_runI M (r_callV (As := [.int 1]) X M (lv_sub hl [] rfl) (T_X6_failing h1 _) cal_X6_failing q223 ⟨by decide, by decide⟩ hq_0 (el_0 _ _) rfl rfl rfl (Nat.le_of_ble_eq_true rfl) ⟨Nat.le_refl _, Nat.le_refl _⟩ dX6_gap_11) (fun H locs M => ?_)
    clear h1
    exact r_iret X M rfl h dX6_gap_14
  · have h := it_f c5 h
    refine lv_iload_n X.x X.b dX6_gap_4 rfl (lv_at hl 1 rfl) ?_
    refine lv_iconst (v := 1) X.x X.b dX6_gap_5 (by decide) ?_
    refine lv_icmp_le (tgt := 15) X.x X.b dX6_gap_6 (by decide) (fun c4 => ?_) (fun c4 => ?_)
    · have h := it_t c4 h
      refine lv_iconst (v := 1) X.x X.b dX6_gap_15 (by decide) ?_
      refine lv_istore_n (lv' := [(2, .int 1), (0, .ref (Γ.1 0)), (1, .int x1)]) X.x X.b dX6_gap_16 rfl hl (by decide) rfl (fun ls hl => ?_)
      refine lv_aload_n X.x X.b dX6_gap_17 rfl (lv_at hl 1 rfl) ?_
      refine r_get X M hq_0 (el_0 _ _) rfl inX6 0 (by decide) q188 rfl rfl dX6_gap_18 ?_
      refine lv_iconst (v := 1) X.x X.b dX6_gap_21 (by decide) ?_
      obtain ⟨r2, σ2, h2, h⟩ := ob_e h
      refine r_runI M (r_callV (As := [.int 1]) X M (lv_sub hl [] rfl) (T_X3_harmOfGap h2 _) cal_X3_harmOfGap q460 ⟨by decide, by decide⟩ hq_1 (el_1 _ _) rfl rfl rfl (Nat.le_of_ble_eq_true rfl) ⟨Nat.le_refl _, Nat.le_refl _⟩ dX6_gap_22) (fun H locs M => ?_)
      clear h2
      refine lv_istore_n (lv' := [(3, .int r2), (2, .int 1), (0, .ref (Γ.1 0)), (1, .int x1)]) X.x X.b dX6_gap_25 rfl hl (by decide) rfl (fun ls hl => ?_)
      refine lv_iconst (v := 2) X.x X.b dX6_gap_26 (by decide) ?_
      refine lv_istore (lv' := [(4, .int 2), (3, .int r2), (2, .int 1), (0, .ref (Γ.1 0)), (1, .int x1)]) X.x X.b dX6_gap_27 hl (by decide) rfl (fun ls hl => ?_)
      exact u_X6_gap_L29 X LF x1 1 r2 2 σ2 _ _ _ h M (lv_sub hl [3, 4, 2, 1, 0] rfl)
    · have h := it_f c4 h
      refine lv_aload_n X.x X.b dX6_gap_9 rfl (lv_at hl 0 rfl) ?_
      refine lv_iconst (v := 1) X.x X.b dX6_gap_10 (by decide) ?_
      obtain ⟨r3, σ3, h3, h⟩ := ob_e h
      refine r_runI M (r_callV (As := [.int 1]) X M (lv_sub hl [] rfl) (T_X6_failing h3 _) cal_X6_failing q223 ⟨by decide, by decide⟩ hq_0 (el_0 _ _) rfl rfl rfl (Nat.le_of_ble_eq_true rfl) ⟨Nat.le_refl _, Nat.le_refl _⟩ dX6_gap_11) (fun H locs M => ?_)
      clear h3
      exact r_iret X M rfl h dX6_gap_14
/-- StreetNumbers.harm(II)I -/
def f_X6_harm (x1 : Int32) (x2 : Int32) (σ : St) : Rs :=
  ob (f_X3_hasHouse x1 σ) fun r1 σ1 => (
  if r1 = 0 then (
    ob (f_X6_failing 1 σ1) fun r2 σ2 => (
    some (r2, σ2))
  ) else (
    ob (f_X6_isPlate x2 σ1) fun r3 σ3 => (
    if r3 = 0 then (
      ob (f_X6_failing 1 σ3) fun r5 σ5 => (
      some (r5, σ5))
    ) else (
      ob (f_X3_harmTo x1 x2 σ3) fun r4 σ4 => (
      some (r4, σ4))
    ))
  ))
set_option maxRecDepth 100000 in
set_option maxHeartbeats 4000000 in
theorem T_X6_harm {l : Launch} {Γ : Gm} {x1 : Int32} {x2 : Int32} {σ : St} {r : Int32} {σ' : St} (h : f_X6_harm x1 x2 σ = some (r, σ')) : MetI l yX6_harm cX6_harm 3 .int 5 Γ σ [.ref (Γ.1 0), .int x1, .int x2] r σ' := by
  intro sz
  refine met_in (by decide) (Nat.le_of_ble_eq_true rfl) (fun p e s m args below meth c ls X hsz M hl => ?_)
  subst hsz
  have X : Cx p s m args meth c cX6_harm RX6 3 (some .int) Γ := X
  have hl : lv_has ls 3 [(0, .ref (Γ.1 0)), (1, .int x1), (2, .int x2)] := hl
  unfold f_X6_harm at h
  refine lv_aload_n X.x X.b dX6_harm_0 rfl (lv_at hl 0 rfl) ?_
  refine r_get X M hq_0 (el_0 _ _) rfl inX6 0 (by decide) q188 rfl rfl dX6_harm_1 ?_
  refine lv_iload_n X.x X.b dX6_harm_4 rfl (lv_at hl 1 rfl) ?_
  obtain ⟨r1, σ1, h1, h⟩ := ob_e h
  refine r_runI M (r_callV (As := [.int x1]) X M (lv_sub hl [] rfl) (T_X3_hasHouse h1 _) cal_X3_hasHouse q251 ⟨by decide, by decide⟩ hq_1 (el_1 _ _) rfl rfl rfl (Nat.le_of_ble_eq_true rfl) ⟨Nat.le_refl _, Nat.le_refl _⟩ dX6_harm_5) (fun H locs M => ?_)
  clear h1
  refine lv_if_eq (tgt := 18) X.x X.b dX6_harm_8 (by decide) (fun c7 => ?_) (fun c7 => ?_)
  · have h := it_t c7 h
    refine lv_aload_n X.x X.b dX6_harm_18 rfl (lv_at hl 0 rfl) ?_
    refine lv_iconst (v := 1) X.x X.b dX6_harm_19 (by decide) ?_
    obtain ⟨r2, σ2, h2, h⟩ := ob_e h
    refine r_runI M (r_callV (As := [.int 1]) X M (lv_sub hl [] rfl) (T_X6_failing h2 _) cal_X6_failing q223 ⟨by decide, by decide⟩ hq_0 (el_0 _ _) rfl rfl rfl (Nat.le_of_ble_eq_true rfl) ⟨Nat.le_refl _, Nat.le_refl _⟩ dX6_harm_20) (fun H locs M => ?_)
    clear h2
    exact r_iret X M rfl h dX6_harm_23
  · have h := it_f c7 h
    refine lv_iload_n X.x X.b dX6_harm_11 rfl (lv_at hl 2 rfl) ?_
    obtain ⟨r3, σ3, h3, h⟩ := ob_e h
    refine r_runI M (r_callS (As := [.int x2]) X M (lv_sub hl [] rfl) (T_X6_isPlate h3 _) cal_X6_isPlate q220 ⟨by decide, by decide⟩ rfl rfl (Nat.le_of_ble_eq_true rfl) ⟨Nat.le_refl _, Nat.le_refl _⟩ dX6_harm_12) (fun H locs M => ?_)
    clear h3
    refine lv_if_ne (tgt := 24) X.x X.b dX6_harm_15 (by decide) (fun c6 => ?_) (fun c6 => ?_)
    · have h := it_f c6 h
      refine lv_aload_n X.x X.b dX6_harm_24 rfl (lv_at hl 0 rfl) ?_
      refine r_get X M hq_0 (el_0 _ _) rfl inX6 0 (by decide) q188 rfl rfl dX6_harm_25 ?_
      refine lv_iload_n X.x X.b dX6_harm_28 rfl (lv_at hl 1 rfl) ?_
      refine lv_iload_n X.x X.b dX6_harm_29 rfl (lv_at hl 2 rfl) ?_
      obtain ⟨r4, σ4, h4, h⟩ := ob_e h
      refine r_runI M (r_callV (As := [.int x1, .int x2]) X M (lv_sub hl [] rfl) (T_X3_harmTo h4 _) cal_X3_harmTo q340 ⟨by decide, by decide⟩ hq_1 (el_1 _ _) rfl rfl rfl (Nat.le_of_ble_eq_true rfl) ⟨Nat.le_refl _, Nat.le_refl _⟩ dX6_harm_30) (fun H locs M => ?_)
      clear h4
      exact r_iret X M rfl h dX6_harm_33
    · have h := it_t c6 h
      refine lv_aload_n X.x X.b dX6_harm_18 rfl (lv_at hl 0 rfl) ?_
      refine lv_iconst (v := 1) X.x X.b dX6_harm_19 (by decide) ?_
      obtain ⟨r5, σ5, h5, h⟩ := ob_e h
      refine r_runI M (r_callV (As := [.int 1]) X M (lv_sub hl [] rfl) (T_X6_failing h5 _) cal_X6_failing q223 ⟨by decide, by decide⟩ hq_0 (el_0 _ _) rfl rfl rfl (Nat.le_of_ble_eq_true rfl) ⟨Nat.le_refl _, Nat.le_refl _⟩ dX6_harm_20) (fun H locs M => ?_)
      clear h5
      exact r_iret X M rfl h dX6_harm_23
def f_X3_placeOf_b2 (k2 : (Int32 → Int32 → St → Rs)) (x1 : Int32) (x2 : Int32) (σ : St) : Rs :=
  if 10 ≤ x2 then (
    some ((-1), σ)
  ) else (
    if (σ 1 1) ≤ x2 then (
      some ((-1), σ)
    ) else (
      if inb x2 10 then (
      if (σ 12 x2.toNatClampNeg) = x1 then (
        some (x2, σ)
      ) else (
        k2 x1 (x2 + 1) σ
      )) else none
    )
  )
set_option maxRecDepth 100000 in
set_option maxHeartbeats 4000000 in
theorem u_X3_placeOf_b2 {l : Launch} {Γ : Gm} {p : Program} {e : Env} {s : State} {m : MethodId} {args : Array Value} {below : List Frame} {meth : Method} {c : Code} {r : Int32} {σ' : St} {k2 : Int32 → Int32 → St → Rs} (X : Cx p s m args meth c cX3_placeOf RX3 3 (some .int) Γ) (H2 : ∀ (x1 : Int32) (x2 : Int32) (σ : St) (H : Heap) (locs : List Loc) (ls : Array Slot), k2 x1 x2 σ = some (r, σ') → Mv Γ σ s H locs → lv_has ls 3 [(0, .ref (Γ.1 1)), (1, .int x1), (2, .int x2)] → W p l e (rmd 1) s m args below meth c H locs 0 0 (MQ below (Qi Γ r σ' s.heap.size) args s 0 0 (Rg Γ s.heap.size)) (F0 m 2 ls [])) (x1 : Int32) (x2 : Int32) (σ : St) (H : Heap) (locs : List Loc) (ls : Array Slot) (h : f_X3_placeOf_b2 k2 x1 x2 σ = some (r, σ')) (M : Mv Γ σ s H locs) (hl : lv_has ls 3 [(0, .ref (Γ.1 1)), (1, .int x1), (2, .int x2)]) : W p l e (rmd 1) s m args below meth c H locs 0 0 (MQ below (Qi Γ r σ' s.heap.size) args s 0 0 (Rg Γ s.heap.size)) (F0 m 2 ls []) := by
  unfold f_X3_placeOf_b2 at h
  refine lv_iload_n X.x X.b dX3_placeOf_2 rfl (lv_at hl 2 rfl) ?_
  refine lv_bipush (v := 10) X.x X.b dX3_placeOf_3 (by decide) ?_
  refine lv_icmp_ge (tgt := 34) X.x X.b dX3_placeOf_5 (by decide) (fun c4 => ?_) (fun c4 => ?_)
  · have h := it_t c4 h
    refine lv_iconst (v := (-1)) X.x X.b dX3_placeOf_34 (by decide) ?_
    exact r_iret X M rfl h dX3_placeOf_35
  · have h := it_f c4 h
    refine lv_iload_n X.x X.b dX3_placeOf_8 rfl (lv_at hl 2 rfl) ?_
    refine lv_aload_n X.x X.b dX3_placeOf_9 rfl (lv_at hl 0 rfl) ?_
    refine r_get X M hq_1 (el_1 _ _) rfl inX3 1 (by decide) q55 rfl rfl dX3_placeOf_10 ?_
    refine lv_icmp_ge (tgt := 34) X.x X.b dX3_placeOf_13 (by decide) (fun c3 => ?_) (fun c3 => ?_)
    · have h := it_t c3 h
      refine lv_iconst (v := (-1)) X.x X.b dX3_placeOf_34 (by decide) ?_
      exact r_iret X M rfl h dX3_placeOf_35
    · have h := it_f c3 h
      refine lv_aload_n X.x X.b dX3_placeOf_16 rfl (lv_at hl 0 rfl) ?_
      refine r_get X M hq_1 (el_1 _ _) rfl inX3 9 (by decide) q68 rfl rfl dX3_placeOf_17 ?_
      refine lv_iload_n X.x X.b dX3_placeOf_20 rfl (lv_at hl 2 rfl) ?_
      obtain ⟨c1, h⟩ := it_n h
      refine r_iald (q := 12) (n := 10) X M rfl c1 dX3_placeOf_21 ?_
      refine lv_iload_n X.x X.b dX3_placeOf_22 rfl (lv_at hl 1 rfl) ?_
      refine lv_icmp_ne (tgt := 28) X.x X.b dX3_placeOf_23 (by decide) (fun c2 => ?_) (fun c2 => ?_)
      · have h := it_f c2 h
        refine lv_iinc (v := (x2 + 1)) (lv' := [(2, .int (x2 + 1)), (0, .ref (Γ.1 1)), (1, .int x1)]) X.x X.b dX3_placeOf_28 hl (k := 2) rfl rfl (by decide) rfl (fun ls hl => ?_)
        refine lv_goto (tgt := 2) X.x X.b dX3_placeOf_31 (by decide) ?_
        exact H2 x1 (x2 + 1) σ _ _ _ h M (lv_sub hl [1, 2, 0] rfl)
      · have h := it_t c2 h
        refine lv_iload_n X.x X.b dX3_placeOf_26 rfl (lv_at hl 2 rfl) ?_
        exact r_iret X M rfl h dX3_placeOf_27
def f_X3_placeOf_L2 : Nat → Int32 → Int32 → St → Rs
  | 0 => fun _ _ _ => none
  | n + 1 => fun x1 x2 σ => f_X3_placeOf_b2 (f_X3_placeOf_L2 n) x1 x2 σ
theorem u_X3_placeOf_L2 {l : Launch} {Γ : Gm} {p : Program} {e : Env} {s : State} {m : MethodId} {args : Array Value} {below : List Frame} {meth : Method} {c : Code} {r : Int32} {σ' : St} (X : Cx p s m args meth c cX3_placeOf RX3 3 (some .int) Γ) : ∀ (n : Nat) (x1 : Int32) (x2 : Int32) (σ : St) (H : Heap) (locs : List Loc) (ls : Array Slot), f_X3_placeOf_L2 n x1 x2 σ = some (r, σ') → Mv Γ σ s H locs → lv_has ls 3 [(0, .ref (Γ.1 1)), (1, .int x1), (2, .int x2)] → W p l e (rmd 1) s m args below meth c H locs 0 0 (MQ below (Qi Γ r σ' s.heap.size) args s 0 0 (Rg Γ s.heap.size)) (F0 m 2 ls []) := by
  intro n
  induction n with
  | zero => intro x1 x2 σ H locs ls h; cases h
  | succ n ih => intro x1 x2 σ H locs ls h; exact u_X3_placeOf_b2 X  ih x1 x2 σ H locs ls h
/-- StreetNumbers$Street.placeOf(I)I -/
def f_X3_placeOf (x1 : Int32) (σ : St) : Rs :=
  f_X3_placeOf_L2 LF x1 0 σ
set_option maxRecDepth 100000 in
set_option maxHeartbeats 4000000 in
theorem T_X3_placeOf {l : Launch} {Γ : Gm} {x1 : Int32} {σ : St} {r : Int32} {σ' : St} (h : f_X3_placeOf x1 σ = some (r, σ')) : MetI l yX3_placeOf cX3_placeOf 3 .int 1 Γ σ [.ref (Γ.1 1), .int x1] r σ' := by
  intro sz
  refine met_in (by decide) (Nat.le_of_ble_eq_true rfl) (fun p e s m args below meth c ls X hsz M hl => ?_)
  subst hsz
  have X : Cx p s m args meth c cX3_placeOf RX3 3 (some .int) Γ := X
  have hl : lv_has ls 3 [(0, .ref (Γ.1 1)), (1, .int x1)] := hl
  unfold f_X3_placeOf at h
  refine lv_iconst (v := 0) X.x X.b dX3_placeOf_0 (by decide) ?_
  refine lv_istore_n (lv' := [(2, .int 0), (0, .ref (Γ.1 1)), (1, .int x1)]) X.x X.b dX3_placeOf_1 rfl hl (by decide) rfl (fun ls hl => ?_)
  exact u_X3_placeOf_L2 X LF x1 0 σ _ _ _ h M (lv_sub hl [1, 2, 0] rfl)
/-- StreetNumbers$Street.front(I)I -/
def f_X3_front (x1 : Int32) (σ : St) : Rs :=
  ob (f_X3_m x1 σ) fun r1 σ1 => (
  ob (f_X3_kind x1 σ1) fun r2 σ2 => (
  if r2 = 1 then (
    some ((2 * (6 + r1)), σ2)
  ) else (
  if r2 = 2 then (
    some (((6 + r1) - 2), σ2)
  ) else (
  if r2 = 3 then (
    some ((6 + r1), σ2)
  ) else (
  if r2 = 4 then (
    some (((2 * (6 + r1)) + 10), σ2)
  ) else (
  if r2 = 5 then (
    some ((((6 + r1) - 2) / 2), σ2)
  ) else (
  if r2 = 6 then (
    some ((20 + (irm (σ2 1 2) 5)), σ2)
  ) else (
    some ((6 + r1), σ2)
  ))))))))
set_option maxRecDepth 100000 in
set_option maxHeartbeats 4000000 in
theorem T_X3_front {l : Launch} {Γ : Gm} {x1 : Int32} {σ : St} {r : Int32} {σ' : St} (h : f_X3_front x1 σ = some (r, σ')) : MetI l yX3_front cX3_front 3 .int 3 Γ σ [.ref (Γ.1 1), .int x1] r σ' := by
  intro sz
  refine met_in (by decide) (Nat.le_of_ble_eq_true rfl) (fun p e s m args below meth c ls X hsz M hl => ?_)
  subst hsz
  have X : Cx p s m args meth c cX3_front RX3 3 (some .int) Γ := X
  have hl : lv_has ls 3 [(0, .ref (Γ.1 1)), (1, .int x1)] := hl
  unfold f_X3_front at h
  refine lv_bipush (v := 6) X.x X.b dX3_front_0 (by decide) ?_
  refine lv_aload_n X.x X.b dX3_front_2 rfl (lv_at hl 0 rfl) ?_
  refine lv_iload_n X.x X.b dX3_front_3 rfl (lv_at hl 1 rfl) ?_
  obtain ⟨r1, σ1, h1, h⟩ := ob_e h
  refine r_runI M (r_callV (As := [.int x1]) X M (lv_sub hl [] rfl) (T_X3_m h1 _) cal_X3_m q280 ⟨by decide, by decide⟩ hq_1 (el_1 _ _) rfl rfl rfl (Nat.le_of_ble_eq_true rfl) ⟨Nat.le_refl _, Nat.le_refl _⟩ dX3_front_4) (fun H locs M => ?_)
  clear h1
  refine lv_iadd X.x X.b dX3_front_7 ?_
  refine lv_istore_n (lv' := [(2, .int (6 + r1)), (0, .ref (Γ.1 1)), (1, .int x1)]) X.x X.b dX3_front_8 rfl hl (by decide) rfl (fun ls hl => ?_)
  refine lv_aload_n X.x X.b dX3_front_9 rfl (lv_at hl 1 rfl) ?_
  refine lv_iload_n X.x X.b dX3_front_10 rfl (lv_at hl 2 rfl) ?_
  obtain ⟨r2, σ2, h2, h⟩ := ob_e h
  refine r_runI M (r_callV (As := [.int x1]) X M (lv_sub hl [] rfl) (T_X3_kind h2 _) cal_X3_kind q281 ⟨by decide, by decide⟩ hq_1 (el_1 _ _) rfl rfl rfl (Nat.le_of_ble_eq_true rfl) ⟨Nat.le_refl _, Nat.le_refl _⟩ dX3_front_11) (fun H locs M => ?_)
  clear h2
  by_cases c3 : r2 = 1
  · have h := it_t c3 h
    refine lv_tableIn (tgt := 52) X.x X.b dX3_front_14 (by rw [c3]; decide) (by rw [c3]; decide) (by first | (rw [c3]; done) | (rw [c3]; rfl)) (by decide) ?_
    refine lv_iconst (v := 2) X.x X.b dX3_front_52 (by decide) ?_
    refine lv_iload_n X.x X.b dX3_front_53 rfl (lv_at hl 0 rfl) ?_
    refine lv_imul X.x X.b dX3_front_54 ?_
    exact r_iret X M rfl h dX3_front_55
  have h := it_f c3 h
  by_cases c4 : r2 = 2
  · have h := it_t c4 h
    refine lv_tableIn (tgt := 56) X.x X.b dX3_front_14 (by rw [c4]; decide) (by rw [c4]; decide) (by first | (rw [c4]; done) | (rw [c4]; rfl)) (by decide) ?_
    refine lv_iload_n X.x X.b dX3_front_56 rfl (lv_at hl 0 rfl) ?_
    refine lv_iconst (v := 2) X.x X.b dX3_front_57 (by decide) ?_
    refine lv_isub X.x X.b dX3_front_58 ?_
    exact r_iret X M rfl h dX3_front_59
  have h := it_f c4 h
  by_cases c5 : r2 = 3
  · have h := it_t c5 h
    refine lv_tableIn (tgt := 83) X.x X.b dX3_front_14 (by rw [c5]; decide) (by rw [c5]; decide) (by first | (rw [c5]; done) | (rw [c5]; rfl)) (by decide) ?_
    refine lv_iload_n X.x X.b dX3_front_83 rfl (lv_at hl 0 rfl) ?_
    exact r_iret X M rfl h dX3_front_84
  have h := it_f c5 h
  by_cases c6 : r2 = 4
  · have h := it_t c6 h
    refine lv_tableIn (tgt := 60) X.x X.b dX3_front_14 (by rw [c6]; decide) (by rw [c6]; decide) (by first | (rw [c6]; done) | (rw [c6]; rfl)) (by decide) ?_
    refine lv_iconst (v := 2) X.x X.b dX3_front_60 (by decide) ?_
    refine lv_iload_n X.x X.b dX3_front_61 rfl (lv_at hl 0 rfl) ?_
    refine lv_imul X.x X.b dX3_front_62 ?_
    refine lv_bipush (v := 10) X.x X.b dX3_front_63 (by decide) ?_
    refine lv_iadd X.x X.b dX3_front_65 ?_
    exact r_iret X M rfl h dX3_front_66
  have h := it_f c6 h
  by_cases c7 : r2 = 5
  · have h := it_t c7 h
    refine lv_tableIn (tgt := 67) X.x X.b dX3_front_14 (by rw [c7]; decide) (by rw [c7]; decide) (by first | (rw [c7]; done) | (rw [c7]; rfl)) (by decide) ?_
    refine lv_iload_n X.x X.b dX3_front_67 rfl (lv_at hl 0 rfl) ?_
    refine lv_iconst (v := 2) X.x X.b dX3_front_68 (by decide) ?_
    refine lv_isub X.x X.b dX3_front_69 ?_
    refine lv_iconst (v := 2) X.x X.b dX3_front_70 (by decide) ?_
    refine lv_idiv X.x X.b dX3_front_71 (by decide) ?_
    exact r_iret X M rfl h dX3_front_72
  have h := it_f c7 h
  by_cases c8 : r2 = 6
  · have h := it_t c8 h
    refine lv_tableIn (tgt := 73) X.x X.b dX3_front_14 (by rw [c8]; decide) (by rw [c8]; decide) (by first | (rw [c8]; done) | (rw [c8]; rfl)) (by decide) ?_
    refine lv_bipush (v := 20) X.x X.b dX3_front_73 (by decide) ?_
    refine lv_aload_n X.x X.b dX3_front_75 rfl (lv_at hl 1 rfl) ?_
    refine r_get X M hq_1 (el_1 _ _) rfl inX3 2 (by decide) q57 rfl rfl dX3_front_76 ?_
    refine lv_iconst (v := 5) X.x X.b dX3_front_79 (by decide) ?_
    refine r_irem X dX3_front_80 (by decide) ?_
    refine lv_iadd X.x X.b dX3_front_81 ?_
    exact r_iret X M rfl h dX3_front_82
  have h := it_f c8 h
  have c3z := lv_neT c3 (show (1 : Int32).toInt = 1 by decide)
  have c4z := lv_neT c4 (show (2 : Int32).toInt = 2 by decide)
  have c5z := lv_neT c5 (show (3 : Int32).toInt = 3 by decide)
  have c6z := lv_neT c6 (show (4 : Int32).toInt = 4 by decide)
  have c7z := lv_neT c7 (show (5 : Int32).toInt = 5 by decide)
  have c8z := lv_neT c8 (show (6 : Int32).toInt = 6 by decide)
  refine lv_tableOut (tgt := 83) X.x X.b dX3_front_14 (by omega) (by decide) ?_
  refine lv_iload_n X.x X.b dX3_front_83 rfl (lv_at hl 0 rfl) ?_
  exact r_iret X M rfl h dX3_front_84
/-- StreetNumbers$Street.yardsAt(I)I -/
def f_X3_yardsAt (x1 : Int32) (σ : St) : Rs :=
  ob (f_X3_houseAt x1 σ) fun r1 σ1 => (
  ob (f_X3_front r1 σ1) fun r2 σ2 => (
  ob (f_X0_give 1 r2 x1 (irm (σ2 1 2) 7) σ2) fun r3 σ3 => (
  some (r3, σ3))))
set_option maxRecDepth 100000 in
set_option maxHeartbeats 4000000 in
theorem T_X3_yardsAt {l : Launch} {Γ : Gm} {x1 : Int32} {σ : St} {r : Int32} {σ' : St} (h : f_X3_yardsAt x1 σ = some (r, σ')) : MetI l yX3_yardsAt cX3_yardsAt 2 .int 4 Γ σ [.ref (Γ.1 1), .int x1] r σ' := by
  intro sz
  refine met_in (by decide) (Nat.le_of_ble_eq_true rfl) (fun p e s m args below meth c ls X hsz M hl => ?_)
  subst hsz
  have X : Cx p s m args meth c cX3_yardsAt RX3 2 (some .int) Γ := X
  have hl : lv_has ls 2 [(0, .ref (Γ.1 1)), (1, .int x1)] := hl
  unfold f_X3_yardsAt at h
  refine lv_aload_n X.x X.b dX3_yardsAt_0 rfl (lv_at hl 0 rfl) ?_
  refine r_get X M hq_1 (el_1 _ _) rfl inX3 0 (by decide) q52 rfl rfl dX3_yardsAt_1 ?_
  refine lv_iconst (v := 1) X.x X.b dX3_yardsAt_4 (by decide) ?_
  refine lv_aload_n X.x X.b dX3_yardsAt_5 rfl (lv_at hl 0 rfl) ?_
  refine lv_aload_n X.x X.b dX3_yardsAt_6 rfl (lv_at hl 0 rfl) ?_
  refine lv_iload_n X.x X.b dX3_yardsAt_7 rfl (lv_at hl 1 rfl) ?_
  obtain ⟨r1, σ1, h1, h⟩ := ob_e h
  refine r_runI M (r_callV (As := [.int x1]) X M (lv_sub hl [] rfl) (T_X3_houseAt h1 _) cal_X3_houseAt q272 ⟨by decide, by decide⟩ hq_1 (el_1 _ _) rfl rfl rfl (Nat.le_of_ble_eq_true rfl) ⟨Nat.le_refl _, Nat.le_refl _⟩ dX3_yardsAt_8) (fun H locs M => ?_)
  clear h1
  obtain ⟨r2, σ2, h2, h⟩ := ob_e h
  refine r_runI M (r_callV (As := [.int r1]) X M (lv_sub hl [] rfl) (T_X3_front h2 _) cal_X3_front q276 ⟨by decide, by decide⟩ hq_1 (el_1 _ _) rfl rfl rfl (Nat.le_of_ble_eq_true rfl) ⟨Nat.le_refl _, Nat.le_refl _⟩ dX3_yardsAt_11) (fun H locs M => ?_)
  clear h2
  refine lv_iload_n X.x X.b dX3_yardsAt_14 rfl (lv_at hl 1 rfl) ?_
  refine lv_aload_n X.x X.b dX3_yardsAt_15 rfl (lv_at hl 0 rfl) ?_
  refine r_get X M hq_1 (el_1 _ _) rfl inX3 2 (by decide) q57 rfl rfl dX3_yardsAt_16 ?_
  refine lv_bipush (v := 7) X.x X.b dX3_yardsAt_19 (by decide) ?_
  refine r_irem X dX3_yardsAt_21 (by decide) ?_
  obtain ⟨r3, σ3, h3, h⟩ := ob_e h
  refine r_runI M (r_callV (As := [.int 1, .int r2, .int x1, .int (irm (σ2 1 2) 7)]) X M (lv_sub hl [] rfl) (T_X0_give h3 _) cal_X0_give q282 ⟨by decide, by decide⟩ hq_2 (el_2 _ _) rfl rfl rfl (Nat.le_of_ble_eq_true rfl) ⟨Nat.le_refl _, Nat.le_refl _⟩ dX3_yardsAt_22) (fun H locs M => ?_)
  clear h3
  exact r_iret X M rfl h dX3_yardsAt_25
def f_X3_yardsAhead_b4 (k4 : (Int32 → Int32 → Int32 → St → Rs)) (x1 : Int32) (x2 : Int32) (x3 : Int32) (σ : St) : Rs :=
  if x1 ≤ x3 then (
    some (x2, σ)
  ) else (
    ob (f_X3_yardsAt x3 σ) fun r1 σ1 => (
    k4 x1 (x2 + r1) (x3 + 1) σ1)
  )
set_option maxRecDepth 100000 in
set_option maxHeartbeats 4000000 in
theorem u_X3_yardsAhead_b4 {l : Launch} {Γ : Gm} {p : Program} {e : Env} {s : State} {m : MethodId} {args : Array Value} {below : List Frame} {meth : Method} {c : Code} {r : Int32} {σ' : St} {k4 : Int32 → Int32 → Int32 → St → Rs} (X : Cx p s m args meth c cX3_yardsAhead RX3 4 (some .int) Γ) (H4 : ∀ (x1 : Int32) (x2 : Int32) (x3 : Int32) (σ : St) (H : Heap) (locs : List Loc) (ls : Array Slot), k4 x1 x2 x3 σ = some (r, σ') → Mv Γ σ s H locs → lv_has ls 4 [(0, .ref (Γ.1 1)), (1, .int x1), (2, .int x2), (3, .int x3)] → W p l e (rmd 5) s m args below meth c H locs 0 0 (MQ below (Qi Γ r σ' s.heap.size) args s 0 0 (Rg Γ s.heap.size)) (F0 m 4 ls [])) (x1 : Int32) (x2 : Int32) (x3 : Int32) (σ : St) (H : Heap) (locs : List Loc) (ls : Array Slot) (h : f_X3_yardsAhead_b4 k4 x1 x2 x3 σ = some (r, σ')) (M : Mv Γ σ s H locs) (hl : lv_has ls 4 [(0, .ref (Γ.1 1)), (1, .int x1), (2, .int x2), (3, .int x3)]) : W p l e (rmd 5) s m args below meth c H locs 0 0 (MQ below (Qi Γ r σ' s.heap.size) args s 0 0 (Rg Γ s.heap.size)) (F0 m 4 ls []) := by
  unfold f_X3_yardsAhead_b4 at h
  refine lv_iload_n X.x X.b dX3_yardsAhead_4 rfl (lv_at hl 3 rfl) ?_
  refine lv_iload_n X.x X.b dX3_yardsAhead_5 rfl (lv_at hl 1 rfl) ?_
  refine lv_icmp_ge (tgt := 23) X.x X.b dX3_yardsAhead_6 (by decide) (fun c2 => ?_) (fun c2 => ?_)
  · have h := it_t c2 h
    refine lv_iload_n X.x X.b dX3_yardsAhead_23 rfl (lv_at hl 2 rfl) ?_
    exact r_iret X M rfl h dX3_yardsAhead_24
  · have h := it_f c2 h
    refine lv_iload_n X.x X.b dX3_yardsAhead_9 rfl (lv_at hl 2 rfl) ?_
    refine lv_aload_n X.x X.b dX3_yardsAhead_10 rfl (lv_at hl 0 rfl) ?_
    refine lv_iload_n X.x X.b dX3_yardsAhead_11 rfl (lv_at hl 3 rfl) ?_
    obtain ⟨r1, σ1, h1, h⟩ := ob_e h
    refine r_runI M (r_callV (As := [.int x3]) X M (lv_sub hl [] rfl) (T_X3_yardsAt h1 _) cal_X3_yardsAt q313 ⟨by decide, by decide⟩ hq_1 (el_1 _ _) rfl rfl rfl (Nat.le_of_ble_eq_true rfl) ⟨Nat.le_refl _, Nat.le_refl _⟩ dX3_yardsAhead_12) (fun H locs M => ?_)
    clear h1
    refine lv_iadd X.x X.b dX3_yardsAhead_15 ?_
    refine lv_istore_n (lv' := [(2, .int (x2 + r1)), (0, .ref (Γ.1 1)), (1, .int x1), (3, .int x3)]) X.x X.b dX3_yardsAhead_16 rfl hl (by decide) rfl (fun ls hl => ?_)
    refine lv_iinc (v := (x3 + 1)) (lv' := [(3, .int (x3 + 1)), (2, .int (x2 + r1)), (0, .ref (Γ.1 1)), (1, .int x1)]) X.x X.b dX3_yardsAhead_17 hl (k := 3) rfl rfl (by decide) rfl (fun ls hl => ?_)
    refine lv_goto (tgt := 4) X.x X.b dX3_yardsAhead_20 (by decide) ?_
    exact H4 x1 (x2 + r1) (x3 + 1) σ1 _ _ _ h M (lv_sub hl [2, 3, 1, 0] rfl)
def f_X3_yardsAhead_L4 : Nat → Int32 → Int32 → Int32 → St → Rs
  | 0 => fun _ _ _ _ => none
  | n + 1 => fun x1 x2 x3 σ => f_X3_yardsAhead_b4 (f_X3_yardsAhead_L4 n) x1 x2 x3 σ
theorem u_X3_yardsAhead_L4 {l : Launch} {Γ : Gm} {p : Program} {e : Env} {s : State} {m : MethodId} {args : Array Value} {below : List Frame} {meth : Method} {c : Code} {r : Int32} {σ' : St} (X : Cx p s m args meth c cX3_yardsAhead RX3 4 (some .int) Γ) : ∀ (n : Nat) (x1 : Int32) (x2 : Int32) (x3 : Int32) (σ : St) (H : Heap) (locs : List Loc) (ls : Array Slot), f_X3_yardsAhead_L4 n x1 x2 x3 σ = some (r, σ') → Mv Γ σ s H locs → lv_has ls 4 [(0, .ref (Γ.1 1)), (1, .int x1), (2, .int x2), (3, .int x3)] → W p l e (rmd 5) s m args below meth c H locs 0 0 (MQ below (Qi Γ r σ' s.heap.size) args s 0 0 (Rg Γ s.heap.size)) (F0 m 4 ls []) := by
  intro n
  induction n with
  | zero => intro x1 x2 x3 σ H locs ls h; cases h
  | succ n ih => intro x1 x2 x3 σ H locs ls h; exact u_X3_yardsAhead_b4 X  ih x1 x2 x3 σ H locs ls h
/-- StreetNumbers$Street.yardsAhead(I)I -/
def f_X3_yardsAhead (x1 : Int32) (σ : St) : Rs :=
  f_X3_yardsAhead_L4 LF x1 0 0 σ
set_option maxRecDepth 100000 in
set_option maxHeartbeats 4000000 in
theorem T_X3_yardsAhead {l : Launch} {Γ : Gm} {x1 : Int32} {σ : St} {r : Int32} {σ' : St} (h : f_X3_yardsAhead x1 σ = some (r, σ')) : MetI l yX3_yardsAhead cX3_yardsAhead 4 .int 5 Γ σ [.ref (Γ.1 1), .int x1] r σ' := by
  intro sz
  refine met_in (by decide) (Nat.le_of_ble_eq_true rfl) (fun p e s m args below meth c ls X hsz M hl => ?_)
  subst hsz
  have X : Cx p s m args meth c cX3_yardsAhead RX3 4 (some .int) Γ := X
  have hl : lv_has ls 4 [(0, .ref (Γ.1 1)), (1, .int x1)] := hl
  unfold f_X3_yardsAhead at h
  refine lv_iconst (v := 0) X.x X.b dX3_yardsAhead_0 (by decide) ?_
  refine lv_istore_n (lv' := [(2, .int 0), (0, .ref (Γ.1 1)), (1, .int x1)]) X.x X.b dX3_yardsAhead_1 rfl hl (by decide) rfl (fun ls hl => ?_)
  refine lv_iconst (v := 0) X.x X.b dX3_yardsAhead_2 (by decide) ?_
  refine lv_istore_n (lv' := [(3, .int 0), (2, .int 0), (0, .ref (Γ.1 1)), (1, .int x1)]) X.x X.b dX3_yardsAhead_3 rfl hl (by decide) rfl (fun ls hl => ?_)
  exact u_X3_yardsAhead_L4 X LF x1 0 0 σ _ _ _ h M (lv_sub hl [2, 3, 1, 0] rfl)
/-- StreetNumbers.houseIs(II)I -/
def f_X6_houseIs (x1 : Int32) (x2 : Int32) (σ : St) : Rs :=
  ob (f_X3_hasHouse x1 σ) fun r1 σ1 => (
  if r1 = 0 then (
    ob (f_X6_failing 1 σ1) fun r17 σ17 => (
    some (r17, σ17))
  ) else (
    if x2 = 0 then (
      ob (f_X3_kind x1 σ1) fun r3 σ3 => (
      some (r3, σ3))
    ) else (
    if x2 = 1 then (
      ob (f_X3_m x1 σ1) fun r5 σ5 => (
      some (r5, σ5))
    ) else (
    if x2 = 2 then (
      ob (f_X3_plate x1 σ1) fun r7 σ7 => (
      some (r7, σ7))
    ) else (
    if x2 = 3 then (
      ob (f_X3_placeOf x1 σ1) fun r9 σ9 => (
      some (r9, σ9))
    ) else (
    if x2 = 4 then (
      ob (f_X3_placeOf x1 σ1) fun r11 σ11 => (
      ob (f_X3_yardsAt r11 σ11) fun r12 σ12 => (
      some (r12, σ12)))
    ) else (
    if x2 = 5 then (
      ob (f_X3_placeOf x1 σ1) fun r14 σ14 => (
      ob (f_X3_yardsAhead r14 σ14) fun r15 σ15 => (
      some (r15, σ15)))
    ) else (
      ob (f_X6_failing 1 σ1) fun r16 σ16 => (
      some (r16, σ16))
    ))))))
  ))
set_option maxRecDepth 100000 in
set_option maxHeartbeats 4000000 in
theorem T_X6_houseIs {l : Launch} {Γ : Gm} {x1 : Int32} {x2 : Int32} {σ : St} {r : Int32} {σ' : St} (h : f_X6_houseIs x1 x2 σ = some (r, σ')) : MetI l yX6_houseIs cX6_houseIs 3 .int 6 Γ σ [.ref (Γ.1 0), .int x1, .int x2] r σ' := by
  intro sz
  refine met_in (by decide) (Nat.le_of_ble_eq_true rfl) (fun p e s m args below meth c ls X hsz M hl => ?_)
  subst hsz
  have X : Cx p s m args meth c cX6_houseIs RX6 3 (some .int) Γ := X
  have hl : lv_has ls 3 [(0, .ref (Γ.1 0)), (1, .int x1), (2, .int x2)] := hl
  unfold f_X6_houseIs at h
  refine lv_aload_n X.x X.b dX6_houseIs_0 rfl (lv_at hl 0 rfl) ?_
  refine r_get X M hq_0 (el_0 _ _) rfl inX6 0 (by decide) q188 rfl rfl dX6_houseIs_1 ?_
  refine lv_iload_n X.x X.b dX6_houseIs_4 rfl (lv_at hl 1 rfl) ?_
  obtain ⟨r1, σ1, h1, h⟩ := ob_e h
  refine r_runI M (r_callV (As := [.int x1]) X M (lv_sub hl [] rfl) (T_X3_hasHouse h1 _) cal_X3_hasHouse q251 ⟨by decide, by decide⟩ hq_1 (el_1 _ _) rfl rfl rfl (Nat.le_of_ble_eq_true rfl) ⟨Nat.le_refl _, Nat.le_refl _⟩ dX6_houseIs_5) (fun H locs M => ?_)
  clear h1
  refine lv_if_ne (tgt := 17) X.x X.b dX6_houseIs_8 (by decide) (fun c18 => ?_) (fun c18 => ?_)
  · have h := it_f c18 h
    refine lv_iload_n X.x X.b dX6_houseIs_17 rfl (lv_at hl 2 rfl) ?_
    by_cases c2 : x2 = 0
    · have h := it_t c2 h
      refine lv_tableIn (tgt := 56) X.x X.b dX6_houseIs_18 (by rw [c2]; decide) (by rw [c2]; decide) (by first | (rw [c2]; done) | (rw [c2]; rfl)) (by decide) ?_
      refine lv_aload_n X.x X.b dX6_houseIs_56 rfl (lv_at hl 0 rfl) ?_
      refine r_get X M hq_0 (el_0 _ _) rfl inX6 0 (by decide) q188 rfl rfl dX6_houseIs_57 ?_
      refine lv_iload_n X.x X.b dX6_houseIs_60 rfl (lv_at hl 1 rfl) ?_
      obtain ⟨r3, σ3, h3, h⟩ := ob_e h
      refine r_runI M (r_callV (As := [.int x1]) X M (lv_sub hl [] rfl) (T_X3_kind h3 _) cal_X3_kind q252 ⟨by decide, by decide⟩ hq_1 (el_1 _ _) rfl rfl rfl (Nat.le_of_ble_eq_true rfl) ⟨Nat.le_refl _, Nat.le_refl _⟩ dX6_houseIs_61) (fun H locs M => ?_)
      clear h3
      exact r_iret X M rfl h dX6_houseIs_64
    have h := it_f c2 h
    by_cases c4 : x2 = 1
    · have h := it_t c4 h
      refine lv_tableIn (tgt := 65) X.x X.b dX6_houseIs_18 (by rw [c4]; decide) (by rw [c4]; decide) (by first | (rw [c4]; done) | (rw [c4]; rfl)) (by decide) ?_
      refine lv_aload_n X.x X.b dX6_houseIs_65 rfl (lv_at hl 0 rfl) ?_
      refine r_get X M hq_0 (el_0 _ _) rfl inX6 0 (by decide) q188 rfl rfl dX6_houseIs_66 ?_
      refine lv_iload_n X.x X.b dX6_houseIs_69 rfl (lv_at hl 1 rfl) ?_
      obtain ⟨r5, σ5, h5, h⟩ := ob_e h
      refine r_runI M (r_callV (As := [.int x1]) X M (lv_sub hl [] rfl) (T_X3_m h5 _) cal_X3_m q256 ⟨by decide, by decide⟩ hq_1 (el_1 _ _) rfl rfl rfl (Nat.le_of_ble_eq_true rfl) ⟨Nat.le_refl _, Nat.le_refl _⟩ dX6_houseIs_70) (fun H locs M => ?_)
      clear h5
      exact r_iret X M rfl h dX6_houseIs_73
    have h := it_f c4 h
    by_cases c6 : x2 = 2
    · have h := it_t c6 h
      refine lv_tableIn (tgt := 74) X.x X.b dX6_houseIs_18 (by rw [c6]; decide) (by rw [c6]; decide) (by first | (rw [c6]; done) | (rw [c6]; rfl)) (by decide) ?_
      refine lv_aload_n X.x X.b dX6_houseIs_74 rfl (lv_at hl 0 rfl) ?_
      refine r_get X M hq_0 (el_0 _ _) rfl inX6 0 (by decide) q188 rfl rfl dX6_houseIs_75 ?_
      refine lv_iload_n X.x X.b dX6_houseIs_78 rfl (lv_at hl 1 rfl) ?_
      obtain ⟨r7, σ7, h7, h⟩ := ob_e h
      refine r_runI M (r_callV (As := [.int x1]) X M (lv_sub hl [] rfl) (T_X3_plate h7 _) cal_X3_plate q260 ⟨by decide, by decide⟩ hq_1 (el_1 _ _) rfl rfl rfl (Nat.le_of_ble_eq_true rfl) ⟨Nat.le_refl _, Nat.le_refl _⟩ dX6_houseIs_79) (fun H locs M => ?_)
      clear h7
      exact r_iret X M rfl h dX6_houseIs_82
    have h := it_f c6 h
    by_cases c8 : x2 = 3
    · have h := it_t c8 h
      refine lv_tableIn (tgt := 83) X.x X.b dX6_houseIs_18 (by rw [c8]; decide) (by rw [c8]; decide) (by first | (rw [c8]; done) | (rw [c8]; rfl)) (by decide) ?_
      refine lv_aload_n X.x X.b dX6_houseIs_83 rfl (lv_at hl 0 rfl) ?_
      refine r_get X M hq_0 (el_0 _ _) rfl inX6 0 (by decide) q188 rfl rfl dX6_houseIs_84 ?_
      refine lv_iload_n X.x X.b dX6_houseIs_87 rfl (lv_at hl 1 rfl) ?_
      obtain ⟨r9, σ9, h9, h⟩ := ob_e h
      refine r_runI M (r_callV (As := [.int x1]) X M (lv_sub hl [] rfl) (T_X3_placeOf h9 _) cal_X3_placeOf q264 ⟨by decide, by decide⟩ hq_1 (el_1 _ _) rfl rfl rfl (Nat.le_of_ble_eq_true rfl) ⟨Nat.le_refl _, Nat.le_refl _⟩ dX6_houseIs_88) (fun H locs M => ?_)
      clear h9
      exact r_iret X M rfl h dX6_houseIs_91
    have h := it_f c8 h
    by_cases c10 : x2 = 4
    · have h := it_t c10 h
      refine lv_tableIn (tgt := 92) X.x X.b dX6_houseIs_18 (by rw [c10]; decide) (by rw [c10]; decide) (by first | (rw [c10]; done) | (rw [c10]; rfl)) (by decide) ?_
      refine lv_aload_n X.x X.b dX6_houseIs_92 rfl (lv_at hl 0 rfl) ?_
      refine r_get X M hq_0 (el_0 _ _) rfl inX6 0 (by decide) q188 rfl rfl dX6_houseIs_93 ?_
      refine lv_aload_n X.x X.b dX6_houseIs_96 rfl (lv_at hl 0 rfl) ?_
      refine r_get X M hq_0 (el_0 _ _) rfl inX6 0 (by decide) q188 rfl rfl dX6_houseIs_97 ?_
      refine lv_iload_n X.x X.b dX6_houseIs_100 rfl (lv_at hl 1 rfl) ?_
      obtain ⟨r11, σ11, h11, h⟩ := ob_e h
      refine r_runI M (r_callV (As := [.int x1]) X M (lv_sub hl [] rfl) (T_X3_placeOf h11 _) cal_X3_placeOf q264 ⟨by decide, by decide⟩ hq_1 (el_1 _ _) rfl rfl rfl (Nat.le_of_ble_eq_true rfl) ⟨Nat.le_refl _, Nat.le_refl _⟩ dX6_houseIs_101) (fun H locs M => ?_)
      clear h11
      obtain ⟨r12, σ12, h12, h⟩ := ob_e h
      refine r_runI M (r_callV (As := [.int r11]) X M (lv_sub hl [] rfl) (T_X3_yardsAt h12 _) cal_X3_yardsAt q268 ⟨by decide, by decide⟩ hq_1 (el_1 _ _) rfl rfl rfl (Nat.le_of_ble_eq_true rfl) ⟨Nat.le_refl _, Nat.le_refl _⟩ dX6_houseIs_104) (fun H locs M => ?_)
      clear h12
      exact r_iret X M rfl h dX6_houseIs_107
    have h := it_f c10 h
    by_cases c13 : x2 = 5
    · have h := it_t c13 h
      refine lv_tableIn (tgt := 108) X.x X.b dX6_houseIs_18 (by rw [c13]; decide) (by rw [c13]; decide) (by first | (rw [c13]; done) | (rw [c13]; rfl)) (by decide) ?_
      refine lv_aload_n X.x X.b dX6_houseIs_108 rfl (lv_at hl 0 rfl) ?_
      refine r_get X M hq_0 (el_0 _ _) rfl inX6 0 (by decide) q188 rfl rfl dX6_houseIs_109 ?_
      refine lv_aload_n X.x X.b dX6_houseIs_112 rfl (lv_at hl 0 rfl) ?_
      refine r_get X M hq_0 (el_0 _ _) rfl inX6 0 (by decide) q188 rfl rfl dX6_houseIs_113 ?_
      refine lv_iload_n X.x X.b dX6_houseIs_116 rfl (lv_at hl 1 rfl) ?_
      obtain ⟨r14, σ14, h14, h⟩ := ob_e h
      refine r_runI M (r_callV (As := [.int x1]) X M (lv_sub hl [] rfl) (T_X3_placeOf h14 _) cal_X3_placeOf q264 ⟨by decide, by decide⟩ hq_1 (el_1 _ _) rfl rfl rfl (Nat.le_of_ble_eq_true rfl) ⟨Nat.le_refl _, Nat.le_refl _⟩ dX6_houseIs_117) (fun H locs M => ?_)
      clear h14
      obtain ⟨r15, σ15, h15, h⟩ := ob_e h
      refine r_runI M (r_callV (As := [.int r14]) X M (lv_sub hl [] rfl) (T_X3_yardsAhead h15 _) cal_X3_yardsAhead q309 ⟨by decide, by decide⟩ hq_1 (el_1 _ _) rfl rfl rfl (Nat.le_of_ble_eq_true rfl) ⟨Nat.le_refl _, Nat.le_refl _⟩ dX6_houseIs_120) (fun H locs M => ?_)
      clear h15
      exact r_iret X M rfl h dX6_houseIs_123
    have h := it_f c13 h
    have c2z := lv_neT c2 (show (0 : Int32).toInt = 0 by decide)
    have c4z := lv_neT c4 (show (1 : Int32).toInt = 1 by decide)
    have c6z := lv_neT c6 (show (2 : Int32).toInt = 2 by decide)
    have c8z := lv_neT c8 (show (3 : Int32).toInt = 3 by decide)
    have c10z := lv_neT c10 (show (4 : Int32).toInt = 4 by decide)
    have c13z := lv_neT c13 (show (5 : Int32).toInt = 5 by decide)
    refine lv_tableOut (tgt := 124) X.x X.b dX6_houseIs_18 (by omega) (by decide) ?_
    refine lv_aload_n X.x X.b dX6_houseIs_124 rfl (lv_at hl 0 rfl) ?_
    refine lv_iconst (v := 1) X.x X.b dX6_houseIs_125 (by decide) ?_
    obtain ⟨r16, σ16, h16, h⟩ := ob_e h
    refine r_runI M (r_callV (As := [.int 1]) X M (lv_sub hl [] rfl) (T_X6_failing h16 _) cal_X6_failing q223 ⟨by decide, by decide⟩ hq_0 (el_0 _ _) rfl rfl rfl (Nat.le_of_ble_eq_true rfl) ⟨Nat.le_refl _, Nat.le_refl _⟩ dX6_houseIs_126) (fun H locs M => ?_)
    clear h16
    exact r_iret X M rfl h dX6_houseIs_129
  · have h := it_t c18 h
    refine lv_aload_n X.x X.b dX6_houseIs_11 rfl (lv_at hl 0 rfl) ?_
    refine lv_iconst (v := 1) X.x X.b dX6_houseIs_12 (by decide) ?_
    obtain ⟨r17, σ17, h17, h⟩ := ob_e h
    refine r_runI M (r_callV (As := [.int 1]) X M (lv_sub hl [] rfl) (T_X6_failing h17 _) cal_X6_failing q223 ⟨by decide, by decide⟩ hq_0 (el_0 _ _) rfl rfl rfl (Nat.le_of_ble_eq_true rfl) ⟨Nat.le_refl _, Nat.le_refl _⟩ dX6_houseIs_13) (fun H locs M => ?_)
    clear h17
    exact r_iret X M rfl h dX6_houseIs_16
/-- StreetNumbers$Laws.takeSteps(I[II)V -/
def f_X0_takeSteps (x1 : Int32) (x2 : Nat) (x3 : Int32) (σ : St) : Rs :=
  ob (f_X6_isUse x1 σ) fun r1 σ1 => (
  if r1 = 0 then (
    some (0, σ1)
  ) else (
    if inb x1 2 then (
    if (¬ (alen x2) = 0 ∧ ¬ 60 = 0) ∧ ¬ (0 : Int32) < 0 ∧ ¬ (0 : Int32) < 0 ∧ ¬ (60 : Int32) < 0 ∧ (0 : Int32).toNatClampNeg + (60 : Int32).toNatClampNeg ≤ (alen x2) ∧ (0 : Int32).toNatClampNeg + (60 : Int32).toNatClampNeg ≤ 60 then (
    ol (sR σ1 (18 + x1.toNatClampNeg) (va_cpy (σ1 x2) (σ1 (18 + x1.toNatClampNeg)) (0 : Int32).toNatClampNeg (0 : Int32).toNatClampNeg (60 : Int32).toNatClampNeg)) fun σ4 => (
    if inb x1 2 then (
    ol (st σ4 20 x1.toNatClampNeg x3) fun σ6 => (
    some (0, σ6))) else none)) else none) else none
  ))
set_option maxRecDepth 100000 in
set_option maxHeartbeats 4000000 in
theorem T_X0_takeSteps {l : Launch} {Γ : Gm} {x1 : Int32} {x2 : Nat} {x3 : Int32} {σ : St} {r : Int32} {σ' : St} (h : f_X0_takeSteps x1 x2 x3 σ = some (r, σ')) : MetV l yX0_takeSteps cX0_takeSteps 4 2 Γ σ [.ref (Γ.1 15), .int x1, .ref (Γ.1 x2), .int x3] σ' := by
  intro sz
  refine met_in (by decide) (Nat.le_of_ble_eq_true rfl) (fun p e s m args below meth c ls X hsz M hl => ?_)
  subst hsz
  have X : Cx p s m args meth c cX0_takeSteps RX0 4 none Γ := X
  have hl : lv_has ls 4 [(0, .ref (Γ.1 15)), (1, .int x1), (2, .ref (Γ.1 x2)), (3, .int x3)] := hl
  unfold f_X0_takeSteps at h
  refine lv_iload_n X.x X.b dX0_takeSteps_0 rfl (lv_at hl 1 rfl) ?_
  obtain ⟨r1, σ1, h1, h⟩ := ob_e h
  refine r_runI M (r_callSN (As := [.int x1]) (host := "StreetNumbers") X M (lv_sub hl [] rfl) (T_X6_isUse h1 _) cal_X6_isUse nst_X0_42 ⟨by decide, by decide⟩ rfl rfl (Nat.le_of_ble_eq_true rfl) ⟨Nat.le_refl _, Nat.le_refl _⟩ dX0_takeSteps_1) (fun H locs M => ?_)
  clear h1
  refine lv_if_eq (tgt := 28) X.x X.b dX0_takeSteps_4 (by decide) (fun c7 => ?_) (fun c7 => ?_)
  · have h := it_t c7 h
    exact r_vret X M h dX0_takeSteps_28
  · have h := it_f c7 h
    refine lv_aload_n X.x X.b dX0_takeSteps_7 rfl (lv_at hl 2 rfl) ?_
    refine lv_iconst (v := 0) X.x X.b dX0_takeSteps_8 (by decide) ?_
    refine lv_aload_n X.x X.b dX0_takeSteps_9 rfl (lv_at hl 0 rfl) ?_
    refine r_get X M hq_15 (el_15 _ _) rfl inX0 2 (by decide) q37 rfl rfl dX0_takeSteps_10 ?_
    refine lv_iload_n X.x X.b dX0_takeSteps_13 rfl (lv_at hl 1 rfl) ?_
    obtain ⟨c2, h⟩ := it_n h
    refine r_aald X M hq_17 (el_17 _ _) c2 dX0_takeSteps_14 ?_
    refine lv_iconst (v := 0) X.x X.b dX0_takeSteps_15 (by decide) ?_
    refine lv_bipush (v := 60) X.x X.b dX0_takeSteps_16 (by decide) ?_
    obtain ⟨c3, h⟩ := it_n h
    obtain ⟨σ4, e4, h⟩ := ol_e h
    refine r_copy (q1 := x2) (q2 := (18 + x1.toNatClampNeg)) (n1 := (alen x2)) (n2 := 60) X M rfl (al_17 _ (in_lt c2)) (lv_sub hl [] rfl) c3.1 c3.2 q433 q234 q233 q9 (by decide) (Nat.le_of_ble_eq_true rfl) dX0_takeSteps_18 (fun H locs M => ?_)
    rw [← e4] at M
    refine lv_aload_n X.x X.b dX0_takeSteps_21 rfl (lv_at hl 0 rfl) ?_
    refine r_get X M hq_15 (el_15 _ _) rfl inX0 3 (by decide) q38 rfl rfl dX0_takeSteps_22 ?_
    refine lv_iload_n X.x X.b dX0_takeSteps_25 rfl (lv_at hl 1 rfl) ?_
    refine lv_iload_n X.x X.b dX0_takeSteps_26 rfl (lv_at hl 3 rfl) ?_
    obtain ⟨c5, h⟩ := it_n h
    obtain ⟨σ6, e6, h⟩ := ol_e h
    refine r_iast (q := 20) (n := 2) X M rfl c5 dX0_takeSteps_27 (fun H locs M => ?_)
    rw [← e6] at M
    exact r_vret X M h dX0_takeSteps_28
def f_X0_becomeLike_b25 (k25 : (Int32 → St → Rs)) (x2 : Int32) (σ : St) : Rs :=
  if 2 ≤ x2 then (
    some (0, σ)
  ) else (
    if inb x2 2 then (
    if inb x2 2 then (
    ob (f_X0_takeSteps x2 (5 + x2.toNatClampNeg) (σ 7 x2.toNatClampNeg) σ) fun _ σ3 => (
    k25 (x2 + 1) σ3)) else none) else none
  )
set_option maxRecDepth 100000 in
set_option maxHeartbeats 4000000 in
theorem u_X0_becomeLike_b25 {l : Launch} {Γ : Gm} {p : Program} {e : Env} {s : State} {m : MethodId} {args : Array Value} {below : List Frame} {meth : Method} {c : Code} {r : Int32} {σ' : St} {k25 : Int32 → St → Rs} (X : Cx p s m args meth c cX0_becomeLike RX0 3 none Γ) (H25 : ∀ (x2 : Int32) (σ : St) (H : Heap) (locs : List Loc) (ls : Array Slot), k25 x2 σ = some (r, σ') → Mv Γ σ s H locs → lv_has ls 3 [(0, .ref (Γ.1 15)), (1, .ref (Γ.1 2)), (2, .int x2)] → W p l e (rmd 3) s m args below meth c H locs 0 0 (MQ below (Qv Γ σ' s.heap.size) args s 0 0 (Rg Γ s.heap.size)) (F0 m 25 ls [])) (x2 : Int32) (σ : St) (H : Heap) (locs : List Loc) (ls : Array Slot) (h : f_X0_becomeLike_b25 k25 x2 σ = some (r, σ')) (M : Mv Γ σ s H locs) (hl : lv_has ls 3 [(0, .ref (Γ.1 15)), (1, .ref (Γ.1 2)), (2, .int x2)]) : W p l e (rmd 3) s m args below meth c H locs 0 0 (MQ below (Qv Γ σ' s.heap.size) args s 0 0 (Rg Γ s.heap.size)) (F0 m 25 ls []) := by
  unfold f_X0_becomeLike_b25 at h
  refine lv_iload_n X.x X.b dX0_becomeLike_25 rfl (lv_at hl 2 rfl) ?_
  refine lv_iconst (v := 2) X.x X.b dX0_becomeLike_26 (by decide) ?_
  refine lv_icmp_ge (tgt := 53) X.x X.b dX0_becomeLike_27 (by decide) (fun c4 => ?_) (fun c4 => ?_)
  · have h := it_t c4 h
    exact r_vret X M h dX0_becomeLike_53
  · have h := it_f c4 h
    refine lv_aload_n X.x X.b dX0_becomeLike_30 rfl (lv_at hl 0 rfl) ?_
    refine lv_iload_n X.x X.b dX0_becomeLike_31 rfl (lv_at hl 2 rfl) ?_
    refine lv_aload_n X.x X.b dX0_becomeLike_32 rfl (lv_at hl 1 rfl) ?_
    refine r_get X M hq_2 (el_2 _ _) rfl inX0 2 (by decide) q37 rfl rfl dX0_becomeLike_33 ?_
    refine lv_iload_n X.x X.b dX0_becomeLike_36 rfl (lv_at hl 2 rfl) ?_
    obtain ⟨c1, h⟩ := it_n h
    refine r_aald X M hq_4 (el_4 _ _) c1 dX0_becomeLike_37 ?_
    refine lv_aload_n X.x X.b dX0_becomeLike_38 rfl (lv_at hl 1 rfl) ?_
    refine r_get X M hq_2 (el_2 _ _) rfl inX0 3 (by decide) q38 rfl rfl dX0_becomeLike_39 ?_
    refine lv_iload_n X.x X.b dX0_becomeLike_42 rfl (lv_at hl 2 rfl) ?_
    obtain ⟨c2, h⟩ := it_n h
    refine r_iald (q := 7) (n := 2) X M rfl c2 dX0_becomeLike_43 ?_
    obtain ⟨r3, σ3, h3, h⟩ := ob_e h
    refine r_runV M (r_callV (As := [.int x2, .ref (Γ.1 (5 + x2.toNatClampNeg)), .int (σ 7 x2.toNatClampNeg)]) X M (lv_sub hl [] rfl) (T_X0_takeSteps h3 _) cal_X0_takeSteps q693 ⟨by decide, by decide⟩ hq_15 (el_15 _ _) rfl rfl rfl (Nat.le_of_ble_eq_true rfl) ⟨Nat.le_refl _, Nat.le_refl _⟩ dX0_becomeLike_44) (fun H locs M => ?_)
    clear h3
    refine lv_iinc (v := (x2 + 1)) (lv' := [(2, .int (x2 + 1)), (0, .ref (Γ.1 15)), (1, .ref (Γ.1 2))]) X.x X.b dX0_becomeLike_47 hl (k := 2) rfl rfl (by decide) rfl (fun ls hl => ?_)
    refine lv_goto (tgt := 25) X.x X.b dX0_becomeLike_50 (by decide) ?_
    exact H25 (x2 + 1) σ3 _ _ _ h M (lv_sub hl [1, 2, 0] rfl)
def f_X0_becomeLike_L25 : Nat → Int32 → St → Rs
  | 0 => fun _ _ => none
  | n + 1 => fun x2 σ => f_X0_becomeLike_b25 (f_X0_becomeLike_L25 n) x2 σ
theorem u_X0_becomeLike_L25 {l : Launch} {Γ : Gm} {p : Program} {e : Env} {s : State} {m : MethodId} {args : Array Value} {below : List Frame} {meth : Method} {c : Code} {r : Int32} {σ' : St} (X : Cx p s m args meth c cX0_becomeLike RX0 3 none Γ) : ∀ (n : Nat) (x2 : Int32) (σ : St) (H : Heap) (locs : List Loc) (ls : Array Slot), f_X0_becomeLike_L25 n x2 σ = some (r, σ') → Mv Γ σ s H locs → lv_has ls 3 [(0, .ref (Γ.1 15)), (1, .ref (Γ.1 2)), (2, .int x2)] → W p l e (rmd 3) s m args below meth c H locs 0 0 (MQ below (Qv Γ σ' s.heap.size) args s 0 0 (Rg Γ s.heap.size)) (F0 m 25 ls []) := by
  intro n
  induction n with
  | zero => intro x2 σ H locs ls h; cases h
  | succ n ih => intro x2 σ H locs ls h; exact u_X0_becomeLike_b25 X  ih x2 σ H locs ls h
/-- StreetNumbers$Laws.becomeLike(LStreetNumbers$Laws;)V -/
def f_X0_becomeLike (σ : St) : Rs :=
  ol (st σ 15 1 (σ 2 1)) fun σ1 => (
  if ¬ (0 : Int32) < 0 ∧ ¬ (0 : Int32) < 0 ∧ ¬ (60 : Int32) < 0 ∧ (0 : Int32).toNatClampNeg + (60 : Int32).toNatClampNeg ≤ 60 ∧ (0 : Int32).toNatClampNeg + (60 : Int32).toNatClampNeg ≤ 60 then (
  ol (sR σ1 16 (va_cpy (σ1 3) (σ1 16) (0 : Int32).toNatClampNeg (0 : Int32).toNatClampNeg (60 : Int32).toNatClampNeg)) fun σ3 => (
  f_X0_becomeLike_L25 LF 0 σ3)) else none)
set_option maxRecDepth 100000 in
set_option maxHeartbeats 4000000 in
theorem T_X0_becomeLike {l : Launch} {Γ : Gm} {σ : St} {r : Int32} {σ' : St} (h : f_X0_becomeLike σ = some (r, σ')) : MetV l yX0_becomeLike cX0_becomeLike 3 3 Γ σ [.ref (Γ.1 15), .ref (Γ.1 2)] σ' := by
  intro sz
  refine met_in (by decide) (Nat.le_of_ble_eq_true rfl) (fun p e s m args below meth c ls X hsz M hl => ?_)
  subst hsz
  have X : Cx p s m args meth c cX0_becomeLike RX0 3 none Γ := X
  have hl : lv_has ls 3 [(0, .ref (Γ.1 15)), (1, .ref (Γ.1 2))] := hl
  unfold f_X0_becomeLike at h
  refine lv_aload_n X.x X.b dX0_becomeLike_0 rfl (lv_at hl 0 rfl) ?_
  refine lv_aload_n X.x X.b dX0_becomeLike_1 rfl (lv_at hl 1 rfl) ?_
  refine r_get X M hq_2 (el_2 _ _) rfl inX0 1 (by decide) q35 rfl rfl dX0_becomeLike_2 ?_
  obtain ⟨σ1, e1, h⟩ := ol_e h
  refine r_put (x := (σ 2 1)) (ty := .int) X M hq_15 (el_15 _ _) rfl inX0 tyX0_ok nmX0 1 (by decide) q35 rfl rfl rfl rfl rfl (Nat.le_of_ble_eq_true rfl) (pf_15_1 _ _ _) dX0_becomeLike_5 (fun H locs M => ?_)
  rw [← e1] at M
  refine lv_aload_n X.x X.b dX0_becomeLike_8 rfl (lv_at hl 1 rfl) ?_
  refine r_get X M hq_2 (el_2 _ _) rfl inX0 0 (by decide) q33 rfl rfl dX0_becomeLike_9 ?_
  refine lv_iconst (v := 0) X.x X.b dX0_becomeLike_12 (by decide) ?_
  refine lv_aload_n X.x X.b dX0_becomeLike_13 rfl (lv_at hl 0 rfl) ?_
  refine r_get X M hq_15 (el_15 _ _) rfl inX0 0 (by decide) q33 rfl rfl dX0_becomeLike_14 ?_
  refine lv_iconst (v := 0) X.x X.b dX0_becomeLike_17 (by decide) ?_
  refine lv_bipush (v := 60) X.x X.b dX0_becomeLike_18 (by decide) ?_
  obtain ⟨c2, h⟩ := it_n h
  obtain ⟨σ3, e3, h⟩ := ol_e h
  refine r_copy (q1 := 3) (q2 := 16) (n1 := 60) (n2 := 60) X M rfl rfl (lv_sub hl [] rfl) ⟨by decide, by decide⟩ c2 q433 q234 q233 q9 (by decide) (Nat.le_of_ble_eq_true rfl) dX0_becomeLike_20 (fun H locs M => ?_)
  rw [← e3] at M
  refine lv_iconst (v := 0) X.x X.b dX0_becomeLike_23 (by decide) ?_
  refine lv_istore_n (lv' := [(2, .int 0), (0, .ref (Γ.1 15)), (1, .ref (Γ.1 2))]) X.x X.b dX0_becomeLike_24 rfl hl (by decide) rfl (fun ls hl => ?_)
  exact u_X0_becomeLike_L25 X LF 0 σ3 _ _ _ h M (lv_sub hl [1, 2, 0] rfl)
/-- StreetNumbers$Street.becomeLike(LStreetNumbers$Street;)V -/
def f_X3_becomeLike (σ : St) : Rs :=
  ol (st σ 14 1 (σ 1 1)) fun σ1 => (
  ol (st σ1 14 2 (σ1 1 2)) fun σ2 => (
  ol (st σ2 14 3 (σ2 1 3)) fun σ3 => (
  ol (st σ3 14 4 (σ3 1 4)) fun σ4 => (
  ol (st σ4 14 5 (σ4 1 5)) fun σ5 => (
  if ¬ (0 : Int32) < 0 ∧ ¬ (0 : Int32) < 0 ∧ ¬ (10 : Int32) < 0 ∧ (0 : Int32).toNatClampNeg + (10 : Int32).toNatClampNeg ≤ 10 ∧ (0 : Int32).toNatClampNeg + (10 : Int32).toNatClampNeg ≤ 10 then (
  ol (sR σ5 22 (va_cpy (σ5 9) (σ5 22) (0 : Int32).toNatClampNeg (0 : Int32).toNatClampNeg (10 : Int32).toNatClampNeg)) fun σ7 => (
  if ¬ (0 : Int32) < 0 ∧ ¬ (0 : Int32) < 0 ∧ ¬ (10 : Int32) < 0 ∧ (0 : Int32).toNatClampNeg + (10 : Int32).toNatClampNeg ≤ 10 ∧ (0 : Int32).toNatClampNeg + (10 : Int32).toNatClampNeg ≤ 10 then (
  ol (sR σ7 23 (va_cpy (σ7 10) (σ7 23) (0 : Int32).toNatClampNeg (0 : Int32).toNatClampNeg (10 : Int32).toNatClampNeg)) fun σ9 => (
  if ¬ (0 : Int32) < 0 ∧ ¬ (0 : Int32) < 0 ∧ ¬ (10 : Int32) < 0 ∧ (0 : Int32).toNatClampNeg + (10 : Int32).toNatClampNeg ≤ 10 ∧ (0 : Int32).toNatClampNeg + (10 : Int32).toNatClampNeg ≤ 10 then (
  ol (sR σ9 24 (va_cpy (σ9 11) (σ9 24) (0 : Int32).toNatClampNeg (0 : Int32).toNatClampNeg (10 : Int32).toNatClampNeg)) fun σ11 => (
  if ¬ (0 : Int32) < 0 ∧ ¬ (0 : Int32) < 0 ∧ ¬ (10 : Int32) < 0 ∧ (0 : Int32).toNatClampNeg + (10 : Int32).toNatClampNeg ≤ 10 ∧ (0 : Int32).toNatClampNeg + (10 : Int32).toNatClampNeg ≤ 10 then (
  ol (sR σ11 25 (va_cpy (σ11 12) (σ11 25) (0 : Int32).toNatClampNeg (0 : Int32).toNatClampNeg (10 : Int32).toNatClampNeg)) fun σ13 => (
  if ¬ (0 : Int32) < 0 ∧ ¬ (0 : Int32) < 0 ∧ ¬ (24 : Int32) < 0 ∧ (0 : Int32).toNatClampNeg + (24 : Int32).toNatClampNeg ≤ 24 ∧ (0 : Int32).toNatClampNeg + (24 : Int32).toNatClampNeg ≤ 24 then (
  ol (sR σ13 26 (va_cpy (σ13 13) (σ13 26) (0 : Int32).toNatClampNeg (0 : Int32).toNatClampNeg (24 : Int32).toNatClampNeg)) fun σ15 => (
  ob (f_X0_becomeLike σ15) fun _ σ16 => (
  some (0, σ16)))) else none)) else none)) else none)) else none)) else none)))))
set_option maxRecDepth 100000 in
set_option maxHeartbeats 4000000 in
theorem T_X3_becomeLike {l : Launch} {Γ : Gm} {σ : St} {r : Int32} {σ' : St} (h : f_X3_becomeLike σ = some (r, σ')) : MetV l yX3_becomeLike cX3_becomeLike 2 4 Γ σ [.ref (Γ.1 14), .ref (Γ.1 1)] σ' := by
  intro sz
  refine met_in (by decide) (Nat.le_of_ble_eq_true rfl) (fun p e s m args below meth c ls X hsz M hl => ?_)
  subst hsz
  have X : Cx p s m args meth c cX3_becomeLike RX3 2 none Γ := X
  have hl : lv_has ls 2 [(0, .ref (Γ.1 14)), (1, .ref (Γ.1 1))] := hl
  unfold f_X3_becomeLike at h
  refine lv_aload_n X.x X.b dX3_becomeLike_0 rfl (lv_at hl 0 rfl) ?_
  refine lv_aload_n X.x X.b dX3_becomeLike_1 rfl (lv_at hl 1 rfl) ?_
  refine r_get X M hq_1 (el_1 _ _) rfl inX3 1 (by decide) q55 rfl rfl dX3_becomeLike_2 ?_
  obtain ⟨σ1, e1, h⟩ := ol_e h
  refine r_put (x := (σ 1 1)) (ty := .int) X M hq_14 (el_14 _ _) rfl inX3 tyX3_ok nmX3 1 (by decide) q55 rfl rfl rfl rfl rfl (Nat.le_of_ble_eq_true rfl) (pf_14_1 _ _ _) dX3_becomeLike_5 (fun H locs M => ?_)
  rw [← e1] at M
  refine lv_aload_n X.x X.b dX3_becomeLike_8 rfl (lv_at hl 0 rfl) ?_
  refine lv_aload_n X.x X.b dX3_becomeLike_9 rfl (lv_at hl 1 rfl) ?_
  refine r_get X M hq_1 (el_1 _ _) rfl inX3 2 (by decide) q57 rfl rfl dX3_becomeLike_10 ?_
  obtain ⟨σ2, e2, h⟩ := ol_e h
  refine r_put (x := (σ1 1 2)) (ty := .int) X M hq_14 (el_14 _ _) rfl inX3 tyX3_ok nmX3 2 (by decide) q57 rfl rfl rfl rfl rfl (Nat.le_of_ble_eq_true rfl) (pf_14_2 _ _ _) dX3_becomeLike_13 (fun H locs M => ?_)
  rw [← e2] at M
  refine lv_aload_n X.x X.b dX3_becomeLike_16 rfl (lv_at hl 0 rfl) ?_
  refine lv_aload_n X.x X.b dX3_becomeLike_17 rfl (lv_at hl 1 rfl) ?_
  refine r_get X M hq_1 (el_1 _ _) rfl inX3 3 (by decide) q59 rfl rfl dX3_becomeLike_18 ?_
  obtain ⟨σ3, e3, h⟩ := ol_e h
  refine r_put (x := (σ2 1 3)) (ty := .int) X M hq_14 (el_14 _ _) rfl inX3 tyX3_ok nmX3 3 (by decide) q59 rfl rfl rfl rfl rfl (Nat.le_of_ble_eq_true rfl) (pf_14_3 _ _ _) dX3_becomeLike_21 (fun H locs M => ?_)
  rw [← e3] at M
  refine lv_aload_n X.x X.b dX3_becomeLike_24 rfl (lv_at hl 0 rfl) ?_
  refine lv_aload_n X.x X.b dX3_becomeLike_25 rfl (lv_at hl 1 rfl) ?_
  refine r_get X M hq_1 (el_1 _ _) rfl inX3 4 (by decide) q61 rfl rfl dX3_becomeLike_26 ?_
  obtain ⟨σ4, e4, h⟩ := ol_e h
  refine r_put (x := (σ3 1 4)) (ty := .int) X M hq_14 (el_14 _ _) rfl inX3 tyX3_ok nmX3 4 (by decide) q61 rfl rfl rfl rfl rfl (Nat.le_of_ble_eq_true rfl) (pf_14_4 _ _ _) dX3_becomeLike_29 (fun H locs M => ?_)
  rw [← e4] at M
  refine lv_aload_n X.x X.b dX3_becomeLike_32 rfl (lv_at hl 0 rfl) ?_
  refine lv_aload_n X.x X.b dX3_becomeLike_33 rfl (lv_at hl 1 rfl) ?_
  refine r_get X M hq_1 (el_1 _ _) rfl inX3 5 (by decide) q63 rfl rfl dX3_becomeLike_34 ?_
  obtain ⟨σ5, e5, h⟩ := ol_e h
  refine r_put (x := (σ4 1 5)) (ty := .int) X M hq_14 (el_14 _ _) rfl inX3 tyX3_ok nmX3 5 (by decide) q63 rfl rfl rfl rfl rfl (Nat.le_of_ble_eq_true rfl) (pf_14_5 _ _ _) dX3_becomeLike_37 (fun H locs M => ?_)
  rw [← e5] at M
  refine lv_aload_n X.x X.b dX3_becomeLike_40 rfl (lv_at hl 1 rfl) ?_
  refine r_get X M hq_1 (el_1 _ _) rfl inX3 6 (by decide) q65 rfl rfl dX3_becomeLike_41 ?_
  refine lv_iconst (v := 0) X.x X.b dX3_becomeLike_44 (by decide) ?_
  refine lv_aload_n X.x X.b dX3_becomeLike_45 rfl (lv_at hl 0 rfl) ?_
  refine r_get X M hq_14 (el_14 _ _) rfl inX3 6 (by decide) q65 rfl rfl dX3_becomeLike_46 ?_
  refine lv_iconst (v := 0) X.x X.b dX3_becomeLike_49 (by decide) ?_
  refine lv_bipush (v := 10) X.x X.b dX3_becomeLike_50 (by decide) ?_
  obtain ⟨c6, h⟩ := it_n h
  obtain ⟨σ7, e7, h⟩ := ol_e h
  refine r_copy (q1 := 9) (q2 := 22) (n1 := 10) (n2 := 10) X M rfl rfl (lv_sub hl [] rfl) ⟨by decide, by decide⟩ c6 q232 q234 q233 q9 (by decide) (Nat.le_of_ble_eq_true rfl) dX3_becomeLike_52 (fun H locs M => ?_)
  rw [← e7] at M
  refine lv_aload_n X.x X.b dX3_becomeLike_55 rfl (lv_at hl 1 rfl) ?_
  refine r_get X M hq_1 (el_1 _ _) rfl inX3 7 (by decide) q66 rfl rfl dX3_becomeLike_56 ?_
  refine lv_iconst (v := 0) X.x X.b dX3_becomeLike_59 (by decide) ?_
  refine lv_aload_n X.x X.b dX3_becomeLike_60 rfl (lv_at hl 0 rfl) ?_
  refine r_get X M hq_14 (el_14 _ _) rfl inX3 7 (by decide) q66 rfl rfl dX3_becomeLike_61 ?_
  refine lv_iconst (v := 0) X.x X.b dX3_becomeLike_64 (by decide) ?_
  refine lv_bipush (v := 10) X.x X.b dX3_becomeLike_65 (by decide) ?_
  obtain ⟨c8, h⟩ := it_n h
  obtain ⟨σ9, e9, h⟩ := ol_e h
  refine r_copy (q1 := 10) (q2 := 23) (n1 := 10) (n2 := 10) X M rfl rfl (lv_sub hl [] rfl) ⟨by decide, by decide⟩ c8 q232 q234 q233 q9 (by decide) (Nat.le_of_ble_eq_true rfl) dX3_becomeLike_67 (fun H locs M => ?_)
  rw [← e9] at M
  refine lv_aload_n X.x X.b dX3_becomeLike_70 rfl (lv_at hl 1 rfl) ?_
  refine r_get X M hq_1 (el_1 _ _) rfl inX3 8 (by decide) q67 rfl rfl dX3_becomeLike_71 ?_
  refine lv_iconst (v := 0) X.x X.b dX3_becomeLike_74 (by decide) ?_
  refine lv_aload_n X.x X.b dX3_becomeLike_75 rfl (lv_at hl 0 rfl) ?_
  refine r_get X M hq_14 (el_14 _ _) rfl inX3 8 (by decide) q67 rfl rfl dX3_becomeLike_76 ?_
  refine lv_iconst (v := 0) X.x X.b dX3_becomeLike_79 (by decide) ?_
  refine lv_bipush (v := 10) X.x X.b dX3_becomeLike_80 (by decide) ?_
  obtain ⟨c10, h⟩ := it_n h
  obtain ⟨σ11, e11, h⟩ := ol_e h
  refine r_copy (q1 := 11) (q2 := 24) (n1 := 10) (n2 := 10) X M rfl rfl (lv_sub hl [] rfl) ⟨by decide, by decide⟩ c10 q232 q234 q233 q9 (by decide) (Nat.le_of_ble_eq_true rfl) dX3_becomeLike_82 (fun H locs M => ?_)
  rw [← e11] at M
  refine lv_aload_n X.x X.b dX3_becomeLike_85 rfl (lv_at hl 1 rfl) ?_
  refine r_get X M hq_1 (el_1 _ _) rfl inX3 9 (by decide) q68 rfl rfl dX3_becomeLike_86 ?_
  refine lv_iconst (v := 0) X.x X.b dX3_becomeLike_89 (by decide) ?_
  refine lv_aload_n X.x X.b dX3_becomeLike_90 rfl (lv_at hl 0 rfl) ?_
  refine r_get X M hq_14 (el_14 _ _) rfl inX3 9 (by decide) q68 rfl rfl dX3_becomeLike_91 ?_
  refine lv_iconst (v := 0) X.x X.b dX3_becomeLike_94 (by decide) ?_
  refine lv_bipush (v := 10) X.x X.b dX3_becomeLike_95 (by decide) ?_
  obtain ⟨c12, h⟩ := it_n h
  obtain ⟨σ13, e13, h⟩ := ol_e h
  refine r_copy (q1 := 12) (q2 := 25) (n1 := 10) (n2 := 10) X M rfl rfl (lv_sub hl [] rfl) ⟨by decide, by decide⟩ c12 q232 q234 q233 q9 (by decide) (Nat.le_of_ble_eq_true rfl) dX3_becomeLike_97 (fun H locs M => ?_)
  rw [← e13] at M
  refine lv_aload_n X.x X.b dX3_becomeLike_100 rfl (lv_at hl 1 rfl) ?_
  refine r_get X M hq_1 (el_1 _ _) rfl inX3 10 (by decide) q69 rfl rfl dX3_becomeLike_101 ?_
  refine lv_iconst (v := 0) X.x X.b dX3_becomeLike_104 (by decide) ?_
  refine lv_aload_n X.x X.b dX3_becomeLike_105 rfl (lv_at hl 0 rfl) ?_
  refine r_get X M hq_14 (el_14 _ _) rfl inX3 10 (by decide) q69 rfl rfl dX3_becomeLike_106 ?_
  refine lv_iconst (v := 0) X.x X.b dX3_becomeLike_109 (by decide) ?_
  refine lv_bipush (v := 24) X.x X.b dX3_becomeLike_110 (by decide) ?_
  obtain ⟨c14, h⟩ := it_n h
  obtain ⟨σ15, e15, h⟩ := ol_e h
  refine r_copy (q1 := 13) (q2 := 26) (n1 := 24) (n2 := 24) X M rfl rfl (lv_sub hl [] rfl) ⟨by decide, by decide⟩ c14 q232 q234 q233 q9 (by decide) (Nat.le_of_ble_eq_true rfl) dX3_becomeLike_112 (fun H locs M => ?_)
  rw [← e15] at M
  refine lv_aload_n X.x X.b dX3_becomeLike_115 rfl (lv_at hl 0 rfl) ?_
  refine r_get X M hq_14 (el_14 _ _) rfl inX3 0 (by decide) q52 rfl rfl dX3_becomeLike_116 ?_
  refine lv_aload_n X.x X.b dX3_becomeLike_119 rfl (lv_at hl 1 rfl) ?_
  refine r_get X M hq_1 (el_1 _ _) rfl inX3 0 (by decide) q52 rfl rfl dX3_becomeLike_120 ?_
  obtain ⟨r16, σ16, h16, h⟩ := ob_e h
  refine r_runV M (r_callV (As := [.ref (Γ.1 2)]) X M (lv_sub hl [] rfl) (T_X0_becomeLike h16 _) cal_X0_becomeLike q689 ⟨by decide, by decide⟩ hq_15 (el_15 _ _) rfl rfl rfl (Nat.le_of_ble_eq_true rfl) ⟨Nat.le_refl _, Nat.le_refl _⟩ dX3_becomeLike_123) (fun H locs M => ?_)
  clear h16
  exact r_vret X M h dX3_becomeLike_126
/-- StreetNumbers.image()I -/
def f_X6_image (σ : St) : Rs :=
  ob (f_X3_becomeLike σ) fun _ σ1 => (
  ol (st σ1 0 7 ((σ1 0 7) + 1)) fun σ2 => (
  some ((σ2 0 7), σ2)))
set_option maxRecDepth 100000 in
set_option maxHeartbeats 4000000 in
theorem T_X6_image {l : Launch} {Γ : Gm} {σ : St} {r : Int32} {σ' : St} (h : f_X6_image σ = some (r, σ')) : MetI l yX6_image cX6_image 1 .int 5 Γ σ [.ref (Γ.1 0)] r σ' := by
  intro sz
  refine met_in (by decide) (Nat.le_of_ble_eq_true rfl) (fun p e s m args below meth c ls X hsz M hl => ?_)
  subst hsz
  have X : Cx p s m args meth c cX6_image RX6 1 (some .int) Γ := X
  have hl : lv_has ls 1 [(0, .ref (Γ.1 0))] := hl
  unfold f_X6_image at h
  refine lv_aload_n X.x X.b dX6_image_0 rfl (lv_at hl 0 rfl) ?_
  refine r_get X M hq_0 (el_0 _ _) rfl inX6 1 (by decide) q189 rfl rfl dX6_image_1 ?_
  refine lv_aload_n X.x X.b dX6_image_4 rfl (lv_at hl 0 rfl) ?_
  refine r_get X M hq_0 (el_0 _ _) rfl inX6 0 (by decide) q188 rfl rfl dX6_image_5 ?_
  obtain ⟨r1, σ1, h1, h⟩ := ob_e h
  refine r_runV M (r_callV (As := [.ref (Γ.1 1)]) X M (lv_sub hl [] rfl) (T_X3_becomeLike h1 _) cal_X3_becomeLike q685 ⟨by decide, by decide⟩ hq_14 (el_14 _ _) rfl rfl rfl (Nat.le_of_ble_eq_true rfl) ⟨Nat.le_refl _, Nat.le_refl _⟩ dX6_image_8) (fun H locs M => ?_)
  clear h1
  refine lv_aload_n X.x X.b dX6_image_11 rfl (lv_at hl 0 rfl) ?_
  refine lv_dup X.x X.b dX6_image_12 rfl ?_
  refine r_get X M hq_0 (el_0 _ _) rfl inX6 7 (by decide) q195 rfl rfl dX6_image_13 ?_
  refine lv_iconst (v := 1) X.x X.b dX6_image_16 (by decide) ?_
  refine lv_iadd X.x X.b dX6_image_17 ?_
  obtain ⟨σ2, e2, h⟩ := ol_e h
  refine r_put (x := ((σ1 0 7) + 1)) (ty := .int) X M hq_0 (el_0 _ _) rfl inX6 tyX6_ok nmX6 7 (by decide) q195 rfl rfl rfl rfl rfl (Nat.le_of_ble_eq_true rfl) (pf_0_7 _ _ _) dX6_image_18 (fun H locs M => ?_)
  rw [← e2] at M
  refine lv_aload_n X.x X.b dX6_image_21 rfl (lv_at hl 0 rfl) ?_
  refine r_get X M hq_0 (el_0 _ _) rfl inX6 7 (by decide) q195 rfl rfl dX6_image_22 ?_
  exact r_iret X M rfl h dX6_image_25
def f_X6_judge_b54 (k54 : (Int32 → Int32 → Int32 → Int32 → St → Rs)) (x1 : Int32) (x2 : Int32) (x3 : Int32) (x4 : Int32) (σ : St) : Rs :=
  if x2 ≤ x4 then (
    some (x2, σ)
  ) else (
    ob (f_X2_number x1 x4 σ) fun r1 σ1 => (
    if r1 = x3 then (
      ob (f_X3_yardsAt x4 σ1) fun r2 σ2 => (
      k54 x1 x2 (x3 + r2) (x4 + 1) σ2)
    ) else (
      some (x4, σ1)
    ))
  )
set_option maxRecDepth 100000 in
set_option maxHeartbeats 4000000 in
theorem u_X6_judge_b54 {l : Launch} {Γ : Gm} {p : Program} {e : Env} {s : State} {m : MethodId} {args : Array Value} {below : List Frame} {meth : Method} {c : Code} {r : Int32} {σ' : St} {k54 : Int32 → Int32 → Int32 → Int32 → St → Rs} (X : Cx p s m args meth c cX6_judge RX6 5 (some .int) Γ) (H54 : ∀ (x1 : Int32) (x2 : Int32) (x3 : Int32) (x4 : Int32) (σ : St) (H : Heap) (locs : List Loc) (ls : Array Slot), k54 x1 x2 x3 x4 σ = some (r, σ') → Mv Γ σ s H locs → lv_has ls 5 [(0, .ref (Γ.1 0)), (1, .int x1), (2, .int x2), (3, .int x3), (4, .int x4)] → W p l e (rmd 5) s m args below meth c H locs 0 0 (MQ below (Qi Γ r σ' s.heap.size) args s 0 0 (Rg Γ s.heap.size)) (F0 m 54 ls [])) (x1 : Int32) (x2 : Int32) (x3 : Int32) (x4 : Int32) (σ : St) (H : Heap) (locs : List Loc) (ls : Array Slot) (h : f_X6_judge_b54 k54 x1 x2 x3 x4 σ = some (r, σ')) (M : Mv Γ σ s H locs) (hl : lv_has ls 5 [(0, .ref (Γ.1 0)), (1, .int x1), (2, .int x2), (3, .int x3), (4, .int x4)]) : W p l e (rmd 5) s m args below meth c H locs 0 0 (MQ below (Qi Γ r σ' s.heap.size) args s 0 0 (Rg Γ s.heap.size)) (F0 m 54 ls []) := by
  unfold f_X6_judge_b54 at h
  refine lv_iload X.x X.b dX6_judge_54 (lv_at hl 4 rfl) ?_
  refine lv_iload_n X.x X.b dX6_judge_56 rfl (lv_at hl 2 rfl) ?_
  refine lv_icmp_ge (tgt := 95) X.x X.b dX6_judge_57 (by decide) (fun c4 => ?_) (fun c4 => ?_)
  · have h := it_t c4 h
    refine lv_iload_n X.x X.b dX6_judge_95 rfl (lv_at hl 2 rfl) ?_
    exact r_iret X M rfl h dX6_judge_96
  · have h := it_f c4 h
    refine lv_aload_n X.x X.b dX6_judge_60 rfl (lv_at hl 0 rfl) ?_
    refine r_get X M hq_0 (el_0 _ _) rfl inX6 5 (by decide) q193 rfl rfl dX6_judge_61 ?_
    refine lv_iload_n X.x X.b dX6_judge_64 rfl (lv_at hl 1 rfl) ?_
    refine lv_iload X.x X.b dX6_judge_65 (lv_at hl 4 rfl) ?_
    obtain ⟨r1, σ1, h1, h⟩ := ob_e h
    refine r_runI M (r_callV (As := [.int x1, .int x4]) X M (lv_sub hl [] rfl) (T_X2_number h1 _) cal_X2_number q562 ⟨by decide, by decide⟩ hq_57 (el_57 _ _) rfl rfl rfl (Nat.le_of_ble_eq_true rfl) ⟨Nat.le_refl _, Nat.le_refl _⟩ dX6_judge_67) (fun H locs M => ?_)
    clear h1
    refine lv_iload_n X.x X.b dX6_judge_70 rfl (lv_at hl 3 rfl) ?_
    refine lv_icmp_eq (tgt := 77) X.x X.b dX6_judge_71 (by decide) (fun c3 => ?_) (fun c3 => ?_)
    · have h := it_t c3 h
      refine lv_iload_n X.x X.b dX6_judge_77 rfl (lv_at hl 3 rfl) ?_
      refine lv_aload_n X.x X.b dX6_judge_78 rfl (lv_at hl 0 rfl) ?_
      refine r_get X M hq_0 (el_0 _ _) rfl inX6 0 (by decide) q188 rfl rfl dX6_judge_79 ?_
      refine lv_iload X.x X.b dX6_judge_82 (lv_at hl 4 rfl) ?_
      obtain ⟨r2, σ2, h2, h⟩ := ob_e h
      refine r_runI M (r_callV (As := [.int x4]) X M (lv_sub hl [] rfl) (T_X3_yardsAt h2 _) cal_X3_yardsAt q268 ⟨by decide, by decide⟩ hq_1 (el_1 _ _) rfl rfl rfl (Nat.le_of_ble_eq_true rfl) ⟨Nat.le_refl _, Nat.le_refl _⟩ dX6_judge_84) (fun H locs M => ?_)
      clear h2
      refine lv_iadd X.x X.b dX6_judge_87 ?_
      refine lv_istore_n (lv' := [(3, .int (x3 + r2)), (0, .ref (Γ.1 0)), (1, .int x1), (2, .int x2), (4, .int x4)]) X.x X.b dX6_judge_88 rfl hl (by decide) rfl (fun ls hl => ?_)
      refine lv_iinc (v := (x4 + 1)) (lv' := [(4, .int (x4 + 1)), (3, .int (x3 + r2)), (0, .ref (Γ.1 0)), (1, .int x1), (2, .int x2)]) X.x X.b dX6_judge_89 hl (k := 4) rfl rfl (by decide) rfl (fun ls hl => ?_)
      refine lv_goto (tgt := 54) X.x X.b dX6_judge_92 (by decide) ?_
      exact H54 x1 x2 (x3 + r2) (x4 + 1) σ2 _ _ _ h M (lv_sub hl [2, 3, 4, 1, 0] rfl)
    · have h := it_f c3 h
      refine lv_iload X.x X.b dX6_judge_74 (lv_at hl 4 rfl) ?_
      exact r_iret X M rfl h dX6_judge_76
def f_X6_judge_L54 : Nat → Int32 → Int32 → Int32 → Int32 → St → Rs
  | 0 => fun _ _ _ _ _ => none
  | n + 1 => fun x1 x2 x3 x4 σ => f_X6_judge_b54 (f_X6_judge_L54 n) x1 x2 x3 x4 σ
theorem u_X6_judge_L54 {l : Launch} {Γ : Gm} {p : Program} {e : Env} {s : State} {m : MethodId} {args : Array Value} {below : List Frame} {meth : Method} {c : Code} {r : Int32} {σ' : St} (X : Cx p s m args meth c cX6_judge RX6 5 (some .int) Γ) : ∀ (n : Nat) (x1 : Int32) (x2 : Int32) (x3 : Int32) (x4 : Int32) (σ : St) (H : Heap) (locs : List Loc) (ls : Array Slot), f_X6_judge_L54 n x1 x2 x3 x4 σ = some (r, σ') → Mv Γ σ s H locs → lv_has ls 5 [(0, .ref (Γ.1 0)), (1, .int x1), (2, .int x2), (3, .int x3), (4, .int x4)] → W p l e (rmd 5) s m args below meth c H locs 0 0 (MQ below (Qi Γ r σ' s.heap.size) args s 0 0 (Rg Γ s.heap.size)) (F0 m 54 ls []) := by
  intro n
  induction n with
  | zero => intro x1 x2 x3 x4 σ H locs ls h; cases h
  | succ n ih => intro x1 x2 x3 x4 σ H locs ls h; exact u_X6_judge_b54 X  ih x1 x2 x3 x4 σ H locs ls h
/-- StreetNumbers.judge(I)I -/
def f_X6_judge (x1 : Int32) (σ : St) : Rs :=
  ob (f_X6_isSheet x1 σ) fun r1 σ1 => (
  if r1 = 0 then (
    ob (f_X6_failing 1 σ1) fun r6 σ6 => (
    some (r6, σ6))
  ) else (
    ob (f_X2_isMissing x1 σ1) fun r2 σ2 => (
    if r2 = 0 then (
      ob (f_X2_size x1 σ2) fun r3 σ3 => (
      f_X6_judge_L54 LF x1 (imin r3 (σ3 1 1)) 0 0 σ3)
    ) else (
      ob (f_X6_failing 2 σ2) fun r4 σ4 => (
      some (r4, σ4))
    ))
  ))
set_option maxRecDepth 100000 in
set_option maxHeartbeats 4000000 in
theorem T_X6_judge {l : Launch} {Γ : Gm} {x1 : Int32} {σ : St} {r : Int32} {σ' : St} (h : f_X6_judge x1 σ = some (r, σ')) : MetI l yX6_judge cX6_judge 5 .int 5 Γ σ [.ref (Γ.1 0), .int x1] r σ' := by
  intro sz
  refine met_in (by decide) (Nat.le_of_ble_eq_true rfl) (fun p e s m args below meth c ls X hsz M hl => ?_)
  subst hsz
  have X : Cx p s m args meth c cX6_judge RX6 5 (some .int) Γ := X
  have hl : lv_has ls 5 [(0, .ref (Γ.1 0)), (1, .int x1)] := hl
  unfold f_X6_judge at h
  refine lv_iload_n X.x X.b dX6_judge_0 rfl (lv_at hl 1 rfl) ?_
  obtain ⟨r1, σ1, h1, h⟩ := ob_e h
  refine r_runI M (r_callS (As := [.int x1]) X M (lv_sub hl [] rfl) (T_X6_isSheet h1 _) cal_X6_isSheet q542 ⟨by decide, by decide⟩ rfl rfl (Nat.le_of_ble_eq_true rfl) ⟨Nat.le_refl _, Nat.le_refl _⟩ dX6_judge_1) (fun H locs M => ?_)
  clear h1
  refine lv_if_ne (tgt := 13) X.x X.b dX6_judge_4 (by decide) (fun c7 => ?_) (fun c7 => ?_)
  · have h := it_f c7 h
    refine lv_aload_n X.x X.b dX6_judge_13 rfl (lv_at hl 0 rfl) ?_
    refine r_get X M hq_0 (el_0 _ _) rfl inX6 5 (by decide) q193 rfl rfl dX6_judge_14 ?_
    refine lv_iload_n X.x X.b dX6_judge_17 rfl (lv_at hl 1 rfl) ?_
    obtain ⟨r2, σ2, h2, h⟩ := ob_e h
    refine r_runI M (r_callV (As := [.int x1]) X M (lv_sub hl [] rfl) (T_X2_isMissing h2 _) cal_X2_isMissing q545 ⟨by decide, by decide⟩ hq_57 (el_57 _ _) rfl rfl rfl (Nat.le_of_ble_eq_true rfl) ⟨Nat.le_refl _, Nat.le_refl _⟩ dX6_judge_18) (fun H locs M => ?_)
    clear h2
    refine lv_if_eq (tgt := 30) X.x X.b dX6_judge_21 (by decide) (fun c5 => ?_) (fun c5 => ?_)
    · have h := it_t c5 h
      refine lv_aload_n X.x X.b dX6_judge_30 rfl (lv_at hl 0 rfl) ?_
      refine r_get X M hq_0 (el_0 _ _) rfl inX6 5 (by decide) q193 rfl rfl dX6_judge_31 ?_
      refine lv_iload_n X.x X.b dX6_judge_34 rfl (lv_at hl 1 rfl) ?_
      obtain ⟨r3, σ3, h3, h⟩ := ob_e h
      refine r_runI M (r_callV (As := [.int x1]) X M (lv_sub hl [] rfl) (T_X2_size h3 _) cal_X2_size q558 ⟨by decide, by decide⟩ hq_57 (el_57 _ _) rfl rfl rfl (Nat.le_of_ble_eq_true rfl) ⟨Nat.le_refl _, Nat.le_refl _⟩ dX6_judge_35) (fun H locs M => ?_)
      clear h3
      refine lv_aload_n X.x X.b dX6_judge_38 rfl (lv_at hl 0 rfl) ?_
      refine r_get X M hq_0 (el_0 _ _) rfl inX6 0 (by decide) q188 rfl rfl dX6_judge_39 ?_
      refine r_get X M hq_1 (el_1 _ _) rfl inX3 1 (by decide) q56 rfl rfl dX6_judge_42 ?_
      refine r_mmin X (lv_sub hl [] rfl) q305 q294 q10 q295 (by decide) (Nat.le_of_ble_eq_true rfl) (by decide) ⟨Nat.le_refl _, Nat.le_refl _⟩ dX6_judge_45 ?_
      refine lv_istore_n (lv' := [(2, .int (imin r3 (σ3 1 1))), (0, .ref (Γ.1 0)), (1, .int x1)]) X.x X.b dX6_judge_48 rfl hl (by decide) rfl (fun ls hl => ?_)
      refine lv_iconst (v := 0) X.x X.b dX6_judge_49 (by decide) ?_
      refine lv_istore_n (lv' := [(3, .int 0), (2, .int (imin r3 (σ3 1 1))), (0, .ref (Γ.1 0)), (1, .int x1)]) X.x X.b dX6_judge_50 rfl hl (by decide) rfl (fun ls hl => ?_)
      refine lv_iconst (v := 0) X.x X.b dX6_judge_51 (by decide) ?_
      refine lv_istore (lv' := [(4, .int 0), (3, .int 0), (2, .int (imin r3 (σ3 1 1))), (0, .ref (Γ.1 0)), (1, .int x1)]) X.x X.b dX6_judge_52 hl (by decide) rfl (fun ls hl => ?_)
      exact u_X6_judge_L54 X LF x1 (imin r3 (σ3 1 1)) 0 0 σ3 _ _ _ h M (lv_sub hl [3, 4, 2, 1, 0] rfl)
    · have h := it_f c5 h
      refine lv_aload_n X.x X.b dX6_judge_24 rfl (lv_at hl 0 rfl) ?_
      refine lv_iconst (v := 2) X.x X.b dX6_judge_25 (by decide) ?_
      obtain ⟨r4, σ4, h4, h⟩ := ob_e h
      refine r_runI M (r_callV (As := [.int 2]) X M (lv_sub hl [] rfl) (T_X6_failing h4 _) cal_X6_failing q223 ⟨by decide, by decide⟩ hq_0 (el_0 _ _) rfl rfl rfl (Nat.le_of_ble_eq_true rfl) ⟨Nat.le_refl _, Nat.le_refl _⟩ dX6_judge_26) (fun H locs M => ?_)
      clear h4
      exact r_iret X M rfl h dX6_judge_29
  · have h := it_t c7 h
    refine lv_aload_n X.x X.b dX6_judge_7 rfl (lv_at hl 0 rfl) ?_
    refine lv_iconst (v := 1) X.x X.b dX6_judge_8 (by decide) ?_
    obtain ⟨r6, σ6, h6, h⟩ := ob_e h
    refine r_runI M (r_callV (As := [.int 1]) X M (lv_sub hl [] rfl) (T_X6_failing h6 _) cal_X6_failing q223 ⟨by decide, by decide⟩ hq_0 (el_0 _ _) rfl rfl rfl (Nat.le_of_ble_eq_true rfl) ⟨Nat.le_refl _, Nat.le_refl _⟩ dX6_judge_9) (fun H locs M => ?_)
    clear h6
    exact r_iret X M rfl h dX6_judge_12
/-- StreetNumbers.law(IIII)I -/
def f_X6_law (x1 : Int32) (x2 : Int32) (x3 : Int32) (x4 : Int32) (σ : St) : Rs :=
  ob (f_X6_isUse x1 σ) fun r1 σ1 => (
  if r1 = 0 then (
    ob (f_X6_failing 1 σ1) fun r3 σ3 => (
    some (r3, σ3))
  ) else (
    ob (f_X0_give x1 x2 x3 x4 σ1) fun r2 σ2 => (
    some (r2, σ2))
  ))
set_option maxRecDepth 100000 in
set_option maxHeartbeats 4000000 in
theorem T_X6_law {l : Launch} {Γ : Gm} {x1 : Int32} {x2 : Int32} {x3 : Int32} {x4 : Int32} {σ : St} {r : Int32} {σ' : St} (h : f_X6_law x1 x2 x3 x4 σ = some (r, σ')) : MetI l yX6_law cX6_law 5 .int 4 Γ σ [.ref (Γ.1 0), .int x1, .int x2, .int x3, .int x4] r σ' := by
  intro sz
  refine met_in (by decide) (Nat.le_of_ble_eq_true rfl) (fun p e s m args below meth c ls X hsz M hl => ?_)
  subst hsz
  have X : Cx p s m args meth c cX6_law RX6 5 (some .int) Γ := X
  have hl : lv_has ls 5 [(0, .ref (Γ.1 0)), (1, .int x1), (2, .int x2), (3, .int x3), (4, .int x4)] := hl
  unfold f_X6_law at h
  refine lv_iload_n X.x X.b dX6_law_0 rfl (lv_at hl 1 rfl) ?_
  obtain ⟨r1, σ1, h1, h⟩ := ob_e h
  refine r_runI M (r_callS (As := [.int x1]) X M (lv_sub hl [] rfl) (T_X6_isUse h1 _) cal_X6_isUse q386 ⟨by decide, by decide⟩ rfl rfl (Nat.le_of_ble_eq_true rfl) ⟨Nat.le_refl _, Nat.le_refl _⟩ dX6_law_1) (fun H locs M => ?_)
  clear h1
  refine lv_if_ne (tgt := 13) X.x X.b dX6_law_4 (by decide) (fun c4 => ?_) (fun c4 => ?_)
  · have h := it_f c4 h
    refine lv_aload_n X.x X.b dX6_law_13 rfl (lv_at hl 0 rfl) ?_
    refine r_get X M hq_0 (el_0 _ _) rfl inX6 0 (by decide) q188 rfl rfl dX6_law_14 ?_
    refine r_get X M hq_1 (el_1 _ _) rfl inX3 0 (by decide) q53 rfl rfl dX6_law_17 ?_
    refine lv_iload_n X.x X.b dX6_law_20 rfl (lv_at hl 1 rfl) ?_
    refine lv_iload_n X.x X.b dX6_law_21 rfl (lv_at hl 2 rfl) ?_
    refine lv_iload_n X.x X.b dX6_law_22 rfl (lv_at hl 3 rfl) ?_
    refine lv_iload X.x X.b dX6_law_23 (lv_at hl 4 rfl) ?_
    obtain ⟨r2, σ2, h2, h⟩ := ob_e h
    refine r_runI M (r_callV (As := [.int x1, .int x2, .int x3, .int x4]) X M (lv_sub hl [] rfl) (T_X0_give h2 _) cal_X0_give q446 ⟨by decide, by decide⟩ hq_2 (el_2 _ _) rfl rfl rfl (Nat.le_of_ble_eq_true rfl) ⟨Nat.le_refl _, Nat.le_refl _⟩ dX6_law_25) (fun H locs M => ?_)
    clear h2
    exact r_iret X M rfl h dX6_law_28
  · have h := it_t c4 h
    refine lv_aload_n X.x X.b dX6_law_7 rfl (lv_at hl 0 rfl) ?_
    refine lv_iconst (v := 1) X.x X.b dX6_law_8 (by decide) ?_
    obtain ⟨r3, σ3, h3, h⟩ := ob_e h
    refine r_runI M (r_callV (As := [.int 1]) X M (lv_sub hl [] rfl) (T_X6_failing h3 _) cal_X6_failing q223 ⟨by decide, by decide⟩ hq_0 (el_0 _ _) rfl rfl rfl (Nat.le_of_ble_eq_true rfl) ⟨Nat.le_refl _, Nat.le_refl _⟩ dX6_law_9) (fun H locs M => ?_)
    clear h3
    exact r_iret X M rfl h dX6_law_12
