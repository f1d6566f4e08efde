/-! The constructors -/
theorem va_AOA.moved {u U : State} (hvm : u.vm.Alike U.vm) (h : va_AOA .int u) : va_AOA .int U := by
  simp only [va_AOA, Cond.before, Cond.holds, Cond.value, beq_iff_eq] at h
  cases hc : u.vm.findClass (FieldType.array .int).toString with
  | none => simp [hc] at h
  | some comp =>
    simp only [hc, Option.bind_some, Option.bind_eq_some_iff, Option.map_eq_some_iff] at h
    obtain ⟨c, hi, k, hk, hb⟩ := h
    obtain ⟨k', hk', he⟩ := hvm.2.2 _ _ hk
    have e1 := va_idx_bare U.vm comp
    have e2 := va_idx_bare u.vm comp
    have e3 : U.vm.bare = u.vm.bare := by first | exact hvm.bare_eq | exact hvm.bare_eq.symm
    rw [e3] at e1
    have hi2 := (e1.symm.trans e2).trans hi
    have f1 : U.vm.findClass (FieldType.array .int).toString = some comp := by rw [hvm.findClass]; exact hc
    simp only [va_AOA, Cond.before, Cond.holds, Cond.value]
    rw [f1, Option.bind_some]
    refine (congrArg (fun o : Option Nat => (o.bind (fun c => (U.vm.classes[c]?).map fun (k : Class) => match k.kind with | .array _ ty => decide (ty = FieldType.array .int) && decide (U.vm.findClass ("[" ++ (FieldType.array .int).toString) = some c) | _ => false) == some true)) hi2).trans ?_
    have hkk : k'.kind = k.kind := by rw [he]
    cases hkd : k.kind with
    | array cc ty =>
      rw [hkd] at hb
      simp only [Option.bind_some, hk', Option.map_some, hkk, hkd, hvm.findClass]
      simpa using hb
    | _ => rw [hkd] at hb; simp at hb
/-- what the constructors ask of the machine's tables -/
def Kx (Dd : va_G) (cI cQ : ClassId) (U : State) : Prop := va_K Dd clsL [(cI, .int), (cQ, .array .int)] U ∧ va_AOA .int U
theorem Kx.moved {Dd : va_G} {cI cQ : ClassId} {u U : State} (hvm : u.vm.Alike U.vm) (h : Kx Dd cI cQ u) : Kx Dd cI cQ U := ⟨va_K.moved hvm h.1, h.2.moved hvm⟩
def Po (Dd : va_G) (cI cQ : ClassId) (av : List Value) (w : va_W) (sz : Nat) : Array Value → State → Prop := va_Pc av (fun U => U.heap.size = sz ∧ va_P Dd clsL w U.heap ∧ Kx Dd cI cQ U ∧ va_D (fun _ => True) w)
def Qo {S : Type} (Dd : va_G) (f : S → va_W) (w : va_W) (sz : Nat) : Array Value → State → Outcome → State → Prop := va_Qv (fun (_ : S) => True) (fun u t => va_P Dd clsL (f u) t.heap ∧ va_D (va_A w sz) (f u)) (va_A w sz)
theorem Po_blind {Dd : va_G} {cI cQ : ClassId} {av : List Value} {w : va_W} {sz : Nat} : FrameBlind (Po Dd cI cQ av w sz) := by
  intro a U g mk q
  obtain ⟨q0, q1, qP, qK, qD⟩ := q
  exact ⟨q0, q1, qP, qK.moved (Vm.Alike.refl U.vm), qD⟩
theorem rc_pre {Dd : va_G} {cI cQ : ClassId} {s : State} {H : Heap} {w : va_W} {A : Nat → Prop} {av : List Value} (hK : Kx Dd cI cQ s) (hP : va_P Dd clsL w H) (hD : va_D A w) : ∀ U : State, U.heap = H → s.WarmedH U.vm → Po Dd cI cQ av w H.size av.toArray U := fun U hU hW => ⟨rfl, by rw [hU], by rw [hU]; exact hP, hK.moved hW.alike, hD.weaken (fun _ _ _ _ => trivial)⟩
theorem ws_range {α : Type} (l r : List α) : (List.range l.length).map (fun i => (l ++ r)[i]?) = l.map some := by
  apply List.ext_getElem?
  intro k
  rw [List.getElem?_map, List.getElem?_map]
  by_cases hk : k < l.length
  · rw [List.getElem?_range hk]
    simp [hk, List.getElem?_append_left hk]
  · rw [List.getElem?_eq_none (by rw [List.length_range]; omega), List.getElem?_eq_none (by omega)]
    rfl
theorem nd_range (n : Nat) : va_nd (List.range n) = true := by
  have : ∀ (l : List Nat), l.Nodup → va_nd l = true := by
    intro l
    induction l with
    | nil => intro _; rfl
    | cons a l ih =>
      intro h
      rw [List.nodup_cons] at h
      simp only [va_nd, Bool.and_eq_true, decide_eq_true_eq]
      exact ⟨h.1, ih h.2⟩
  exact this _ List.nodup_range
section CO
variable {p : Program} {l : Launch} {e : Env} {R : Room} {s : State} {m : MethodId} {args : Array Value} {below : List Frame} {meth : Method} {c : Code} {H : Heap} {locs : List Loc} {cells slots : Nat} {Q : State → Prop}
variable {cc : ByteArray} {pc : Nat} {ls : Array Slot} {rest : List Value} {Dd : va_G} {cI cQ : ClassId} {A : Nat → Prop} {H0 : Heap} {ws : va_W}
theorem rc_newa (hexec : p.tables.exec = Jvm.exec) (hb : c.code = cc) (harr : (Cond.arrayClass .int).before args s = true) (hK : Kx Dd cI cQ s) (hP : va_P Dd clsL ws H) (hD : va_D A ws) (hS : va_S A H0 H locs) (hA : ∀ q, H0.size ≤ q → A q) {n : Int32} {N : Nat} (hn : ¬ n < 0) (hN : n.toNatClampNeg = N) (hbytes : N * componentBytes .int ≤ 536870912) (hcells : cells + 1 ≤ R.cells) (hslots : slots + N ≤ R.slots) (hdg : decode cc pc = .ok (.newarray .int, 2))
    (kk : ∀ (q : Nat) (H1 : Heap), va_P Dd clsL (ws ++ [(q, .inl (cI, N, .inl (fun _ => 0)))]) H1 → va_D A (ws ++ [(q, .inl (cI, N, .inl (fun _ => 0)))]) → va_S A H0 H1 locs → W p l e R s m args below meth c H1 locs (cells + 1) (slots + N) Q (F0 m (pc + 2) ls (.ref q :: rest))) : W p l e R s m args below meth c H locs cells slots Q (F0 m pc ls (.int n :: rest)) := by
  refine va_newa (atype := .int) (ty := .int) (a0 := (N, .inl (fun _ => 0))) hexec hb harr rfl hK.1 hP hD hS hA (fun _ => rfl) hn hN hbytes hcells hslots hdg (fun q cA H1 hK1 hP1 hD1 hS1 => ?_)
  have e1 := va_nm_int (hK1.2 2 (cA, .int) rfl).2
  have e2 := va_nm_int (hK.1.2 0 (cI, .int) rfl).2
  have e : cA = cI := Option.some.inj (e1.symm.trans e2)
  subst e
  exact kk q H1 hP1 hD1 hS1
theorem rc_mna (hexec : p.tables.exec = Jvm.exec) (hb : c.code = cc) {own : String} {index : Nat} (hown : s.vm.findClass own = some m.cls) (hclink : (Cond.classLink own index "[[I").before args s = true) (harr : (Cond.arrayClass .int).before args s = true) (hK : Kx Dd cI cQ s) (hP : va_P Dd clsL ws H) (hD : va_D A ws) (hS : va_S A H0 H locs) (hA : ∀ q, H0.size ≤ q → A q) {n k : Int32} {N K : Nat} (hn : ¬ n < 0) (hk : ¬ k < 0) (hN : n.toNatClampNeg = N) (hM : k.toNatClampNeg = K) (hb1 : N * 4 ≤ 536870912) (hb2 : K * componentBytes .int ≤ 536870912) (hb3 : K ≤ 536870912) (hcells : cells + (1 + N) ≤ R.cells) (hslots : slots + (N + N * K) ≤ R.slots) (hdg : decode cc pc = .ok (.multianewarray index 2, 4))
    (kk : ∀ (q : Nat) (r : Nat → Nat) (H1 : Heap), va_P Dd clsL ((ws ++ [(q, .inl (cQ, N, .inr (.inr (.inr (.inr (fun i => if i < N then some (r i) else none))))))]) ++ (List.range N).map (fun i => (r i, .inl (cI, K, .inl (fun _ => 0))))) H1 → va_D A ((ws ++ [(q, .inl (cQ, N, .inr (.inr (.inr (.inr (fun i => if i < N then some (r i) else none))))))]) ++ (List.range N).map (fun i => (r i, .inl (cI, K, .inl (fun _ => 0))))) → va_S A H0 H1 locs → W p l e R s m args below meth c H1 locs (cells + 1 + N) (slots + N + N * K) Q (F0 m (pc + 4) ls (.ref q :: rest))) : W p l e R s m args below meth c H locs cells slots Q (F0 m pc ls (.int k :: .int n :: rest)) := by
  have hcy : s.vm.findClass (FieldType.array .int).toString = some cI := va_nm_int (hK.1.2 0 (cI, .int) rfl).2
  refine va_mna (X := ws) (L := []) (f := fun _ => .inl (cI, K, .inl (fun _ => 0))) (ty := .int) (cy := cI) (z := (K, .inl (fun _ => 0))) hexec hb hown hclink hK.2 harr hcy hK.1 (by show va_P Dd clsL (ws ++ []) H; rw [List.append_nil]; exact hP) (by show va_D A (ws ++ []); rw [List.append_nil]; exact hD) hS hA hn hk hN hM hb1 hb2 hb3 rfl rfl hcells hslots (fun c => ?_) hdg (fun q r cA H1 hinj _ hK1 hP1 hD1 hS1 => ?_)
  · show _ = arrV c K (fun j => .int 0)
    show ({ cls := c, slots := Array.replicate K (defaultValue .int), vm := .none } : Cell) = _
    exact arrV_new ..
  · have e1 : s.vm.findClass ("[" ++ (FieldType.array .int).toString) = some cA := (hK1.2 2 (cA, .array .int) rfl).2
    have e2 : s.vm.findClass ("[" ++ (FieldType.array .int).toString) = some cQ := (hK.1.2 1 (cQ, .array .int) rfl).2
    have e : cA = cQ := Option.some.inj (e1.symm.trans e2)
    subst e
    have hpl : va_pl ([] ++ (List.range N).map r) (vr_up (fun _ => .inl (cI, K, .inl (fun _ => 0))) ((List.range N).map r) (.inl (cI, (K, .inl (fun _ => 0))))) = (List.range N).map (fun i => (r i, (.inl (cI, K, .inl (fun _ => 0)) : va_E))) := by
      unfold va_pl
      rw [List.nil_append, List.map_map]
      apply List.map_congr_left
      intro i hi
      show (r i, vr_up _ _ _ (r i)) = _
      rw [vr_up_in (List.mem_map.mpr ⟨i, hi, rfl⟩)]
    rw [hpl] at hP1 hD1
    exact kk q r H1 hP1 hD1 hS1
theorem rc_call {S : Type} {f : S → va_W} {u0 : Nat × va_E} {w0 : va_W} {mc ms : Nat} {a : Array Value} {st0 : List Value} (hP : va_P Dd clsL (w0 ++ [u0]) H) (hD : va_D A (w0 ++ [u0])) (hS : va_S A H0 H locs) (hA : ∀ q, H0.size ≤ q → A q) (hr : va_Run p l e R s m args below meth c H locs cells slots mc ms (F0 m pc ls st0) rest (Qo Dd f [u0] H.size a) (va_A [u0] H.size))
    (kk : ∀ (u : S) (H1 : Heap) (locs1 : List Loc), va_P Dd clsL (w0 ++ f u) H1 → va_D A (w0 ++ f u) → va_S A H0 H1 locs1 → W p l e R s m args below meth c H1 locs1 (cells + mc) (slots + ms) Q (F0 m (pc + 3) ls rest)) : W p l e R s m args below meth c H locs cells slots Q (F0 m pc ls st0) := by
  have hC : [w0.length].map (fun i => (w0 ++ [u0])[i]?) = [u0].map some := by simp
  have hF := va_free (wc := [u0]) hD hS hA [w0.length] hC
  refine va_callv hr hS (fun q _ h => hF q h) hF (fun u t H1 locs1 ht hvm hw hB hz hk hS1 => ?_)
  rw [ht] at hB
  obtain ⟨hP2, hD2⟩ := va_join (wc := [u0]) (wr := w0) (w1 := f u) hP hD [w0.length] (List.range w0.length) hC (ws_range w0 [u0]) (nd_range _) (fun i hi h => by rw [List.mem_range] at hi; rw [List.mem_singleton] at h; omega) hk hF hB.1 hB.2
  exact kk u H1 locs1 hP2 hD2 hS1
theorem rc_fin {S : Type} {f : S → va_W} (u : S) {w : va_W} (hx : p.tables.exec = Jvm.exec) (hb : c.code = cc) (hr : meth.sig.returnType = none) (hlocks : meth.locks = false) (hAe : va_A w s.heap.size = A) (hP : va_P Dd clsL (f u) H) (hD : va_D A (f u)) (hS : va_S A s.heap H locs) (hdg : decode cc pc = .ok (.return_, 1)) : W p l e R s m args below meth c H locs cells slots (MQ below (Qo Dd f w s.heap.size) args s cells slots A) (F0 m pc ls []) := by
  subst hAe
  exact W.vret hx hb hr (fun t ht hW => ⟨⟨u, rfl, trivial, (by show va_P Dd clsL (f u) t.heap; rw [ht]; exact hP), hD⟩, hS.F ht⟩) hS.2.2 hdg
end CO
theorem q16 : Cond.methodLink "StreetNumbers" 1 ⟨"java/lang/Object", "<init>", "()V"⟩ ∈ gT := gT_t 16 (by decide +kernel) rfl
theorem q17 : Cond.instanceMethod ⟨"java/lang/Object", "<init>", "()V"⟩ ∈ gT := gT_t 17 (by decide +kernel) rfl
theorem q18 : Cond.code ⟨"java/lang/Object", "<init>", "()V"⟩ object_method_1_code 1 (Option.none : Option FieldType) ∈ gT := gT_t 18 (by decide +kernel) rfl
theorem q19 : Cond.classLink "StreetNumbers" 7 "StreetNumbers$Street" ∈ gT := gT_t 19 (by decide +kernel) rfl
theorem q20 : Cond.instantiable "StreetNumbers$Street" 11 ∈ gT := gT_t 20 (by decide +kernel) rfl
theorem q21 : Cond.methodLink "StreetNumbers" 9 ⟨"StreetNumbers$Street", "<init>", "()V"⟩ ∈ gT := gT_t 21 (by decide +kernel) rfl
theorem q22 : Cond.instanceMethod ⟨"StreetNumbers$Street", "<init>", "()V"⟩ ∈ gT := gT_t 22 (by decide +kernel) rfl
theorem q23 : Cond.code ⟨"StreetNumbers$Street", "<init>", "()V"⟩ prog_5_method_1_code 1 (Option.none : Option FieldType) ∈ gT := gT_t 23 (by decide +kernel) rfl
theorem q24 : Cond.methodLink "StreetNumbers$Street" 3 ⟨"java/lang/Object", "<init>", "()V"⟩ ∈ gT := gT_t 24 (by decide +kernel) rfl
theorem q25 : Cond.classLink "StreetNumbers$Street" 9 "StreetNumbers$Laws" ∈ gT := gT_t 25 (by decide +kernel) rfl
theorem q26 : Cond.instantiable "StreetNumbers$Laws" 5 ∈ gT := gT_t 26 (by decide +kernel) rfl
theorem q27 : Cond.methodLink "StreetNumbers$Street" 11 ⟨"StreetNumbers$Laws", "<init>", "()V"⟩ ∈ gT := gT_t 27 (by decide +kernel) rfl
theorem q28 : Cond.instanceMethod ⟨"StreetNumbers$Laws", "<init>", "()V"⟩ ∈ gT := gT_t 28 (by decide +kernel) rfl
theorem q29 : Cond.code ⟨"StreetNumbers$Laws", "<init>", "()V"⟩ prog_2_method_1_code 1 (Option.none : Option FieldType) ∈ gT := gT_t 29 (by decide +kernel) rfl
theorem q30 : Cond.methodLink "StreetNumbers$Laws" 3 ⟨"java/lang/Object", "<init>", "()V"⟩ ∈ gT := gT_t 30 (by decide +kernel) rfl
theorem q31 : Cond.classLink "StreetNumbers$Laws" 15 "[[I" ∈ gT := gT_t 31 (by decide +kernel) rfl
theorem q51 : Cond.arrayClass FieldType.int ∈ gT := gT_t 51 (by decide +kernel) rfl
theorem q93 : Cond.classLink "StreetNumbers" 19 "StreetNumbers$Reader" ∈ gT := gT_t 93 (by decide +kernel) rfl
theorem q94 : Cond.instantiable "StreetNumbers$Reader" 6 ∈ gT := gT_t 94 (by decide +kernel) rfl
theorem q95 : Cond.methodLink "StreetNumbers" 21 ⟨"StreetNumbers$Reader", "<init>", "()V"⟩ ∈ gT := gT_t 95 (by decide +kernel) rfl
theorem q96 : Cond.instanceMethod ⟨"StreetNumbers$Reader", "<init>", "()V"⟩ ∈ gT := gT_t 96 (by decide +kernel) rfl
theorem q97 : Cond.code ⟨"StreetNumbers$Reader", "<init>", "()V"⟩ prog_3_method_1_code 1 (Option.none : Option FieldType) ∈ gT := gT_t 97 (by decide +kernel) rfl
theorem q98 : Cond.methodLink "StreetNumbers$Reader" 3 ⟨"java/lang/Object", "<init>", "()V"⟩ ∈ gT := gT_t 98 (by decide +kernel) rfl
theorem q120 : Cond.classLink "StreetNumbers" 26 "StreetNumbers$Thoughts" ∈ gT := gT_t 120 (by decide +kernel) rfl
theorem q121 : Cond.instantiable "StreetNumbers$Thoughts" 5 ∈ gT := gT_t 121 (by decide +kernel) rfl
theorem q122 : Cond.methodLink "StreetNumbers" 28 ⟨"StreetNumbers$Thoughts", "<init>", "()V"⟩ ∈ gT := gT_t 122 (by decide +kernel) rfl
theorem q123 : Cond.instanceMethod ⟨"StreetNumbers$Thoughts", "<init>", "()V"⟩ ∈ gT := gT_t 123 (by decide +kernel) rfl
theorem q124 : Cond.code ⟨"StreetNumbers$Thoughts", "<init>", "()V"⟩ prog_6_method_1_code 1 (Option.none : Option FieldType) ∈ gT := gT_t 124 (by decide +kernel) rfl
theorem q125 : Cond.methodLink "StreetNumbers$Thoughts" 3 ⟨"java/lang/Object", "<init>", "()V"⟩ ∈ gT := gT_t 125 (by decide +kernel) rfl
theorem q126 : Cond.classLink "StreetNumbers$Thoughts" 11 "[[I" ∈ gT := gT_t 126 (by decide +kernel) rfl
theorem q144 : Cond.classLink "StreetNumbers" 33 "StreetNumbers$Voices" ∈ gT := gT_t 144 (by decide +kernel) rfl
theorem q145 : Cond.instantiable "StreetNumbers$Voices" 6 ∈ gT := gT_t 145 (by decide +kernel) rfl
theorem q146 : Cond.methodLink "StreetNumbers" 35 ⟨"StreetNumbers$Voices", "<init>", "()V"⟩ ∈ gT := gT_t 146 (by decide +kernel) rfl
theorem q147 : Cond.instanceMethod ⟨"StreetNumbers$Voices", "<init>", "()V"⟩ ∈ gT := gT_t 147 (by decide +kernel) rfl
theorem q148 : Cond.code ⟨"StreetNumbers$Voices", "<init>", "()V"⟩ prog_7_method_1_code 1 (Option.none : Option FieldType) ∈ gT := gT_t 148 (by decide +kernel) rfl
theorem q149 : Cond.methodLink "StreetNumbers$Voices" 3 ⟨"java/lang/Object", "<init>", "()V"⟩ ∈ gT := gT_t 149 (by decide +kernel) rfl
theorem q171 : Cond.classLink "StreetNumbers" 40 "StreetNumbers$Sheets" ∈ gT := gT_t 171 (by decide +kernel) rfl
theorem q172 : Cond.instantiable "StreetNumbers$Sheets" 3 ∈ gT := gT_t 172 (by decide +kernel) rfl
theorem q173 : Cond.methodLink "StreetNumbers" 42 ⟨"StreetNumbers$Sheets", "<init>", "()V"⟩ ∈ gT := gT_t 173 (by decide +kernel) rfl
theorem q174 : Cond.instanceMethod ⟨"StreetNumbers$Sheets", "<init>", "()V"⟩ ∈ gT := gT_t 174 (by decide +kernel) rfl
theorem q175 : Cond.code ⟨"StreetNumbers$Sheets", "<init>", "()V"⟩ prog_4_method_1_code 1 (Option.none : Option FieldType) ∈ gT := gT_t 175 (by decide +kernel) rfl
theorem q176 : Cond.methodLink "StreetNumbers$Sheets" 1 ⟨"java/lang/Object", "<init>", "()V"⟩ ∈ gT := gT_t 176 (by decide +kernel) rfl
theorem q177 : Cond.classLink "StreetNumbers$Sheets" 9 "[[I" ∈ gT := gT_t 177 (by decide +kernel) rfl
theorem q727 : Cond.methodLink "StreetNumbersModel" 1 ⟨"java/lang/Object", "<init>", "()V"⟩ ∈ gT := gT_t 727 (by decide +kernel) rfl
def at_X0 (cI cQ : ClassId) (h0 : Nat) (u : (Nat × Nat × (Nat → Nat) × Nat × Nat)) : va_W := [(h0, .inr (0, [.ref u.1, .int 0, .ref u.2.1, .ref u.2.2.2.1, .ref u.2.2.2.2])), (u.1, .inl (cI, 60, .inl (fun _ => 0))), (u.2.1, .inl (cQ, 2, .inr (.inr (.inr (.inr (fun i => if i < 2 then some (u.2.2.1 i) else none)))))), ((u.2.2.1 0), .inl (cI, 60, .inl (fun _ => 0))), ((u.2.2.1 1), .inl (cI, 60, .inl (fun _ => 0))), (u.2.2.2.1, .inl (cI, 2, .inl (fun _ => 0))), (u.2.2.2.2, .inl (cI, 60, .inl (fun _ => 0)))]
set_option maxHeartbeats 4000000 in
set_option maxRecDepth 100000 in
theorem C_X0_init (l : Launch) (Dd : va_G) (cI cQ : ClassId) (h0 sz : Nat) : Met l yX0_init (Cond.code yX0_init cX0_init 1 none :: gT) { frames := 2, cells := 6, slots := 244, locals := 48 } (Po Dd cI cQ [.ref h0] [(h0, .inr (0, [.null, .int 0, .null, .null, .null]))] sz) (Qo Dd (at_X0 cI cQ h0) [(h0, .inr (0, [.null, .int 0, .null, .null, .null]))] sz) 6 244 (va_A [(h0, .inr (0, [.null, .int 0, .null, .null, .null]))] sz) := by
  refine Met.ofW (cc := cX0_init) (maxL := 1) (ret := none) (by decide) rfl ?_
  intro p e s m args below meth c s₁ B hml hv
  obtain ⟨rfl, hsz, hP, hK, hD0⟩ := hv
  have hx := B.exec
  have hb := B.bytes
  have hr := B.returns
  have hts : ∀ w ∈ gT, w.before _ s = true := fun w hw => atoms_spec (ws := Cond.code yX0_init cX0_init 1 none :: gT) B.pre w (List.mem_cons_of_mem _ hw)
  have hown : s.vm.findClass RX0 = some m.cls := findClass_of_methodNamed B.named
  have hlocks := B.notSynchronized
  have hin : meth.name = "<init>" := (name_of_methodNamed B.named B.method).1
  subst hsz
  have hD := hD0.self (sz := s.heap.size)
  generalize hAe : va_A [(h0, .inr (0, [.null, .int 0, .null, .null, .null]))] s.heap.size = A at hD ⊢
  have hA : ∀ q : Nat, s.heap.size ≤ q → A q := fun q h => by rw [← hAe]; exact Or.inr h
  have hS : va_S A s.heap s.heap [] := va_S.rf
  have hl := lv_entry ([.ref h0]) (n := 1) (Nat.le_of_ble_eq_true rfl)
  rw [lg_entry_eq]
  generalize (lg_sl ([.ref h0]) ++ List.replicate (1 - (lg_sl ([.ref h0])).length) Slot.unset).toArray = ls at hl ⊢
  have hl : lv_has ls 1 [(0, .ref h0)] := hl
  refine lv_aload_n hx hb dX0_init_0 rfl (lv_at hl 0 rfl) ?_
  refine W.objInit hx hb hown (hts _ q30) (hts _ q17) (hts _ q18) rfl (by rw [hml]; exact hl.1) rfl dX0_init_1 (Nat.le_of_ble_eq_true rfl) (Nat.le_of_ble_eq_true rfl) ?_
  refine W.eq (g2 := F0 m 4 ls []) rfl ?_
  refine lv_aload_n hx hb dX0_init_4 rfl (lv_at hl 0 rfl) ?_
  refine lv_bipush (v := 60) hx hb dX0_init_5 (by decide) ?_
  refine rc_newa (N := 60) hx hb (hts _ q51) hK hP hD hS hA (by decide) (by decide) (by decide) (Nat.le_of_ble_eq_true rfl) (Nat.le_of_ble_eq_true rfl) dX0_init_7 (fun v1 H hP hD hS => ?_)
  have hP : va_P Dd clsL [(h0, .inr (0, [.null, .int 0, .null, .null, .null])), (v1, .inl (cI, 60, .inl (fun _ => 0)))] H := hP
  have hD : va_D A [(h0, .inr (0, [.null, .int 0, .null, .null, .null])), (v1, .inl (cI, 60, .inl (fun _ => 0)))] := hD
  refine va_putF (D := Dd) (ci := 0) (v := .ref v1) (C := RX0) (T := TX0) (N := 5) hx hb hts inX0 tyX0 tyX0_ok nmX0 hown hK.1 hP hD hS 0 rfl rfl 0 (by decide) (hts _ q33) (fun _ h9 => h9) rfl hin rfl (tyX0_ok 0 (by decide)) rfl rfl (Nat.le_of_ble_eq_true rfl) dX0_init_9 (fun H locs hP hD hS => ?_)
  have hP : va_P Dd clsL [(h0, .inr (0, [.ref v1, .int 0, .null, .null, .null])), (v1, .inl (cI, 60, .inl (fun _ => 0)))] H := hP
  have hD : va_D A [(h0, .inr (0, [.ref v1, .int 0, .null, .null, .null])), (v1, .inl (cI, 60, .inl (fun _ => 0)))] := hD
  refine lv_aload_n hx hb dX0_init_12 rfl (lv_at hl 0 rfl) ?_
  refine lv_iconst (v := 2) hx hb dX0_init_13 (by decide) ?_
  refine lv_bipush (v := 60) hx hb dX0_init_14 (by decide) ?_
  refine rc_mna (N := 2) (K := 60) hx hb hown (hts _ q31) (hts _ q51) hK hP hD hS hA (by decide) (by decide) (by decide) (by decide) (by decide) (by decide) (by decide) (Nat.le_of_ble_eq_true rfl) (Nat.le_of_ble_eq_true rfl) dX0_init_16 (fun v2 s2 H hP hD hS => ?_)
  have hP : va_P Dd clsL [(h0, .inr (0, [.ref v1, .int 0, .null, .null, .null])), (v1, .inl (cI, 60, .inl (fun _ => 0))), (v2, .inl (cQ, 2, .inr (.inr (.inr (.inr (fun i => if i < 2 then some (s2 i) else none)))))), ((s2 0), .inl (cI, 60, .inl (fun _ => 0))), ((s2 1), .inl (cI, 60, .inl (fun _ => 0)))] H := hP
  have hD : va_D A [(h0, .inr (0, [.ref v1, .int 0, .null, .null, .null])), (v1, .inl (cI, 60, .inl (fun _ => 0))), (v2, .inl (cQ, 2, .inr (.inr (.inr (.inr (fun i => if i < 2 then some (s2 i) else none)))))), ((s2 0), .inl (cI, 60, .inl (fun _ => 0))), ((s2 1), .inl (cI, 60, .inl (fun _ => 0)))] := hD
  refine va_putF (D := Dd) (ci := 0) (v := .ref v2) (C := RX0) (T := TX0) (N := 5) hx hb hts inX0 tyX0 tyX0_ok nmX0 hown hK.1 hP hD hS 0 rfl rfl 2 (by decide) (hts _ q37) (fun _ h9 => h9) rfl hin rfl (tyX0_ok 2 (by decide)) rfl rfl (Nat.le_of_ble_eq_true rfl) dX0_init_20 (fun H locs hP hD hS => ?_)
  have hP : va_P Dd clsL [(h0, .inr (0, [.ref v1, .int 0, .ref v2, .null, .null])), (v1, .inl (cI, 60, .inl (fun _ => 0))), (v2, .inl (cQ, 2, .inr (.inr (.inr (.inr (fun i => if i < 2 then some (s2 i) else none)))))), ((s2 0), .inl (cI, 60, .inl (fun _ => 0))), ((s2 1), .inl (cI, 60, .inl (fun _ => 0)))] H := hP
  have hD : va_D A [(h0, .inr (0, [.ref v1, .int 0, .ref v2, .null, .null])), (v1, .inl (cI, 60, .inl (fun _ => 0))), (v2, .inl (cQ, 2, .inr (.inr (.inr (.inr (fun i => if i < 2 then some (s2 i) else none)))))), ((s2 0), .inl (cI, 60, .inl (fun _ => 0))), ((s2 1), .inl (cI, 60, .inl (fun _ => 0)))] := hD
  refine lv_aload_n hx hb dX0_init_23 rfl (lv_at hl 0 rfl) ?_
  refine lv_iconst (v := 2) hx hb dX0_init_24 (by decide) ?_
  refine rc_newa (N := 2) hx hb (hts _ q51) hK hP hD hS hA (by decide) (by decide) (by decide) (Nat.le_of_ble_eq_true rfl) (Nat.le_of_ble_eq_true rfl) dX0_init_25 (fun v3 H hP hD hS => ?_)
  have hP : va_P Dd clsL [(h0, .inr (0, [.ref v1, .int 0, .ref v2, .null, .null])), (v1, .inl (cI, 60, .inl (fun _ => 0))), (v2, .inl (cQ, 2, .inr (.inr (.inr (.inr (fun i => if i < 2 then some (s2 i) else none)))))), ((s2 0), .inl (cI, 60, .inl (fun _ => 0))), ((s2 1), .inl (cI, 60, .inl (fun _ => 0))), (v3, .inl (cI, 2, .inl (fun _ => 0)))] H := hP
  have hD : va_D A [(h0, .inr (0, [.ref v1, .int 0, .ref v2, .null, .null])), (v1, .inl (cI, 60, .inl (fun _ => 0))), (v2, .inl (cQ, 2, .inr (.inr (.inr (.inr (fun i => if i < 2 then some (s2 i) else none)))))), ((s2 0), .inl (cI, 60, .inl (fun _ => 0))), ((s2 1), .inl (cI, 60, .inl (fun _ => 0))), (v3, .inl (cI, 2, .inl (fun _ => 0)))] := hD
  refine va_putF (D := Dd) (ci := 0) (v := .ref v3) (C := RX0) (T := TX0) (N := 5) hx hb hts inX0 tyX0 tyX0_ok nmX0 hown hK.1 hP hD hS 0 rfl rfl 3 (by decide) (hts _ q38) (fun _ h9 => h9) rfl hin rfl (tyX0_ok 3 (by decide)) rfl rfl (Nat.le_of_ble_eq_true rfl) dX0_init_27 (fun H locs hP hD hS => ?_)
  have hP : va_P Dd clsL [(h0, .inr (0, [.ref v1, .int 0, .ref v2, .ref v3, .null])), (v1, .inl (cI, 60, .inl (fun _ => 0))), (v2, .inl (cQ, 2, .inr (.inr (.inr (.inr (fun i => if i < 2 then some (s2 i) else none)))))), ((s2 0), .inl (cI, 60, .inl (fun _ => 0))), ((s2 1), .inl (cI, 60, .inl (fun _ => 0))), (v3, .inl (cI, 2, .inl (fun _ => 0)))] H := hP
  have hD : va_D A [(h0, .inr (0, [.ref v1, .int 0, .ref v2, .ref v3, .null])), (v1, .inl (cI, 60, .inl (fun _ => 0))), (v2, .inl (cQ, 2, .inr (.inr (.inr (.inr (fun i => if i < 2 then some (s2 i) else none)))))), ((s2 0), .inl (cI, 60, .inl (fun _ => 0))), ((s2 1), .inl (cI, 60, .inl (fun _ => 0))), (v3, .inl (cI, 2, .inl (fun _ => 0)))] := hD
  refine lv_aload_n hx hb dX0_init_30 rfl (lv_at hl 0 rfl) ?_
  refine lv_bipush (v := 60) hx hb dX0_init_31 (by decide) ?_
  refine rc_newa (N := 60) hx hb (hts _ q51) hK hP hD hS hA (by decide) (by decide) (by decide) (Nat.le_of_ble_eq_true rfl) (Nat.le_of_ble_eq_true rfl) dX0_init_33 (fun v4 H hP hD hS => ?_)
  have hP : va_P Dd clsL [(h0, .inr (0, [.ref v1, .int 0, .ref v2, .ref v3, .null])), (v1, .inl (cI, 60, .inl (fun _ => 0))), (v2, .inl (cQ, 2, .inr (.inr (.inr (.inr (fun i => if i < 2 then some (s2 i) else none)))))), ((s2 0), .inl (cI, 60, .inl (fun _ => 0))), ((s2 1), .inl (cI, 60, .inl (fun _ => 0))), (v3, .inl (cI, 2, .inl (fun _ => 0))), (v4, .inl (cI, 60, .inl (fun _ => 0)))] H := hP
  have hD : va_D A [(h0, .inr (0, [.ref v1, .int 0, .ref v2, .ref v3, .null])), (v1, .inl (cI, 60, .inl (fun _ => 0))), (v2, .inl (cQ, 2, .inr (.inr (.inr (.inr (fun i => if i < 2 then some (s2 i) else none)))))), ((s2 0), .inl (cI, 60, .inl (fun _ => 0))), ((s2 1), .inl (cI, 60, .inl (fun _ => 0))), (v3, .inl (cI, 2, .inl (fun _ => 0))), (v4, .inl (cI, 60, .inl (fun _ => 0)))] := hD
  refine va_putF (D := Dd) (ci := 0) (v := .ref v4) (C := RX0) (T := TX0) (N := 5) hx hb hts inX0 tyX0 tyX0_ok nmX0 hown hK.1 hP hD hS 0 rfl rfl 4 (by decide) (hts _ q39) (fun _ h9 => h9) rfl hin rfl (tyX0_ok 4 (by decide)) rfl rfl (Nat.le_of_ble_eq_true rfl) dX0_init_35 (fun H locs hP hD hS => ?_)
  have hP : va_P Dd clsL [(h0, .inr (0, [.ref v1, .int 0, .ref v2, .ref v3, .ref v4])), (v1, .inl (cI, 60, .inl (fun _ => 0))), (v2, .inl (cQ, 2, .inr (.inr (.inr (.inr (fun i => if i < 2 then some (s2 i) else none)))))), ((s2 0), .inl (cI, 60, .inl (fun _ => 0))), ((s2 1), .inl (cI, 60, .inl (fun _ => 0))), (v3, .inl (cI, 2, .inl (fun _ => 0))), (v4, .inl (cI, 60, .inl (fun _ => 0)))] H := hP
  have hD : va_D A [(h0, .inr (0, [.ref v1, .int 0, .ref v2, .ref v3, .ref v4])), (v1, .inl (cI, 60, .inl (fun _ => 0))), (v2, .inl (cQ, 2, .inr (.inr (.inr (.inr (fun i => if i < 2 then some (s2 i) else none)))))), ((s2 0), .inl (cI, 60, .inl (fun _ => 0))), ((s2 1), .inl (cI, 60, .inl (fun _ => 0))), (v3, .inl (cI, 2, .inl (fun _ => 0))), (v4, .inl (cI, 60, .inl (fun _ => 0)))] := hD
  refine W.widen (k := 6) (n := 244) (Nat.le_of_ble_eq_true rfl) (Nat.le_of_ble_eq_true rfl) ?_
  have hP : va_P Dd clsL (at_X0 cI cQ h0 (v1, v2, s2, v3, v4)) H := by unfold at_X0; (try dsimp only); exact hP
  have hD : va_D A (at_X0 cI cQ h0 (v1, v2, s2, v3, v4)) := by unfold at_X0; (try dsimp only); exact hD
  exact rc_fin (f := at_X0 cI cQ h0) (v1, v2, s2, v3, v4) hx hb hr hlocks hAe hP hD hS dX0_init_38
def at_X1 (cI cQ : ClassId) (h0 : Nat) (u : (Nat × Nat)) : va_W := [(h0, .inr (1, [.ref u.1, .int 0, .ref u.2, .int 0, .int 0, .int 0])), (u.1, .inl (cI, 60, .inl (fun _ => 0))), (u.2, .inl (cI, 60, .inl (fun _ => 0)))]
set_option maxHeartbeats 4000000 in
set_option maxRecDepth 100000 in
theorem C_X1_init (l : Launch) (Dd : va_G) (cI cQ : ClassId) (h0 sz : Nat) : Met l yX1_init (Cond.code yX1_init cX1_init 1 none :: gT) { frames := 2, cells := 2, slots := 120, locals := 48 } (Po Dd cI cQ [.ref h0] [(h0, .inr (1, [.null, .int 0, .null, .int 0, .int 0, .int 0]))] sz) (Qo Dd (at_X1 cI cQ h0) [(h0, .inr (1, [.null, .int 0, .null, .int 0, .int 0, .int 0]))] sz) 2 120 (va_A [(h0, .inr (1, [.null, .int 0, .null, .int 0, .int 0, .int 0]))] sz) := by
  refine Met.ofW (cc := cX1_init) (maxL := 1) (ret := none) (by decide) rfl ?_
  intro p e s m args below meth c s₁ B hml hv
  obtain ⟨rfl, hsz, hP, hK, hD0⟩ := hv
  have hx := B.exec
  have hb := B.bytes
  have hr := B.returns
  have hts : ∀ w ∈ gT, w.before _ s = true := fun w hw => atoms_spec (ws := Cond.code yX1_init cX1_init 1 none :: gT) B.pre w (List.mem_cons_of_mem _ hw)
  have hown : s.vm.findClass RX1 = some m.cls := findClass_of_methodNamed B.named
  have hlocks := B.notSynchronized
  have hin : meth.name = "<init>" := (name_of_methodNamed B.named B.method).1
  subst hsz
  have hD := hD0.self (sz := s.heap.size)
  generalize hAe : va_A [(h0, .inr (1, [.null, .int 0, .null, .int 0, .int 0, .int 0]))] s.heap.size = A at hD ⊢
  have hA : ∀ q : Nat, s.heap.size ≤ q → A q := fun q h => by rw [← hAe]; exact Or.inr h
  have hS : va_S A s.heap s.heap [] := va_S.rf
  have hl := lv_entry ([.ref h0]) (n := 1) (Nat.le_of_ble_eq_true rfl)
  rw [lg_entry_eq]
  generalize (lg_sl ([.ref h0]) ++ List.replicate (1 - (lg_sl ([.ref h0])).length) Slot.unset).toArray = ls at hl ⊢
  have hl : lv_has ls 1 [(0, .ref h0)] := hl
  refine lv_aload_n hx hb dX1_init_0 rfl (lv_at hl 0 rfl) ?_
  refine W.objInit hx hb hown (hts _ q98) (hts _ q17) (hts _ q18) rfl (by rw [hml]; exact hl.1) rfl dX1_init_1 (Nat.le_of_ble_eq_true rfl) (Nat.le_of_ble_eq_true rfl) ?_
  refine W.eq (g2 := F0 m 4 ls []) rfl ?_
  refine lv_aload_n hx hb dX1_init_4 rfl (lv_at hl 0 rfl) ?_
  refine lv_bipush (v := 60) hx hb dX1_init_5 (by decide) ?_
  refine rc_newa (N := 60) hx hb (hts _ q51) hK hP hD hS hA (by decide) (by decide) (by decide) (Nat.le_of_ble_eq_true rfl) (Nat.le_of_ble_eq_true rfl) dX1_init_7 (fun v1 H hP hD hS => ?_)
  have hP : va_P Dd clsL [(h0, .inr (1, [.null, .int 0, .null, .int 0, .int 0, .int 0])), (v1, .inl (cI, 60, .inl (fun _ => 0)))] H := hP
  have hD : va_D A [(h0, .inr (1, [.null, .int 0, .null, .int 0, .int 0, .int 0])), (v1, .inl (cI, 60, .inl (fun _ => 0)))] := hD
  refine va_putF (D := Dd) (ci := 1) (v := .ref v1) (C := RX1) (T := TX1) (N := 6) hx hb hts inX1 tyX1 tyX1_ok nmX1 hown hK.1 hP hD hS 0 rfl rfl 0 (by decide) (hts _ q99) (fun _ h9 => h9) rfl hin rfl (tyX1_ok 0 (by decide)) rfl rfl (Nat.le_of_ble_eq_true rfl) dX1_init_9 (fun H locs hP hD hS => ?_)
  have hP : va_P Dd clsL [(h0, .inr (1, [.ref v1, .int 0, .null, .int 0, .int 0, .int 0])), (v1, .inl (cI, 60, .inl (fun _ => 0)))] H := hP
  have hD : va_D A [(h0, .inr (1, [.ref v1, .int 0, .null, .int 0, .int 0, .int 0])), (v1, .inl (cI, 60, .inl (fun _ => 0)))] := hD
  refine lv_aload_n hx hb dX1_init_12 rfl (lv_at hl 0 rfl) ?_
  refine lv_bipush (v := 60) hx hb dX1_init_13 (by decide) ?_
  refine rc_newa (N := 60) hx hb (hts _ q51) hK hP hD hS hA (by decide) (by decide) (by decide) (Nat.le_of_ble_eq_true rfl) (Nat.le_of_ble_eq_true rfl) dX1_init_15 (fun v2 H hP hD hS => ?_)
  have hP : va_P Dd clsL [(h0, .inr (1, [.ref v1, .int 0, .null, .int 0, .int 0, .int 0])), (v1, .inl (cI, 60, .inl (fun _ => 0))), (v2, .inl (cI, 60, .inl (fun _ => 0)))] H := hP
  have hD : va_D A [(h0, .inr (1, [.ref v1, .int 0, .null, .int 0, .int 0, .int 0])), (v1, .inl (cI, 60, .inl (fun _ => 0))), (v2, .inl (cI, 60, .inl (fun _ => 0)))] := hD
  refine va_putF (D := Dd) (ci := 1) (v := .ref v2) (C := RX1) (T := TX1) (N := 6) hx hb hts inX1 tyX1 tyX1_ok nmX1 hown hK.1 hP hD hS 0 rfl rfl 2 (by decide) (hts _ q103) (fun _ h9 => h9) rfl hin rfl (tyX1_ok 2 (by decide)) rfl rfl (Nat.le_of_ble_eq_true rfl) dX1_init_17 (fun H locs hP hD hS => ?_)
  have hP : va_P Dd clsL [(h0, .inr (1, [.ref v1, .int 0, .ref v2, .int 0, .int 0, .int 0])), (v1, .inl (cI, 60, .inl (fun _ => 0))), (v2, .inl (cI, 60, .inl (fun _ => 0)))] H := hP
  have hD : va_D A [(h0, .inr (1, [.ref v1, .int 0, .ref v2, .int 0, .int 0, .int 0])), (v1, .inl (cI, 60, .inl (fun _ => 0))), (v2, .inl (cI, 60, .inl (fun _ => 0)))] := hD
  refine W.widen (k := 2) (n := 120) (Nat.le_of_ble_eq_true rfl) (Nat.le_of_ble_eq_true rfl) ?_
  have hP : va_P Dd clsL (at_X1 cI cQ h0 (v1, v2)) H := by unfold at_X1; (try dsimp only); exact hP
  have hD : va_D A (at_X1 cI cQ h0 (v1, v2)) := by unfold at_X1; (try dsimp only); exact hD
  exact rc_fin (f := at_X1 cI cQ h0) (v1, v2) hx hb hr hlocks hAe hP hD hS dX1_init_20
def at_X5 (cI cQ : ClassId) (h0 : Nat) (u : (Nat)) : va_W := [(h0, .inr (5, [.int 0, .int 0, .ref u, .int 0, .int 0, .int 0])), (u, .inl (cI, 30, .inl (fun _ => 0)))]
set_option maxHeartbeats 4000000 in
set_option maxRecDepth 100000 in
theorem C_X5_init (l : Launch) (Dd : va_G) (cI cQ : ClassId) (h0 sz : Nat) : Met l yX5_init (Cond.code yX5_init cX5_init 1 none :: gT) { frames := 2, cells := 1, slots := 30, locals := 48 } (Po Dd cI cQ [.ref h0] [(h0, .inr (5, [.int 0, .int 0, .null, .int 0, .int 0, .int 0]))] sz) (Qo Dd (at_X5 cI cQ h0) [(h0, .inr (5, [.int 0, .int 0, .null, .int 0, .int 0, .int 0]))] sz) 1 30 (va_A [(h0, .inr (5, [.int 0, .int 0, .null, .int 0, .int 0, .int 0]))] sz) := by
  refine Met.ofW (cc := cX5_init) (maxL := 1) (ret := none) (by decide) rfl ?_
  intro p e s m args below meth c s₁ B hml hv
  obtain ⟨rfl, hsz, hP, hK, hD0⟩ := hv
  have hx := B.exec
  have hb := B.bytes
  have hr := B.returns
  have hts : ∀ w ∈ gT, w.before _ s = true := fun w hw => atoms_spec (ws := Cond.code yX5_init cX5_init 1 none :: gT) B.pre w (List.mem_cons_of_mem _ hw)
  have hown : s.vm.findClass RX5 = some m.cls := findClass_of_methodNamed B.named
  have hlocks := B.notSynchronized
  have hin : meth.name = "<init>" := (name_of_methodNamed B.named B.method).1
  subst hsz
  have hD := hD0.self (sz := s.heap.size)
  generalize hAe : va_A [(h0, .inr (5, [.int 0, .int 0, .null, .int 0, .int 0, .int 0]))] s.heap.size = A at hD ⊢
  have hA : ∀ q : Nat, s.heap.size ≤ q → A q := fun q h => by rw [← hAe]; exact Or.inr h
  have hS : va_S A s.heap s.heap [] := va_S.rf
  have hl := lv_entry ([.ref h0]) (n := 1) (Nat.le_of_ble_eq_true rfl)
  rw [lg_entry_eq]
  generalize (lg_sl ([.ref h0]) ++ List.replicate (1 - (lg_sl ([.ref h0])).length) Slot.unset).toArray = ls at hl ⊢
  have hl : lv_has ls 1 [(0, .ref h0)] := hl
  refine lv_aload_n hx hb dX5_init_0 rfl (lv_at hl 0 rfl) ?_
  refine W.objInit hx hb hown (hts _ q149) (hts _ q17) (hts _ q18) rfl (by rw [hml]; exact hl.1) rfl dX5_init_1 (Nat.le_of_ble_eq_true rfl) (Nat.le_of_ble_eq_true rfl) ?_
  refine W.eq (g2 := F0 m 4 ls []) rfl ?_
  refine lv_aload_n hx hb dX5_init_4 rfl (lv_at hl 0 rfl) ?_
  refine lv_bipush (v := 30) hx hb dX5_init_5 (by decide) ?_
  refine rc_newa (N := 30) hx hb (hts _ q51) hK hP hD hS hA (by decide) (by decide) (by decide) (Nat.le_of_ble_eq_true rfl) (Nat.le_of_ble_eq_true rfl) dX5_init_7 (fun v1 H hP hD hS => ?_)
  have hP : va_P Dd clsL [(h0, .inr (5, [.int 0, .int 0, .null, .int 0, .int 0, .int 0])), (v1, .inl (cI, 30, .inl (fun _ => 0)))] H := hP
  have hD : va_D A [(h0, .inr (5, [.int 0, .int 0, .null, .int 0, .int 0, .int 0])), (v1, .inl (cI, 30, .inl (fun _ => 0)))] := hD
  refine va_putF (D := Dd) (ci := 5) (v := .ref v1) (C := RX5) (T := TX5) (N := 6) hx hb hts inX5 tyX5 tyX5_ok nmX5 hown hK.1 hP hD hS 0 rfl rfl 2 (by decide) (hts _ q154) (fun _ h9 => h9) rfl hin rfl (tyX5_ok 2 (by decide)) rfl rfl (Nat.le_of_ble_eq_true rfl) dX5_init_9 (fun H locs hP hD hS => ?_)
  have hP : va_P Dd clsL [(h0, .inr (5, [.int 0, .int 0, .ref v1, .int 0, .int 0, .int 0])), (v1, .inl (cI, 30, .inl (fun _ => 0)))] H := hP
  have hD : va_D A [(h0, .inr (5, [.int 0, .int 0, .ref v1, .int 0, .int 0, .int 0])), (v1, .inl (cI, 30, .inl (fun _ => 0)))] := hD
  refine W.widen (k := 1) (n := 30) (Nat.le_of_ble_eq_true rfl) (Nat.le_of_ble_eq_true rfl) ?_
  have hP : va_P Dd clsL (at_X5 cI cQ h0 (v1)) H := by unfold at_X5; (try dsimp only); exact hP
  have hD : va_D A (at_X5 cI cQ h0 (v1)) := by unfold at_X5; (try dsimp only); exact hD
  exact rc_fin (f := at_X5 cI cQ h0) (v1) hx hb hr hlocks hAe hP hD hS dX5_init_12
def at_X2 (cI cQ : ClassId) (h0 : Nat) (u : (Nat × (Nat → Nat) × Nat × Nat)) : va_W := [(h0, .inr (2, [.ref u.1, .ref u.2.2.1, .ref u.2.2.2])), (u.1, .inl (cQ, 4, .inr (.inr (.inr (.inr (fun i => if i < 4 then some (u.2.1 i) else none)))))), ((u.2.1 0), .inl (cI, 24, .inl (fun _ => 0))), ((u.2.1 1), .inl (cI, 24, .inl (fun _ => 0))), ((u.2.1 2), .inl (cI, 24, .inl (fun _ => 0))), ((u.2.1 3), .inl (cI, 24, .inl (fun _ => 0))), (u.2.2.1, .inl (cI, 4, .inl (fun _ => 0))), (u.2.2.2, .inl (cI, 4, .inl (fun _ => 0)))]
set_option maxHeartbeats 4000000 in
set_option maxRecDepth 100000 in
theorem C_X2_init (l : Launch) (Dd : va_G) (cI cQ : ClassId) (h0 sz : Nat) : Met l yX2_init (Cond.code yX2_init cX2_init 1 none :: gT) { frames := 2, cells := 7, slots := 108, locals := 48 } (Po Dd cI cQ [.ref h0] [(h0, .inr (2, [.null, .null, .null]))] sz) (Qo Dd (at_X2 cI cQ h0) [(h0, .inr (2, [.null, .null, .null]))] sz) 7 108 (va_A [(h0, .inr (2, [.null, .null, .null]))] sz) := by
  refine Met.ofW (cc := cX2_init) (maxL := 1) (ret := none) (by decide) rfl ?_
  intro p e s m args below meth c s₁ B hml hv
  obtain ⟨rfl, hsz, hP, hK, hD0⟩ := hv
  have hx := B.exec
  have hb := B.bytes
  have hr := B.returns
  have hts : ∀ w ∈ gT, w.before _ s = true := fun w hw => atoms_spec (ws := Cond.code yX2_init cX2_init 1 none :: gT) B.pre w (List.mem_cons_of_mem _ hw)
  have hown : s.vm.findClass RX2 = some m.cls := findClass_of_methodNamed B.named
  have hlocks := B.notSynchronized
  have hin : meth.name = "<init>" := (name_of_methodNamed B.named B.method).1
  subst hsz
  have hD := hD0.self (sz := s.heap.size)
  generalize hAe : va_A [(h0, .inr (2, [.null, .null, .null]))] s.heap.size = A at hD ⊢
  have hA : ∀ q : Nat, s.heap.size ≤ q → A q := fun q h => by rw [← hAe]; exact Or.inr h
  have hS : va_S A s.heap s.heap [] := va_S.rf
  have hl := lv_entry ([.ref h0]) (n := 1) (Nat.le_of_ble_eq_true rfl)
  rw [lg_entry_eq]
  generalize (lg_sl ([.ref h0]) ++ List.replicate (1 - (lg_sl ([.ref h0])).length) Slot.unset).toArray = ls at hl ⊢
  have hl : lv_has ls 1 [(0, .ref h0)] := hl
  refine lv_aload_n hx hb dX2_init_0 rfl (lv_at hl 0 rfl) ?_
  refine W.objInit hx hb hown (hts _ q176) (hts _ q17) (hts _ q18) rfl (by rw [hml]; exact hl.1) rfl dX2_init_1 (Nat.le_of_ble_eq_true rfl) (Nat.le_of_ble_eq_true rfl) ?_
  refine W.eq (g2 := F0 m 4 ls []) rfl ?_
  refine lv_aload_n hx hb dX2_init_4 rfl (lv_at hl 0 rfl) ?_
  refine lv_iconst (v := 4) hx hb dX2_init_5 (by decide) ?_
  refine lv_bipush (v := 24) hx hb dX2_init_6 (by decide) ?_
  refine rc_mna (N := 4) (K := 24) hx hb hown (hts _ q177) (hts _ q51) hK hP hD hS hA (by decide) (by decide) (by decide) (by decide) (by decide) (by decide) (by decide) (Nat.le_of_ble_eq_true rfl) (Nat.le_of_ble_eq_true rfl) dX2_init_8 (fun v1 s1 H hP hD hS => ?_)
  have hP : va_P Dd clsL [(h0, .inr (2, [.null, .null, .null])), (v1, .inl (cQ, 4, .inr (.inr (.inr (.inr (fun i => if i < 4 then some (s1 i) else none)))))), ((s1 0), .inl (cI, 24, .inl (fun _ => 0))), ((s1 1), .inl (cI, 24, .inl (fun _ => 0))), ((s1 2), .inl (cI, 24, .inl (fun _ => 0))), ((s1 3), .inl (cI, 24, .inl (fun _ => 0)))] H := hP
  have hD : va_D A [(h0, .inr (2, [.null, .null, .null])), (v1, .inl (cQ, 4, .inr (.inr (.inr (.inr (fun i => if i < 4 then some (s1 i) else none)))))), ((s1 0), .inl (cI, 24, .inl (fun _ => 0))), ((s1 1), .inl (cI, 24, .inl (fun _ => 0))), ((s1 2), .inl (cI, 24, .inl (fun _ => 0))), ((s1 3), .inl (cI, 24, .inl (fun _ => 0)))] := hD
  refine va_putF (D := Dd) (ci := 2) (v := .ref v1) (C := RX2) (T := TX2) (N := 3) hx hb hts inX2 tyX2 tyX2_ok nmX2 hown hK.1 hP hD hS 0 rfl rfl 0 (by decide) (hts _ q178) (fun _ h9 => h9) rfl hin rfl (tyX2_ok 0 (by decide)) rfl rfl (Nat.le_of_ble_eq_true rfl) dX2_init_12 (fun H locs hP hD hS => ?_)
  have hP : va_P Dd clsL [(h0, .inr (2, [.ref v1, .null, .null])), (v1, .inl (cQ, 4, .inr (.inr (.inr (.inr (fun i => if i < 4 then some (s1 i) else none)))))), ((s1 0), .inl (cI, 24, .inl (fun _ => 0))), ((s1 1), .inl (cI, 24, .inl (fun _ => 0))), ((s1 2), .inl (cI, 24, .inl (fun _ => 0))), ((s1 3), .inl (cI, 24, .inl (fun _ => 0)))] H := hP
  have hD : va_D A [(h0, .inr (2, [.ref v1, .null, .null])), (v1, .inl (cQ, 4, .inr (.inr (.inr (.inr (fun i => if i < 4 then some (s1 i) else none)))))), ((s1 0), .inl (cI, 24, .inl (fun _ => 0))), ((s1 1), .inl (cI, 24, .inl (fun _ => 0))), ((s1 2), .inl (cI, 24, .inl (fun _ => 0))), ((s1 3), .inl (cI, 24, .inl (fun _ => 0)))] := hD
  refine lv_aload_n hx hb dX2_init_15 rfl (lv_at hl 0 rfl) ?_
  refine lv_iconst (v := 4) hx hb dX2_init_16 (by decide) ?_
  refine rc_newa (N := 4) hx hb (hts _ q51) hK hP hD hS hA (by decide) (by decide) (by decide) (Nat.le_of_ble_eq_true rfl) (Nat.le_of_ble_eq_true rfl) dX2_init_17 (fun v2 H hP hD hS => ?_)
  have hP : va_P Dd clsL [(h0, .inr (2, [.ref v1, .null, .null])), (v1, .inl (cQ, 4, .inr (.inr (.inr (.inr (fun i => if i < 4 then some (s1 i) else none)))))), ((s1 0), .inl (cI, 24, .inl (fun _ => 0))), ((s1 1), .inl (cI, 24, .inl (fun _ => 0))), ((s1 2), .inl (cI, 24, .inl (fun _ => 0))), ((s1 3), .inl (cI, 24, .inl (fun _ => 0))), (v2, .inl (cI, 4, .inl (fun _ => 0)))] H := hP
  have hD : va_D A [(h0, .inr (2, [.ref v1, .null, .null])), (v1, .inl (cQ, 4, .inr (.inr (.inr (.inr (fun i => if i < 4 then some (s1 i) else none)))))), ((s1 0), .inl (cI, 24, .inl (fun _ => 0))), ((s1 1), .inl (cI, 24, .inl (fun _ => 0))), ((s1 2), .inl (cI, 24, .inl (fun _ => 0))), ((s1 3), .inl (cI, 24, .inl (fun _ => 0))), (v2, .inl (cI, 4, .inl (fun _ => 0)))] := hD
  refine va_putF (D := Dd) (ci := 2) (v := .ref v2) (C := RX2) (T := TX2) (N := 3) hx hb hts inX2 tyX2 tyX2_ok nmX2 hown hK.1 hP hD hS 0 rfl rfl 1 (by decide) (hts _ q179) (fun _ h9 => h9) rfl hin rfl (tyX2_ok 1 (by decide)) rfl rfl (Nat.le_of_ble_eq_true rfl) dX2_init_19 (fun H locs hP hD hS => ?_)
  have hP : va_P Dd clsL [(h0, .inr (2, [.ref v1, .ref v2, .null])), (v1, .inl (cQ, 4, .inr (.inr (.inr (.inr (fun i => if i < 4 then some (s1 i) else none)))))), ((s1 0), .inl (cI, 24, .inl (fun _ => 0))), ((s1 1), .inl (cI, 24, .inl (fun _ => 0))), ((s1 2), .inl (cI, 24, .inl (fun _ => 0))), ((s1 3), .inl (cI, 24, .inl (fun _ => 0))), (v2, .inl (cI, 4, .inl (fun _ => 0)))] H := hP
  have hD : va_D A [(h0, .inr (2, [.ref v1, .ref v2, .null])), (v1, .inl (cQ, 4, .inr (.inr (.inr (.inr (fun i => if i < 4 then some (s1 i) else none)))))), ((s1 0), .inl (cI, 24, .inl (fun _ => 0))), ((s1 1), .inl (cI, 24, .inl (fun _ => 0))), ((s1 2), .inl (cI, 24, .inl (fun _ => 0))), ((s1 3), .inl (cI, 24, .inl (fun _ => 0))), (v2, .inl (cI, 4, .inl (fun _ => 0)))] := hD
  refine lv_aload_n hx hb dX2_init_22 rfl (lv_at hl 0 rfl) ?_
  refine lv_iconst (v := 4) hx hb dX2_init_23 (by decide) ?_
  refine rc_newa (N := 4) hx hb (hts _ q51) hK hP hD hS hA (by decide) (by decide) (by decide) (Nat.le_of_ble_eq_true rfl) (Nat.le_of_ble_eq_true rfl) dX2_init_24 (fun v3 H hP hD hS => ?_)
  have hP : va_P Dd clsL [(h0, .inr (2, [.ref v1, .ref v2, .null])), (v1, .inl (cQ, 4, .inr (.inr (.inr (.inr (fun i => if i < 4 then some (s1 i) else none)))))), ((s1 0), .inl (cI, 24, .inl (fun _ => 0))), ((s1 1), .inl (cI, 24, .inl (fun _ => 0))), ((s1 2), .inl (cI, 24, .inl (fun _ => 0))), ((s1 3), .inl (cI, 24, .inl (fun _ => 0))), (v2, .inl (cI, 4, .inl (fun _ => 0))), (v3, .inl (cI, 4, .inl (fun _ => 0)))] H := hP
  have hD : va_D A [(h0, .inr (2, [.ref v1, .ref v2, .null])), (v1, .inl (cQ, 4, .inr (.inr (.inr (.inr (fun i => if i < 4 then some (s1 i) else none)))))), ((s1 0), .inl (cI, 24, .inl (fun _ => 0))), ((s1 1), .inl (cI, 24, .inl (fun _ => 0))), ((s1 2), .inl (cI, 24, .inl (fun _ => 0))), ((s1 3), .inl (cI, 24, .inl (fun _ => 0))), (v2, .inl (cI, 4, .inl (fun _ => 0))), (v3, .inl (cI, 4, .inl (fun _ => 0)))] := hD
  refine va_putF (D := Dd) (ci := 2) (v := .ref v3) (C := RX2) (T := TX2) (N := 3) hx hb hts inX2 tyX2 tyX2_ok nmX2 hown hK.1 hP hD hS 0 rfl rfl 2 (by decide) (hts _ q180) (fun _ h9 => h9) rfl hin rfl (tyX2_ok 2 (by decide)) rfl rfl (Nat.le_of_ble_eq_true rfl) dX2_init_26 (fun H locs hP hD hS => ?_)
  have hP : va_P Dd clsL [(h0, .inr (2, [.ref v1, .ref v2, .ref v3])), (v1, .inl (cQ, 4, .inr (.inr (.inr (.inr (fun i => if i < 4 then some (s1 i) else none)))))), ((s1 0), .inl (cI, 24, .inl (fun _ => 0))), ((s1 1), .inl (cI, 24, .inl (fun _ => 0))), ((s1 2), .inl (cI, 24, .inl (fun _ => 0))), ((s1 3), .inl (cI, 24, .inl (fun _ => 0))), (v2, .inl (cI, 4, .inl (fun _ => 0))), (v3, .inl (cI, 4, .inl (fun _ => 0)))] H := hP
  have hD : va_D A [(h0, .inr (2, [.ref v1, .ref v2, .ref v3])), (v1, .inl (cQ, 4, .inr (.inr (.inr (.inr (fun i => if i < 4 then some (s1 i) else none)))))), ((s1 0), .inl (cI, 24, .inl (fun _ => 0))), ((s1 1), .inl (cI, 24, .inl (fun _ => 0))), ((s1 2), .inl (cI, 24, .inl (fun _ => 0))), ((s1 3), .inl (cI, 24, .inl (fun _ => 0))), (v2, .inl (cI, 4, .inl (fun _ => 0))), (v3, .inl (cI, 4, .inl (fun _ => 0)))] := hD
  refine W.widen (k := 7) (n := 108) (Nat.le_of_ble_eq_true rfl) (Nat.le_of_ble_eq_true rfl) ?_
  have hP : va_P Dd clsL (at_X2 cI cQ h0 (v1, s1, v2, v3)) H := by unfold at_X2; (try dsimp only); exact hP
  have hD : va_D A (at_X2 cI cQ h0 (v1, s1, v2, v3)) := by unfold at_X2; (try dsimp only); exact hD
  exact rc_fin (f := at_X2 cI cQ h0) (v1, s1, v2, v3) hx hb hr hlocks hAe hP hD hS dX2_init_29
def at_X4 (cI cQ : ClassId) (h0 : Nat) (u : (Nat × (Nat → Nat) × Nat × (Nat → Nat) × Nat × Nat)) : va_W := [(h0, .inr (4, [.int 0, .ref u.1, .ref u.2.2.1, .ref u.2.2.2.2.1, .ref u.2.2.2.2.2])), (u.1, .inl (cQ, 10, .inr (.inr (.inr (.inr (fun i => if i < 10 then some (u.2.1 i) else none)))))), ((u.2.1 0), .inl (cI, 121, .inl (fun _ => 0))), ((u.2.1 1), .inl (cI, 121, .inl (fun _ => 0))), ((u.2.1 2), .inl (cI, 121, .inl (fun _ => 0))), ((u.2.1 3), .inl (cI, 121, .inl (fun _ => 0))), ((u.2.1 4), .inl (cI, 121, .inl (fun _ => 0))), ((u.2.1 5), .inl (cI, 121, .inl (fun _ => 0))), ((u.2.1 6), .inl (cI, 121, .inl (fun _ => 0))), ((u.2.1 7), .inl (cI, 121, .inl (fun _ => 0))), ((u.2.1 8), .inl (cI, 121, .inl (fun _ => 0))), ((u.2.1 9), .inl (cI, 121, .inl (fun _ => 0))), (u.2.2.1, .inl (cQ, 10, .inr (.inr (.inr (.inr (fun i => if i < 10 then some (u.2.2.2.1 i) else none)))))), ((u.2.2.2.1 0), .inl (cI, 121, .inl (fun _ => 0))), ((u.2.2.2.1 1), .inl (cI, 121, .inl (fun _ => 0))), ((u.2.2.2.1 2), .inl (cI, 121, .inl (fun _ => 0))), ((u.2.2.2.1 3), .inl (cI, 121, .inl (fun _ => 0))), ((u.2.2.2.1 4), .inl (cI, 121, .inl (fun _ => 0))), ((u.2.2.2.1 5), .inl (cI, 121, .inl (fun _ => 0))), ((u.2.2.2.1 6), .inl (cI, 121, .inl (fun _ => 0))), ((u.2.2.2.1 7), .inl (cI, 121, .inl (fun _ => 0))), ((u.2.2.2.1 8), .inl (cI, 121, .inl (fun _ => 0))), ((u.2.2.2.1 9), .inl (cI, 121, .inl (fun _ => 0))), (u.2.2.2.2.1, .inl (cI, 10, .inl (fun _ => 0))), (u.2.2.2.2.2, .inl (cI, 10, .inl (fun _ => 0)))]
set_option maxHeartbeats 4000000 in
set_option maxRecDepth 100000 in
theorem C_X4_init (l : Launch) (Dd : va_G) (cI cQ : ClassId) (h0 sz : Nat) : Met l yX4_init (Cond.code yX4_init cX4_init 1 none :: gT) { frames := 2, cells := 24, slots := 2460, locals := 48 } (Po Dd cI cQ [.ref h0] [(h0, .inr (4, [.int 0, .null, .null, .null, .null]))] sz) (Qo Dd (at_X4 cI cQ h0) [(h0, .inr (4, [.int 0, .null, .null, .null, .null]))] sz) 24 2460 (va_A [(h0, .inr (4, [.int 0, .null, .null, .null, .null]))] sz) := by
  refine Met.ofW (cc := cX4_init) (maxL := 1) (ret := none) (by decide) rfl ?_
  intro p e s m args below meth c s₁ B hml hv
  obtain ⟨rfl, hsz, hP, hK, hD0⟩ := hv
  have hx := B.exec
  have hb := B.bytes
  have hr := B.returns
  have hts : ∀ w ∈ gT, w.before _ s = true := fun w hw => atoms_spec (ws := Cond.code yX4_init cX4_init 1 none :: gT) B.pre w (List.mem_cons_of_mem _ hw)
  have hown : s.vm.findClass RX4 = some m.cls := findClass_of_methodNamed B.named
  have hlocks := B.notSynchronized
  have hin : meth.name = "<init>" := (name_of_methodNamed B.named B.method).1
  subst hsz
  have hD := hD0.self (sz := s.heap.size)
  generalize hAe : va_A [(h0, .inr (4, [.int 0, .null, .null, .null, .null]))] s.heap.size = A at hD ⊢
  have hA : ∀ q : Nat, s.heap.size ≤ q → A q := fun q h => by rw [← hAe]; exact Or.inr h
  have hS : va_S A s.heap s.heap [] := va_S.rf
  have hl := lv_entry ([.ref h0]) (n := 1) (Nat.le_of_ble_eq_true rfl)
  rw [lg_entry_eq]
  generalize (lg_sl ([.ref h0]) ++ List.replicate (1 - (lg_sl ([.ref h0])).length) Slot.unset).toArray = ls at hl ⊢
  have hl : lv_has ls 1 [(0, .ref h0)] := hl
  refine lv_aload_n hx hb dX4_init_0 rfl (lv_at hl 0 rfl) ?_
  refine W.objInit hx hb hown (hts _ q125) (hts _ q17) (hts _ q18) rfl (by rw [hml]; exact hl.1) rfl dX4_init_1 (Nat.le_of_ble_eq_true rfl) (Nat.le_of_ble_eq_true rfl) ?_
  refine W.eq (g2 := F0 m 4 ls []) rfl ?_
  refine lv_aload_n hx hb dX4_init_4 rfl (lv_at hl 0 rfl) ?_
  refine lv_bipush (v := 10) hx hb dX4_init_5 (by decide) ?_
  refine lv_bipush (v := 121) hx hb dX4_init_7 (by decide) ?_
  refine rc_mna (N := 10) (K := 121) hx hb hown (hts _ q126) (hts _ q51) hK hP hD hS hA (by decide) (by decide) (by decide) (by decide) (by decide) (by decide) (by decide) (Nat.le_of_ble_eq_true rfl) (Nat.le_of_ble_eq_true rfl) dX4_init_9 (fun v1 s1 H hP hD hS => ?_)
  have hP : va_P Dd clsL [(h0, .inr (4, [.int 0, .null, .null, .null, .null])), (v1, .inl (cQ, 10, .inr (.inr (.inr (.inr (fun i => if i < 10 then some (s1 i) else none)))))), ((s1 0), .inl (cI, 121, .inl (fun _ => 0))), ((s1 1), .inl (cI, 121, .inl (fun _ => 0))), ((s1 2), .inl (cI, 121, .inl (fun _ => 0))), ((s1 3), .inl (cI, 121, .inl (fun _ => 0))), ((s1 4), .inl (cI, 121, .inl (fun _ => 0))), ((s1 5), .inl (cI, 121, .inl (fun _ => 0))), ((s1 6), .inl (cI, 121, .inl (fun _ => 0))), ((s1 7), .inl (cI, 121, .inl (fun _ => 0))), ((s1 8), .inl (cI, 121, .inl (fun _ => 0))), ((s1 9), .inl (cI, 121, .inl (fun _ => 0)))] H := hP
  have hD : va_D A [(h0, .inr (4, [.int 0, .null, .null, .null, .null])), (v1, .inl (cQ, 10, .inr (.inr (.inr (.inr (fun i => if i < 10 then some (s1 i) else none)))))), ((s1 0), .inl (cI, 121, .inl (fun _ => 0))), ((s1 1), .inl (cI, 121, .inl (fun _ => 0))), ((s1 2), .inl (cI, 121, .inl (fun _ => 0))), ((s1 3), .inl (cI, 121, .inl (fun _ => 0))), ((s1 4), .inl (cI, 121, .inl (fun _ => 0))), ((s1 5), .inl (cI, 121, .inl (fun _ => 0))), ((s1 6), .inl (cI, 121, .inl (fun _ => 0))), ((s1 7), .inl (cI, 121, .inl (fun _ => 0))), ((s1 8), .inl (cI, 121, .inl (fun _ => 0))), ((s1 9), .inl (cI, 121, .inl (fun _ => 0)))] := hD
  refine va_putF (D := Dd) (ci := 4) (v := .ref v1) (C := RX4) (T := TX4) (N := 5) hx hb hts inX4 tyX4 tyX4_ok nmX4 hown hK.1 hP hD hS 0 rfl rfl 1 (by decide) (hts _ q129) (fun _ h9 => h9) rfl hin rfl (tyX4_ok 1 (by decide)) rfl rfl (Nat.le_of_ble_eq_true rfl) dX4_init_13 (fun H locs hP hD hS => ?_)
  have hP : va_P Dd clsL [(h0, .inr (4, [.int 0, .ref v1, .null, .null, .null])), (v1, .inl (cQ, 10, .inr (.inr (.inr (.inr (fun i => if i < 10 then some (s1 i) else none)))))), ((s1 0), .inl (cI, 121, .inl (fun _ => 0))), ((s1 1), .inl (cI, 121, .inl (fun _ => 0))), ((s1 2), .inl (cI, 121, .inl (fun _ => 0))), ((s1 3), .inl (cI, 121, .inl (fun _ => 0))), ((s1 4), .inl (cI, 121, .inl (fun _ => 0))), ((s1 5), .inl (cI, 121, .inl (fun _ => 0))), ((s1 6), .inl (cI, 121, .inl (fun _ => 0))), ((s1 7), .inl (cI, 121, .inl (fun _ => 0))), ((s1 8), .inl (cI, 121, .inl (fun _ => 0))), ((s1 9), .inl (cI, 121, .inl (fun _ => 0)))] H := hP
  have hD : va_D A [(h0, .inr (4, [.int 0, .ref v1, .null, .null, .null])), (v1, .inl (cQ, 10, .inr (.inr (.inr (.inr (fun i => if i < 10 then some (s1 i) else none)))))), ((s1 0), .inl (cI, 121, .inl (fun _ => 0))), ((s1 1), .inl (cI, 121, .inl (fun _ => 0))), ((s1 2), .inl (cI, 121, .inl (fun _ => 0))), ((s1 3), .inl (cI, 121, .inl (fun _ => 0))), ((s1 4), .inl (cI, 121, .inl (fun _ => 0))), ((s1 5), .inl (cI, 121, .inl (fun _ => 0))), ((s1 6), .inl (cI, 121, .inl (fun _ => 0))), ((s1 7), .inl (cI, 121, .inl (fun _ => 0))), ((s1 8), .inl (cI, 121, .inl (fun _ => 0))), ((s1 9), .inl (cI, 121, .inl (fun _ => 0)))] := hD
  refine lv_aload_n hx hb dX4_init_16 rfl (lv_at hl 0 rfl) ?_
  refine lv_bipush (v := 10) hx hb dX4_init_17 (by decide) ?_
  refine lv_bipush (v := 121) hx hb dX4_init_19 (by decide) ?_
  refine rc_mna (N := 10) (K := 121) hx hb hown (hts _ q126) (hts _ q51) hK hP hD hS hA (by decide) (by decide) (by decide) (by decide) (by decide) (by decide) (by decide) (Nat.le_of_ble_eq_true rfl) (Nat.le_of_ble_eq_true rfl) dX4_init_21 (fun v2 s2 H hP hD hS => ?_)
  have hP : va_P Dd clsL [(h0, .inr (4, [.int 0, .ref v1, .null, .null, .null])), (v1, .inl (cQ, 10, .inr (.inr (.inr (.inr (fun i => if i < 10 then some (s1 i) else none)))))), ((s1 0), .inl (cI, 121, .inl (fun _ => 0))), ((s1 1), .inl (cI, 121, .inl (fun _ => 0))), ((s1 2), .inl (cI, 121, .inl (fun _ => 0))), ((s1 3), .inl (cI, 121, .inl (fun _ => 0))), ((s1 4), .inl (cI, 121, .inl (fun _ => 0))), ((s1 5), .inl (cI, 121, .inl (fun _ => 0))), ((s1 6), .inl (cI, 121, .inl (fun _ => 0))), ((s1 7), .inl (cI, 121, .inl (fun _ => 0))), ((s1 8), .inl (cI, 121, .inl (fun _ => 0))), ((s1 9), .inl (cI, 121, .inl (fun _ => 0))), (v2, .inl (cQ, 10, .inr (.inr (.inr (.inr (fun i => if i < 10 then some (s2 i) else none)))))), ((s2 0), .inl (cI, 121, .inl (fun _ => 0))), ((s2 1), .inl (cI, 121, .inl (fun _ => 0))), ((s2 2), .inl (cI, 121, .inl (fun _ => 0))), ((s2 3), .inl (cI, 121, .inl (fun _ => 0))), ((s2 4), .inl (cI, 121, .inl (fun _ => 0))), ((s2 5), .inl (cI, 121, .inl (fun _ => 0))), ((s2 6), .inl (cI, 121, .inl (fun _ => 0))), ((s2 7), .inl (cI, 121, .inl (fun _ => 0))), ((s2 8), .inl (cI, 121, .inl (fun _ => 0))), ((s2 9), .inl (cI, 121, .inl (fun _ => 0)))] H := hP
  have hD : va_D A [(h0, .inr (4, [.int 0, .ref v1, .null, .null, .null])), (v1, .inl (cQ, 10, .inr (.inr (.inr (.inr (fun i => if i < 10 then some (s1 i) else none)))))), ((s1 0), .inl (cI, 121, .inl (fun _ => 0))), ((s1 1), .inl (cI, 121, .inl (fun _ => 0))), ((s1 2), .inl (cI, 121, .inl (fun _ => 0))), ((s1 3), .inl (cI, 121, .inl (fun _ => 0))), ((s1 4), .inl (cI, 121, .inl (fun _ => 0))), ((s1 5), .inl (cI, 121, .inl (fun _ => 0))), ((s1 6), .inl (cI, 121, .inl (fun _ => 0))), ((s1 7), .inl (cI, 121, .inl (fun _ => 0))), ((s1 8), .inl (cI, 121, .inl (fun _ => 0))), ((s1 9), .inl (cI, 121, .inl (fun _ => 0))), (v2, .inl (cQ, 10, .inr (.inr (.inr (.inr (fun i => if i < 10 then some (s2 i) else none)))))), ((s2 0), .inl (cI, 121, .inl (fun _ => 0))), ((s2 1), .inl (cI, 121, .inl (fun _ => 0))), ((s2 2), .inl (cI, 121, .inl (fun _ => 0))), ((s2 3), .inl (cI, 121, .inl (fun _ => 0))), ((s2 4), .inl (cI, 121, .inl (fun _ => 0))), ((s2 5), .inl (cI, 121, .inl (fun _ => 0))), ((s2 6), .inl (cI, 121, .inl (fun _ => 0))), ((s2 7), .inl (cI, 121, .inl (fun _ => 0))), ((s2 8), .inl (cI, 121, .inl (fun _ => 0))), ((s2 9), .inl (cI, 121, .inl (fun _ => 0)))] := hD
  refine va_putF (D := Dd) (ci := 4) (v := .ref v2) (C := RX4) (T := TX4) (N := 5) hx hb hts inX4 tyX4 tyX4_ok nmX4 hown hK.1 hP hD hS 0 rfl rfl 2 (by decide) (hts _ q130) (fun _ h9 => h9) rfl hin rfl (tyX4_ok 2 (by decide)) rfl rfl (Nat.le_of_ble_eq_true rfl) dX4_init_25 (fun H locs hP hD hS => ?_)
  have hP : va_P Dd clsL [(h0, .inr (4, [.int 0, .ref v1, .ref v2, .null, .null])), (v1, .inl (cQ, 10, .inr (.inr (.inr (.inr (fun i => if i < 10 then some (s1 i) else none)))))), ((s1 0), .inl (cI, 121, .inl (fun _ => 0))), ((s1 1), .inl (cI, 121, .inl (fun _ => 0))), ((s1 2), .inl (cI, 121, .inl (fun _ => 0))), ((s1 3), .inl (cI, 121, .inl (fun _ => 0))), ((s1 4), .inl (cI, 121, .inl (fun _ => 0))), ((s1 5), .inl (cI, 121, .inl (fun _ => 0))), ((s1 6), .inl (cI, 121, .inl (fun _ => 0))), ((s1 7), .inl (cI, 121, .inl (fun _ => 0))), ((s1 8), .inl (cI, 121, .inl (fun _ => 0))), ((s1 9), .inl (cI, 121, .inl (fun _ => 0))), (v2, .inl (cQ, 10, .inr (.inr (.inr (.inr (fun i => if i < 10 then some (s2 i) else none)))))), ((s2 0), .inl (cI, 121, .inl (fun _ => 0))), ((s2 1), .inl (cI, 121, .inl (fun _ => 0))), ((s2 2), .inl (cI, 121, .inl (fun _ => 0))), ((s2 3), .inl (cI, 121, .inl (fun _ => 0))), ((s2 4), .inl (cI, 121, .inl (fun _ => 0))), ((s2 5), .inl (cI, 121, .inl (fun _ => 0))), ((s2 6), .inl (cI, 121, .inl (fun _ => 0))), ((s2 7), .inl (cI, 121, .inl (fun _ => 0))), ((s2 8), .inl (cI, 121, .inl (fun _ => 0))), ((s2 9), .inl (cI, 121, .inl (fun _ => 0)))] H := hP
  have hD : va_D A [(h0, .inr (4, [.int 0, .ref v1, .ref v2, .null, .null])), (v1, .inl (cQ, 10, .inr (.inr (.inr (.inr (fun i => if i < 10 then some (s1 i) else none)))))), ((s1 0), .inl (cI, 121, .inl (fun _ => 0))), ((s1 1), .inl (cI, 121, .inl (fun _ => 0))), ((s1 2), .inl (cI, 121, .inl (fun _ => 0))), ((s1 3), .inl (cI, 121, .inl (fun _ => 0))), ((s1 4), .inl (cI, 121, .inl (fun _ => 0))), ((s1 5), .inl (cI, 121, .inl (fun _ => 0))), ((s1 6), .inl (cI, 121, .inl (fun _ => 0))), ((s1 7), .inl (cI, 121, .inl (fun _ => 0))), ((s1 8), .inl (cI, 121, .inl (fun _ => 0))), ((s1 9), .inl (cI, 121, .inl (fun _ => 0))), (v2, .inl (cQ, 10, .inr (.inr (.inr (.inr (fun i => if i < 10 then some (s2 i) else none)))))), ((s2 0), .inl (cI, 121, .inl (fun _ => 0))), ((s2 1), .inl (cI, 121, .inl (fun _ => 0))), ((s2 2), .inl (cI, 121, .inl (fun _ => 0))), ((s2 3), .inl (cI, 121, .inl (fun _ => 0))), ((s2 4), .inl (cI, 121, .inl (fun _ => 0))), ((s2 5), .inl (cI, 121, .inl (fun _ => 0))), ((s2 6), .inl (cI, 121, .inl (fun _ => 0))), ((s2 7), .inl (cI, 121, .inl (fun _ => 0))), ((s2 8), .inl (cI, 121, .inl (fun _ => 0))), ((s2 9), .inl (cI, 121, .inl (fun _ => 0)))] := hD
  refine lv_aload_n hx hb dX4_init_28 rfl (lv_at hl 0 rfl) ?_
  refine lv_bipush (v := 10) hx hb dX4_init_29 (by decide) ?_
  refine rc_newa (N := 10) hx hb (hts _ q51) hK hP hD hS hA (by decide) (by decide) (by decide) (Nat.le_of_ble_eq_true rfl) (Nat.le_of_ble_eq_true rfl) dX4_init_31 (fun v3 H hP hD hS => ?_)
  have hP : va_P Dd clsL [(h0, .inr (4, [.int 0, .ref v1, .ref v2, .null, .null])), (v1, .inl (cQ, 10, .inr (.inr (.inr (.inr (fun i => if i < 10 then some (s1 i) else none)))))), ((s1 0), .inl (cI, 121, .inl (fun _ => 0))), ((s1 1), .inl (cI, 121, .inl (fun _ => 0))), ((s1 2), .inl (cI, 121, .inl (fun _ => 0))), ((s1 3), .inl (cI, 121, .inl (fun _ => 0))), ((s1 4), .inl (cI, 121, .inl (fun _ => 0))), ((s1 5), .inl (cI, 121, .inl (fun _ => 0))), ((s1 6), .inl (cI, 121, .inl (fun _ => 0))), ((s1 7), .inl (cI, 121, .inl (fun _ => 0))), ((s1 8), .inl (cI, 121, .inl (fun _ => 0))), ((s1 9), .inl (cI, 121, .inl (fun _ => 0))), (v2, .inl (cQ, 10, .inr (.inr (.inr (.inr (fun i => if i < 10 then some (s2 i) else none)))))), ((s2 0), .inl (cI, 121, .inl (fun _ => 0))), ((s2 1), .inl (cI, 121, .inl (fun _ => 0))), ((s2 2), .inl (cI, 121, .inl (fun _ => 0))), ((s2 3), .inl (cI, 121, .inl (fun _ => 0))), ((s2 4), .inl (cI, 121, .inl (fun _ => 0))), ((s2 5), .inl (cI, 121, .inl (fun _ => 0))), ((s2 6), .inl (cI, 121, .inl (fun _ => 0))), ((s2 7), .inl (cI, 121, .inl (fun _ => 0))), ((s2 8), .inl (cI, 121, .inl (fun _ => 0))), ((s2 9), .inl (cI, 121, .inl (fun _ => 0))), (v3, .inl (cI, 10, .inl (fun _ => 0)))] H := hP
  have hD : va_D A [(h0, .inr (4, [.int 0, .ref v1, .ref v2, .null, .null])), (v1, .inl (cQ, 10, .inr (.inr (.inr (.inr (fun i => if i < 10 then some (s1 i) else none)))))), ((s1 0), .inl (cI, 121, .inl (fun _ => 0))), ((s1 1), .inl (cI, 121, .inl (fun _ => 0))), ((s1 2), .inl (cI, 121, .inl (fun _ => 0))), ((s1 3), .inl (cI, 121, .inl (fun _ => 0))), ((s1 4), .inl (cI, 121, .inl (fun _ => 0))), ((s1 5), .inl (cI, 121, .inl (fun _ => 0))), ((s1 6), .inl (cI, 121, .inl (fun _ => 0))), ((s1 7), .inl (cI, 121, .inl (fun _ => 0))), ((s1 8), .inl (cI, 121, .inl (fun _ => 0))), ((s1 9), .inl (cI, 121, .inl (fun _ => 0))), (v2, .inl (cQ, 10, .inr (.inr (.inr (.inr (fun i => if i < 10 then some (s2 i) else none)))))), ((s2 0), .inl (cI, 121, .inl (fun _ => 0))), ((s2 1), .inl (cI, 121, .inl (fun _ => 0))), ((s2 2), .inl (cI, 121, .inl (fun _ => 0))), ((s2 3), .inl (cI, 121, .inl (fun _ => 0))), ((s2 4), .inl (cI, 121, .inl (fun _ => 0))), ((s2 5), .inl (cI, 121, .inl (fun _ => 0))), ((s2 6), .inl (cI, 121, .inl (fun _ => 0))), ((s2 7), .inl (cI, 121, .inl (fun _ => 0))), ((s2 8), .inl (cI, 121, .inl (fun _ => 0))), ((s2 9), .inl (cI, 121, .inl (fun _ => 0))), (v3, .inl (cI, 10, .inl (fun _ => 0)))] := hD
  refine va_putF (D := Dd) (ci := 4) (v := .ref v3) (C := RX4) (T := TX4) (N := 5) hx hb hts inX4 tyX4 tyX4_ok nmX4 hown hK.1 hP hD hS 0 rfl rfl 3 (by decide) (hts _ q131) (fun _ h9 => h9) rfl hin rfl (tyX4_ok 3 (by decide)) rfl rfl (Nat.le_of_ble_eq_true rfl) dX4_init_33 (fun H locs hP hD hS => ?_)
  have hP : va_P Dd clsL [(h0, .inr (4, [.int 0, .ref v1, .ref v2, .ref v3, .null])), (v1, .inl (cQ, 10, .inr (.inr (.inr (.inr (fun i => if i < 10 then some (s1 i) else none)))))), ((s1 0), .inl (cI, 121, .inl (fun _ => 0))), ((s1 1), .inl (cI, 121, .inl (fun _ => 0))), ((s1 2), .inl (cI, 121, .inl (fun _ => 0))), ((s1 3), .inl (cI, 121, .inl (fun _ => 0))), ((s1 4), .inl (cI, 121, .inl (fun _ => 0))), ((s1 5), .inl (cI, 121, .inl (fun _ => 0))), ((s1 6), .inl (cI, 121, .inl (fun _ => 0))), ((s1 7), .inl (cI, 121, .inl (fun _ => 0))), ((s1 8), .inl (cI, 121, .inl (fun _ => 0))), ((s1 9), .inl (cI, 121, .inl (fun _ => 0))), (v2, .inl (cQ, 10, .inr (.inr (.inr (.inr (fun i => if i < 10 then some (s2 i) else none)))))), ((s2 0), .inl (cI, 121, .inl (fun _ => 0))), ((s2 1), .inl (cI, 121, .inl (fun _ => 0))), ((s2 2), .inl (cI, 121, .inl (fun _ => 0))), ((s2 3), .inl (cI, 121, .inl (fun _ => 0))), ((s2 4), .inl (cI, 121, .inl (fun _ => 0))), ((s2 5), .inl (cI, 121, .inl (fun _ => 0))), ((s2 6), .inl (cI, 121, .inl (fun _ => 0))), ((s2 7), .inl (cI, 121, .inl (fun _ => 0))), ((s2 8), .inl (cI, 121, .inl (fun _ => 0))), ((s2 9), .inl (cI, 121, .inl (fun _ => 0))), (v3, .inl (cI, 10, .inl (fun _ => 0)))] H := hP
  have hD : va_D A [(h0, .inr (4, [.int 0, .ref v1, .ref v2, .ref v3, .null])), (v1, .inl (cQ, 10, .inr (.inr (.inr (.inr (fun i => if i < 10 then some (s1 i) else none)))))), ((s1 0), .inl (cI, 121, .inl (fun _ => 0))), ((s1 1), .inl (cI, 121, .inl (fun _ => 0))), ((s1 2), .inl (cI, 121, .inl (fun _ => 0))), ((s1 3), .inl (cI, 121, .inl (fun _ => 0))), ((s1 4), .inl (cI, 121, .inl (fun _ => 0))), ((s1 5), .inl (cI, 121, .inl (fun _ => 0))), ((s1 6), .inl (cI, 121, .inl (fun _ => 0))), ((s1 7), .inl (cI, 121, .inl (fun _ => 0))), ((s1 8), .inl (cI, 121, .inl (fun _ => 0))), ((s1 9), .inl (cI, 121, .inl (fun _ => 0))), (v2, .inl (cQ, 10, .inr (.inr (.inr (.inr (fun i => if i < 10 then some (s2 i) else none)))))), ((s2 0), .inl (cI, 121, .inl (fun _ => 0))), ((s2 1), .inl (cI, 121, .inl (fun _ => 0))), ((s2 2), .inl (cI, 121, .inl (fun _ => 0))), ((s2 3), .inl (cI, 121, .inl (fun _ => 0))), ((s2 4), .inl (cI, 121, .inl (fun _ => 0))), ((s2 5), .inl (cI, 121, .inl (fun _ => 0))), ((s2 6), .inl (cI, 121, .inl (fun _ => 0))), ((s2 7), .inl (cI, 121, .inl (fun _ => 0))), ((s2 8), .inl (cI, 121, .inl (fun _ => 0))), ((s2 9), .inl (cI, 121, .inl (fun _ => 0))), (v3, .inl (cI, 10, .inl (fun _ => 0)))] := hD
  refine lv_aload_n hx hb dX4_init_36 rfl (lv_at hl 0 rfl) ?_
  refine lv_bipush (v := 10) hx hb dX4_init_37 (by decide) ?_
  refine rc_newa (N := 10) hx hb (hts _ q51) hK hP hD hS hA (by decide) (by decide) (by decide) (Nat.le_of_ble_eq_true rfl) (Nat.le_of_ble_eq_true rfl) dX4_init_39 (fun v4 H hP hD hS => ?_)
  have hP : va_P Dd clsL [(h0, .inr (4, [.int 0, .ref v1, .ref v2, .ref v3, .null])), (v1, .inl (cQ, 10, .inr (.inr (.inr (.inr (fun i => if i < 10 then some (s1 i) else none)))))), ((s1 0), .inl (cI, 121, .inl (fun _ => 0))), ((s1 1), .inl (cI, 121, .inl (fun _ => 0))), ((s1 2), .inl (cI, 121, .inl (fun _ => 0))), ((s1 3), .inl (cI, 121, .inl (fun _ => 0))), ((s1 4), .inl (cI, 121, .inl (fun _ => 0))), ((s1 5), .inl (cI, 121, .inl (fun _ => 0))), ((s1 6), .inl (cI, 121, .inl (fun _ => 0))), ((s1 7), .inl (cI, 121, .inl (fun _ => 0))), ((s1 8), .inl (cI, 121, .inl (fun _ => 0))), ((s1 9), .inl (cI, 121, .inl (fun _ => 0))), (v2, .inl (cQ, 10, .inr (.inr (.inr (.inr (fun i => if i < 10 then some (s2 i) else none)))))), ((s2 0), .inl (cI, 121, .inl (fun _ => 0))), ((s2 1), .inl (cI, 121, .inl (fun _ => 0))), ((s2 2), .inl (cI, 121, .inl (fun _ => 0))), ((s2 3), .inl (cI, 121, .inl (fun _ => 0))), ((s2 4), .inl (cI, 121, .inl (fun _ => 0))), ((s2 5), .inl (cI, 121, .inl (fun _ => 0))), ((s2 6), .inl (cI, 121, .inl (fun _ => 0))), ((s2 7), .inl (cI, 121, .inl (fun _ => 0))), ((s2 8), .inl (cI, 121, .inl (fun _ => 0))), ((s2 9), .inl (cI, 121, .inl (fun _ => 0))), (v3, .inl (cI, 10, .inl (fun _ => 0))), (v4, .inl (cI, 10, .inl (fun _ => 0)))] H := hP
  have hD : va_D A [(h0, .inr (4, [.int 0, .ref v1, .ref v2, .ref v3, .null])), (v1, .inl (cQ, 10, .inr (.inr (.inr (.inr (fun i => if i < 10 then some (s1 i) else none)))))), ((s1 0), .inl (cI, 121, .inl (fun _ => 0))), ((s1 1), .inl (cI, 121, .inl (fun _ => 0))), ((s1 2), .inl (cI, 121, .inl (fun _ => 0))), ((s1 3), .inl (cI, 121, .inl (fun _ => 0))), ((s1 4), .inl (cI, 121, .inl (fun _ => 0))), ((s1 5), .inl (cI, 121, .inl (fun _ => 0))), ((s1 6), .inl (cI, 121, .inl (fun _ => 0))), ((s1 7), .inl (cI, 121, .inl (fun _ => 0))), ((s1 8), .inl (cI, 121, .inl (fun _ => 0))), ((s1 9), .inl (cI, 121, .inl (fun _ => 0))), (v2, .inl (cQ, 10, .inr (.inr (.inr (.inr (fun i => if i < 10 then some (s2 i) else none)))))), ((s2 0), .inl (cI, 121, .inl (fun _ => 0))), ((s2 1), .inl (cI, 121, .inl (fun _ => 0))), ((s2 2), .inl (cI, 121, .inl (fun _ => 0))), ((s2 3), .inl (cI, 121, .inl (fun _ => 0))), ((s2 4), .inl (cI, 121, .inl (fun _ => 0))), ((s2 5), .inl (cI, 121, .inl (fun _ => 0))), ((s2 6), .inl (cI, 121, .inl (fun _ => 0))), ((s2 7), .inl (cI, 121, .inl (fun _ => 0))), ((s2 8), .inl (cI, 121, .inl (fun _ => 0))), ((s2 9), .inl (cI, 121, .inl (fun _ => 0))), (v3, .inl (cI, 10, .inl (fun _ => 0))), (v4, .inl (cI, 10, .inl (fun _ => 0)))] := hD
  refine va_putF (D := Dd) (ci := 4) (v := .ref v4) (C := RX4) (T := TX4) (N := 5) hx hb hts inX4 tyX4 tyX4_ok nmX4 hown hK.1 hP hD hS 0 rfl rfl 4 (by decide) (hts _ q132) (fun _ h9 => h9) rfl hin rfl (tyX4_ok 4 (by decide)) rfl rfl (Nat.le_of_ble_eq_true rfl) dX4_init_41 (fun H locs hP hD hS => ?_)
  have hP : va_P Dd clsL [(h0, .inr (4, [.int 0, .ref v1, .ref v2, .ref v3, .ref v4])), (v1, .inl (cQ, 10, .inr (.inr (.inr (.inr (fun i => if i < 10 then some (s1 i) else none)))))), ((s1 0), .inl (cI, 121, .inl (fun _ => 0))), ((s1 1), .inl (cI, 121, .inl (fun _ => 0))), ((s1 2), .inl (cI, 121, .inl (fun _ => 0))), ((s1 3), .inl (cI, 121, .inl (fun _ => 0))), ((s1 4), .inl (cI, 121, .inl (fun _ => 0))), ((s1 5), .inl (cI, 121, .inl (fun _ => 0))), ((s1 6), .inl (cI, 121, .inl (fun _ => 0))), ((s1 7), .inl (cI, 121, .inl (fun _ => 0))), ((s1 8), .inl (cI, 121, .inl (fun _ => 0))), ((s1 9), .inl (cI, 121, .inl (fun _ => 0))), (v2, .inl (cQ, 10, .inr (.inr (.inr (.inr (fun i => if i < 10 then some (s2 i) else none)))))), ((s2 0), .inl (cI, 121, .inl (fun _ => 0))), ((s2 1), .inl (cI, 121, .inl (fun _ => 0))), ((s2 2), .inl (cI, 121, .inl (fun _ => 0))), ((s2 3), .inl (cI, 121, .inl (fun _ => 0))), ((s2 4), .inl (cI, 121, .inl (fun _ => 0))), ((s2 5), .inl (cI, 121, .inl (fun _ => 0))), ((s2 6), .inl (cI, 121, .inl (fun _ => 0))), ((s2 7), .inl (cI, 121, .inl (fun _ => 0))), ((s2 8), .inl (cI, 121, .inl (fun _ => 0))), ((s2 9), .inl (cI, 121, .inl (fun _ => 0))), (v3, .inl (cI, 10, .inl (fun _ => 0))), (v4, .inl (cI, 10, .inl (fun _ => 0)))] H := hP
  have hD : va_D A [(h0, .inr (4, [.int 0, .ref v1, .ref v2, .ref v3, .ref v4])), (v1, .inl (cQ, 10, .inr (.inr (.inr (.inr (fun i => if i < 10 then some (s1 i) else none)))))), ((s1 0), .inl (cI, 121, .inl (fun _ => 0))), ((s1 1), .inl (cI, 121, .inl (fun _ => 0))), ((s1 2), .inl (cI, 121, .inl (fun _ => 0))), ((s1 3), .inl (cI, 121, .inl (fun _ => 0))), ((s1 4), .inl (cI, 121, .inl (fun _ => 0))), ((s1 5), .inl (cI, 121, .inl (fun _ => 0))), ((s1 6), .inl (cI, 121, .inl (fun _ => 0))), ((s1 7), .inl (cI, 121, .inl (fun _ => 0))), ((s1 8), .inl (cI, 121, .inl (fun _ => 0))), ((s1 9), .inl (cI, 121, .inl (fun _ => 0))), (v2, .inl (cQ, 10, .inr (.inr (.inr (.inr (fun i => if i < 10 then some (s2 i) else none)))))), ((s2 0), .inl (cI, 121, .inl (fun _ => 0))), ((s2 1), .inl (cI, 121, .inl (fun _ => 0))), ((s2 2), .inl (cI, 121, .inl (fun _ => 0))), ((s2 3), .inl (cI, 121, .inl (fun _ => 0))), ((s2 4), .inl (cI, 121, .inl (fun _ => 0))), ((s2 5), .inl (cI, 121, .inl (fun _ => 0))), ((s2 6), .inl (cI, 121, .inl (fun _ => 0))), ((s2 7), .inl (cI, 121, .inl (fun _ => 0))), ((s2 8), .inl (cI, 121, .inl (fun _ => 0))), ((s2 9), .inl (cI, 121, .inl (fun _ => 0))), (v3, .inl (cI, 10, .inl (fun _ => 0))), (v4, .inl (cI, 10, .inl (fun _ => 0)))] := hD
  refine W.widen (k := 24) (n := 2460) (Nat.le_of_ble_eq_true rfl) (Nat.le_of_ble_eq_true rfl) ?_
  have hP : va_P Dd clsL (at_X4 cI cQ h0 (v1, s1, v2, s2, v3, v4)) H := by unfold at_X4; (try dsimp only); exact hP
  have hD : va_D A (at_X4 cI cQ h0 (v1, s1, v2, s2, v3, v4)) := by unfold at_X4; (try dsimp only); exact hD
  exact rc_fin (f := at_X4 cI cQ h0) (v1, s1, v2, s2, v3, v4) hx hb hr hlocks hAe hP hD hS dX4_init_44
