/-! The frame: one world for both objects, at addresses Γ.1; every method is a function on its numbers (St) -/
def sR (σ : St) (q : Nat) (r : Nat → Int32) : St := fun j => if j = q then r else σ j
def st (σ : St) (q k : Nat) (v : Int32) : St := sR σ q (upd (σ q) k v)
def wl (Γ : Gm) (σ : St) : va_W := (List.range nW).map (fun q => (Γ.1 q, el Γ q (σ q)))
theorem wl_at {Γ : Gm} {σ : St} {q : Nat} (h : q < nW) : (wl Γ σ)[q]? = some (Γ.1 q, el Γ q (σ q)) := by
  unfold wl
  rw [List.getElem?_map, List.getElem?_range h]
  rfl
theorem wl_of {Γ : Gm} {σ : St} {k : Nat} {x : Nat × va_E} (h : (wl Γ σ)[k]? = some x) : k < nW ∧ x = (Γ.1 k, el Γ k (σ k)) := by
  have hk : k < nW := by
    have h1 := (List.getElem?_eq_some_iff.mp h).1
    unfold wl at h1
    rw [List.length_map, List.length_range] at h1
    exact h1
  exact ⟨hk, Option.some.inj (h.symm.trans (wl_at hk))⟩
theorem wl_set {Γ : Gm} {σ : St} {q : Nat} (r : Nat → Int32) (h : q < nW) : (wl Γ σ).set q (Γ.1 q, el Γ q r) = wl Γ (sR σ q r) := by
  apply List.ext_getElem?
  intro k
  have hl : (wl Γ σ).length = nW := by unfold wl; rw [List.length_map, List.length_range]
  by_cases hk : k = q
  · subst hk
    rw [List.getElem?_set_self (by rw [hl]; exact h), wl_at h]
    simp [sR]
  · rw [List.getElem?_set_ne (Ne.symm hk)]
    by_cases hn : k < nW
    · rw [wl_at hn, wl_at hn]
      simp [sR, hk]
    · rw [List.getElem?_eq_none (by rw [hl]; omega), List.getElem?_eq_none (by unfold wl; rw [List.length_map, List.length_range]; omega)]
def Gi (Γ : Gm) : Prop := ∀ i j : Nat, i < nW → j < nW → Γ.1 i = Γ.1 j → i = j
def Rg (Γ : Gm) (sz : Nat) : Nat → Prop := fun x => (∃ i : Nat, i < nW ∧ Γ.1 i = x) ∨ sz ≤ x
theorem Rg.at {Γ : Gm} {sz q : Nat} (h : q < nW) : Rg Γ sz (Γ.1 q) := Or.inl ⟨q, h, rfl⟩
theorem Rg.up {Γ : Gm} {a b x : Nat} (h : a ≤ b) (hx : Rg Γ b x) : Rg Γ a x := by
  rcases hx with hx | hx
  · exact Or.inl hx
  · exact Or.inr (Nat.le_trans h hx)
theorem wl_D {Γ : Gm} (hG : Gi Γ) (σ : St) (sz : Nat) : va_D (Rg Γ sz) (wl Γ σ) := by
  refine ⟨fun i j p q hi hj hpq => ?_, fun k q hk => ?_⟩
  · obtain ⟨h1, rfl⟩ := wl_of hi
    obtain ⟨h2, rfl⟩ := wl_of hj
    exact hG i j h1 h2 hpq
  · obtain ⟨h1, rfl⟩ := wl_of hk
    exact Rg.at h1
def gT : List Cond := lw_tbl.filter goodWord
theorem mem_gT {w : Cond} (h : w ∈ lw_tbl) (hg : goodWord w = true) : w ∈ gT := List.mem_filter.mpr ⟨h, hg⟩
theorem gT_in {w : Cond} (h : w ∈ gT) : w ∈ lw_tbl := (List.mem_filter.mp h).1
theorem gT_t {w : Cond} (i : Nat) (h : tables_1[i]? = some w) (hg : goodWord w = true) : w ∈ gT := mem_gT (List.mem_append_right _ (List.mem_of_getElem? h)) hg
theorem gT_p {w : Cond} (i : Nat) (h : (k2_sels lw_privs)[i]? = some w) (hg : goodWord w = true) : w ∈ gT := mem_gT (List.mem_append_left _ (List.mem_of_getElem? h)) hg
theorem gT_good {ws : List Cond} (h : ∀ w ∈ ws, w ∈ gT) : GoodIn gT ws := fun w hw => ⟨h w hw, good_of_word (List.mem_filter.mp (h w hw)).2⟩
theorem gT_code {w : Cond} (h : w ∈ gT) : GoodIn gT (w :: gT) := gT_good (List.forall_mem_cons.mpr ⟨h, fun _ h => h⟩)
/-- the private members of nest mates that are linked -/
def nestW : List Cond := [.methodLinkNest "StreetNumbers$Laws" 42 ⟨"StreetNumbers", "isUse", "(I)Z"⟩ "StreetNumbers", .methodLinkNest "StreetNumbers$Laws" 50 ⟨"StreetNumbers", "held", "(III)I"⟩ "StreetNumbers", .methodLinkNest "StreetNumbers$Reader" 24 ⟨"StreetNumbers", "held", "(III)I"⟩ "StreetNumbers", .fieldLinkNest "StreetNumbers$Reader" 72 "StreetNumbers" "NAMES" "[C" "StreetNumbers", .methodLinkNest "StreetNumbers$Sheets" 21 ⟨"StreetNumbers", "isSheet", "(I)Z"⟩ "StreetNumbers", .methodLinkNest "StreetNumbers$Street" 128 ⟨"StreetNumbers", "rest", "(II)I"⟩ "StreetNumbers", .methodLinkNest "StreetNumbers$Voices" 43 ⟨"StreetNumbers", "kindAbove", "(I)I"⟩ "StreetNumbers", .methodLinkNest "StreetNumbers$Voices" 64 ⟨"StreetNumbers", "quotient", "(II)I"⟩ "StreetNumbers", .methodLinkNest "StreetNumbers$Sheets" 38 ⟨"StreetNumbers", "held", "(III)I"⟩ "StreetNumbers"]
def Nst (U : State) : Prop := ∀ w ∈ nestW, va_Nw w U
theorem Nst.warm {s U : State} (hW : s.WarmedH U.vm) (h : Nst s) : Nst U := by
  unfold Nst nestW at h ⊢
  obtain ⟨h1, h⟩ := List.forall_mem_cons.mp h
  obtain ⟨h2, h⟩ := List.forall_mem_cons.mp h
  obtain ⟨h3, h⟩ := List.forall_mem_cons.mp h
  obtain ⟨h4, h⟩ := List.forall_mem_cons.mp h
  obtain ⟨h5, h⟩ := List.forall_mem_cons.mp h
  obtain ⟨h6, h⟩ := List.forall_mem_cons.mp h
  obtain ⟨h7, h⟩ := List.forall_mem_cons.mp h
  obtain ⟨h8, h⟩ := List.forall_mem_cons.mp h
  obtain ⟨h9, h⟩ := List.forall_mem_cons.mp h
  exact List.forall_mem_cons.mpr ⟨h1.warmM hW, List.forall_mem_cons.mpr ⟨h2.warmM hW, List.forall_mem_cons.mpr ⟨h3.warmM hW, List.forall_mem_cons.mpr ⟨h4.warmF hW, List.forall_mem_cons.mpr ⟨h5.warmM hW, List.forall_mem_cons.mpr ⟨h6.warmM hW, List.forall_mem_cons.mpr ⟨h7.warmM hW, List.forall_mem_cons.mpr ⟨h8.warmM hW, List.forall_mem_cons.mpr ⟨h9.warmM hW, fun _ h => absurd h List.not_mem_nil⟩⟩⟩⟩⟩⟩⟩⟩⟩
theorem Nst.same {s U : State} (h : s.vm = U.vm) (hN : Nst s) : Nst U := fun w hw => va_Nw.same (by
  unfold nestW at hw
  simp only [List.mem_cons, List.not_mem_nil, or_false] at hw
  rcases hw with rfl | rfl | rfl | rfl | rfl | rfl | rfl | rfl | rfl <;> rfl) h (hN w hw)
/-- a static table that nobody writes -/
def Stt (C n d : String) (ty : FieldType) (t N : Nat) (f : Nat → Int32) (A : Nat → Prop) (U : State) (H : Heap) : Prop := va_Z C n d (.ref t) A U H ∧ va_T ty t N (fun j => .int (f j)) A U H
theorem Stt.goes {C n d : String} {ty : FieldType} {t N : Nat} {f : Nat → Int32} {A B : Nat → Prop} {s U : State} {H H1 : Heap} (h : Stt C n d ty t N f A s H) (hq : ∀ a : Nat, a < H.size → ¬ A a → H1[a]? = H[a]?) (hAB : ∀ q, B q → A q) (hvm : s.vm.Alike U.vm) : Stt C n d ty t N f B U H1 := ⟨((h.1.kept hq).narrow hAB).moved hvm, ((h.2.kept hq).narrow hAB).moved hvm⟩
/-- what holds of a method's start and stays -/
def Fx (Γ : Gm) (A : Nat → Prop) (U : State) (H : Heap) : Prop := Gi Γ ∧ va_K Γ.2.1 clsL (tysL Γ) U ∧ Nst U ∧ Stt "StreetNumbers" "KIND_ABOVE" "[I" .int (Γ.2.2.2 0) 7 tKA A U H ∧ Stt "StreetNumbers" "NAMES" "[C" .char (Γ.2.2.2 1) 6 tNA A U H ∧ Stt "StreetNumbers$Voices" "BODIES" "[I" .int (Γ.2.2.2 2) 28 tBO A U H
/-- what moves: the world's numbers, and that nothing else changed -/
def Mv (Γ : Gm) (σ : St) (s : State) (H : Heap) (locs : List Loc) : Prop := va_P Γ.2.1 clsL (wl Γ σ) H ∧ va_S (Rg Γ s.heap.size) s.heap H locs
theorem Fx.callee {Γ : Gm} {σ : St} {s U : State} {H : Heap} {locs : List Loc} (F : Fx Γ (Rg Γ s.heap.size) s s.heap) (M : Mv Γ σ s H locs) (hU : U.heap = H) (hW : s.WarmedH U.vm) : Fx Γ (Rg Γ H.size) U U.heap := by
  obtain ⟨h1, h2, h3, h4, h5, h6⟩ := F
  subst hU
  have hq : ∀ a : Nat, a < s.heap.size → ¬ Rg Γ s.heap.size a → U.heap[a]? = s.heap[a]? := fun a ha hn => M.2.2.1 a ha hn
  have hAB : ∀ q, Rg Γ U.heap.size q → Rg Γ s.heap.size q := fun q h => Rg.up M.2.1 h
  exact ⟨h1, va_K.moved hW.alike h2, h3.warm hW, h4.goes hq hAB hW.alike, h5.goes hq hAB hW.alike, h6.goes hq hAB hW.alike⟩
theorem Fx.same {Γ : Gm} {A : Nat → Prop} {s U : State} {H : Heap} (F : Fx Γ A s H) (h : s.vm = U.vm) : Fx Γ A U H := by
  obtain ⟨h1, h2, h3, h4, h5, h6⟩ := F
  have hv : s.vm.Alike U.vm := by rw [h]; exact Vm.Alike.refl _
  exact ⟨h1, va_K.moved hv h2, h3.same h, h4.goes (fun _ _ _ => rfl) (fun _ h => h) hv, h5.goes (fun _ _ _ => rfl) (fun _ h => h) hv, h6.goes (fun _ _ _ => rfl) (fun _ h => h) hv⟩
def Pc (Γ : Gm) (σ : St) (sz : Nat) (av : List Value) : Array Value → State → Prop := va_Pc av (fun U => U.heap.size = sz ∧ va_P Γ.2.1 clsL (wl Γ σ) U.heap ∧ Fx Γ (Rg Γ sz) U U.heap)
def Qi (Γ : Gm) (r : Int32) (σ : St) (sz : Nat) : Array Value → State → Outcome → State → Prop := va_Qi (fun (z : Int32) (_ : Unit) => z = r) (fun _ t => va_P Γ.2.1 clsL (wl Γ σ) t.heap) (Rg Γ sz)
def Qv (Γ : Gm) (σ : St) (sz : Nat) : Array Value → State → Outcome → State → Prop := va_Qv (fun (_ : Unit) => True) (fun _ t => va_P Γ.2.1 clsL (wl Γ σ) t.heap) (Rg Γ sz)
def rmd (d : Nat) : Room := { frames := d, cells := 0, slots := 0, locals := 48 * d }
/-- a method's contract: its answer and the world's numbers behind it -/
abbrev MetI (l : Launch) (y : MethodName) (cc : ByteArray) (nL : Nat) (ty : FieldType) (d : Nat) (Γ : Gm) (σ : St) (av : List Value) (r : Int32) (σ' : St) : Prop := ∀ sz : Nat, Met l y (Cond.code y cc nL (some ty) :: gT) (rmd d) (Pc Γ σ sz av) (Qi Γ r σ' sz) 0 0 (Rg Γ sz)
abbrev MetV (l : Launch) (y : MethodName) (cc : ByteArray) (nL : Nat) (d : Nat) (Γ : Gm) (σ : St) (av : List Value) (σ' : St) : Prop := ∀ sz : Nat, Met l y (Cond.code y cc nL none :: gT) (rmd d) (Pc Γ σ sz av) (Qv Γ σ' sz) 0 0 (Rg Γ sz)
/-- what a method's body may use -/
def Cx (p : Program) (s : State) (m : MethodId) (args : Array Value) (meth : Method) (c : Code) (cc : ByteArray) (own : String) (nL : Nat) (ret : Option FieldType) (Γ : Gm) : Prop := p.tables.exec = Jvm.exec ∧ c.code = cc ∧ c.maxLocals = nL ∧ s.vm.findClass own = some m.cls ∧ (∀ w ∈ gT, w.before args s = true) ∧ meth.sig.returnType = ret ∧ meth.locks = false ∧ Fx Γ (Rg Γ s.heap.size) s s.heap
theorem Pc_blind {Γ : Gm} {σ : St} {sz : Nat} {av : List Value} : FrameBlind (Pc Γ σ sz av) := by
  intro a U g mk q
  obtain ⟨q0, q1, qP, qF⟩ := q
  exact ⟨q0, q1, qP, qF.same rfl⟩
theorem met_in {l : Launch} {y : MethodName} {cc : ByteArray} {nL d sz : Nat} {ret : Option FieldType} {Γ : Gm} {σ : St} {av : List Value} {Qc : Array Value → State → Outcome → State → Prop} (hy : plainName y.cls = true) (hn : (lg_sl av).length ≤ nL)
    (body : ∀ (p : Program) (e : Env) (s : State) (m : MethodId) (args : Array Value) (below : List Frame) (meth : Method) (c : Code) (ls : Array Slot), Cx p s m args meth c cc y.cls nL ret Γ → s.heap.size = sz → Mv Γ σ s s.heap [] → lv_has ls nL (lv_args 0 av) → W p l e (rmd d) s m args below meth c s.heap [] 0 0 (MQ below Qc args s 0 0 (Rg Γ sz)) (F0 m 0 ls [])) :
    Met l y (Cond.code y cc nL ret :: gT) (rmd d) (Pc Γ σ sz av) Qc 0 0 (Rg Γ sz) := by
  refine Met.ofW (cc := cc) (maxL := nL) (ret := ret) hy rfl ?_
  intro p e s m args below meth c s₁ B hml hv
  obtain ⟨rfl, hsz, hP, hF⟩ := hv
  have hts := atoms_spec (ws := Cond.code y cc nL ret :: gT) B.pre
  rw [lg_entry_eq]
  exact body p e s m _ below meth c _ ⟨B.exec, B.bytes, hml, findClass_of_methodNamed B.named, fun w hw => hts w (List.mem_cons_of_mem _ hw), B.returns, B.notSynchronized, by rw [hsz]; exact hF⟩ hsz ⟨hP, va_S.rf⟩ (lv_entry av hn)
section FR
variable {p : Program} {l : Launch} {e : Env} {R : Room} {s : State} {m : MethodId} {args : Array Value} {below : List Frame} {meth : Method} {c : Code} {H : Heap} {locs : List Loc} {cells slots : Nat} {Q : State → Prop}
variable {cc : ByteArray} {pc nL : Nat} {ls : Array Slot} {rest : List Value} {Γ : Gm} {σ : St} {own : String} {ret : Option FieldType}
theorem Cx.x (X : Cx p s m args meth c cc own nL ret Γ) : p.tables.exec = Jvm.exec := X.1
theorem Cx.b (X : Cx p s m args meth c cc own nL ret Γ) : c.code = cc := X.2.1
theorem Cx.ml (X : Cx p s m args meth c cc own nL ret Γ) : c.maxLocals = nL := X.2.2.1
theorem Cx.ow (X : Cx p s m args meth c cc own nL ret Γ) : s.vm.findClass own = some m.cls := X.2.2.2.1
theorem Cx.ts (X : Cx p s m args meth c cc own nL ret Γ) : ∀ w ∈ gT, w.before args s = true := X.2.2.2.2.1
theorem Cx.rt (X : Cx p s m args meth c cc own nL ret Γ) : meth.sig.returnType = ret := X.2.2.2.2.2.1
theorem Cx.lk (X : Cx p s m args meth c cc own nL ret Γ) : meth.locks = false := X.2.2.2.2.2.2.1
theorem Cx.F (X : Cx p s m args meth c cc own nL ret Γ) : Fx Γ (Rg Γ s.heap.size) s s.heap := X.2.2.2.2.2.2.2
theorem Mv.D (M : Mv Γ σ s H locs) (F : Fx Γ (Rg Γ s.heap.size) s s.heap) : va_D (Rg Γ s.heap.size) (wl Γ σ) := wl_D F.1 σ _
theorem r_get (X : Cx p s m args meth c cc own nL ret Γ) (M : Mv Γ σ s H locs) {q ci N idx : Nat} {cl ref : String} {T : u_T} {fs : List Value} {v : Value} (hq : q < nW) (he : el Γ q (σ q) = .inr (ci, fs)) (hc : clsL[ci]? = some (cl, T, N)) (hin : ∀ w ∈ u_ws cl T N, w ∈ gT) (k : Nat) (hk : k < N) (hlink : Cond.fieldLink own idx ref (T k).2.1 (T k).2.2.1 ∈ gT) (hsame : (T k).1 = ref) (hv : fs[k]? = some v) (hdg : decode cc pc = .ok (.getfield idx, 3))
    (kk : W p l e R s m args below meth c H locs cells slots Q (F0 m (pc + 3) ls (v :: rest))) : W p l e R s m args below meth c H locs cells slots Q (F0 m pc ls (.ref (Γ.1 q) :: rest)) :=
  va_get X.x X.b X.ts hin X.ow X.F.2.1 M.1 q (by rw [wl_at hq, he]) hc k hk (X.ts _ hlink) (fun x h => by rw [← hsame]; exact h) hv hdg kk
theorem r_put (X : Cx p s m args meth c cc own nL ret Γ) (M : Mv Γ σ s H locs) {q ci N idx : Nat} {cl ref : String} {T : u_T} {fs : List Value} {x : Int32} {ty0 : Nat → FieldType} {ty : FieldType} (hq : q < nW) (he : el Γ q (σ q) = .inr (ci, fs)) (hc : clsL[ci]? = some (cl, T, N)) (hin : ∀ w ∈ u_ws cl T N, w ∈ gT) (hty : ∀ k, k < N → parseFieldDescriptor (T k).2.2.1 = some (ty0 k)) (hnm : ∀ a, a < N → ∀ b, b < N → a ≠ b → (T a).2.1 ≠ (T b).2.1) (k : Nat) (hk : k < N) (hlink : Cond.fieldLink own idx ref (T k).2.1 (T k).2.2.1 ∈ gT) (hsame : (T k).1 = ref) (hfin : (T k).2.2.2 = false) (hd : ty0 k = ty) (hn : narrow ty (.int x) = .int x) (hfit : fits ty (.int x) = true) (hl : k < fs.length) (hset : el Γ q (upd (σ q) k x) = .inr (ci, fs.set k (.int x))) (hdg : decode cc pc = .ok (.putfield idx, 3))
    (kk : ∀ (H1 : Heap) (locs1 : List Loc), Mv Γ (st σ q k x) s H1 locs1 → W p l e R s m args below meth c H1 locs1 cells slots Q (F0 m (pc + 3) ls rest)) : W p l e R s m args below meth c H locs cells slots Q (F0 m pc ls (.int x :: .ref (Γ.1 q) :: rest)) := by
  subst hd
  refine va_put X.x X.b X.ts hin ty0 hty hnm X.ow X.F.2.1 M.1 (M.D X.F) M.2 q (by rw [wl_at hq, he]) hc k hk (X.ts _ hlink) (fun x h => by rw [← hsame]; exact h) hfin (hty k hk) hn hfit hl hdg (fun H1 locs1 hP hD hS => kk H1 locs1 ⟨?_, hS⟩)
  rw [← hset, wl_set _ hq] at hP
  exact hP
theorem r_iald (X : Cx p s m args meth c cc own nL ret Γ) (M : Mv Γ σ s H locs) {q n : Nat} (hn : alen q = n) {i : Int32} (hin : vp_in i n) (hdg : decode cc pc = .ok (.iaload, 1))
    (kk : W p l e R s m args below meth c H locs cells slots Q (F0 m (pc + 1) ls (.int (σ q i.toNatClampNeg) :: rest))) : W p l e R s m args below meth c H locs cells slots Q (F0 m pc ls (.int i :: .ref (Γ.1 q) :: rest)) := by
  have h0 : alen q ≠ 0 := fun h => hin (Or.inr (by omega))
  exact va_iald X.x X.b X.F.2.1 M.1 q 0 (by rw [wl_at (alen_lt h0)]; unfold el; rw [if_neg h0, hn]) rfl hin hdg kk
theorem r_iast (X : Cx p s m args meth c cc own nL ret Γ) (M : Mv Γ σ s H locs) {q n : Nat} (hn : alen q = n) {i x : Int32} (hin : vp_in i n) (hdg : decode cc pc = .ok (.iastore, 1))
    (kk : ∀ (H1 : Heap) (locs1 : List Loc), Mv Γ (st σ q i.toNatClampNeg x) s H1 locs1 → W p l e R s m args below meth c H1 locs1 cells slots Q (F0 m (pc + 1) ls rest)) : W p l e R s m args below meth c H locs cells slots Q (F0 m pc ls (.int x :: .int i :: .ref (Γ.1 q) :: rest)) := by
  have h0 : alen q ≠ 0 := fun h => hin (Or.inr (by omega))
  refine va_iast X.x X.b X.F.2.1 M.1 (M.D X.F) M.2 q 0 (by rw [wl_at (alen_lt h0)]; unfold el; rw [if_neg h0, hn]) rfl hin hdg (fun H1 locs1 hP hD hS => kk H1 locs1 ⟨?_, hS⟩)
  have e : (.inl (Γ.2.2.1.1, n, .inl (upd (σ q) i.toNatClampNeg x)) : va_E) = el Γ q (upd (σ q) i.toNatClampNeg x) := by unfold el; rw [if_neg h0, hn]
  rw [e, wl_set _ (alen_lt h0)] at hP
  exact hP
theorem r_aald (X : Cx p s m args meth c cc own nL ret Γ) (M : Mv Γ σ s H locs) {q n b : Nat} (hq : q < nW) (he : el Γ q (σ q) = .inl (Γ.2.2.1.2, n, .inr (.inr (.inr (.inr (fun i => if i < n then some (Γ.1 (b + i)) else none)))))) {i : Int32} (hin : vp_in i n) (hdg : decode cc pc = .ok (.aaload, 1))
    (kk : W p l e R s m args below meth c H locs cells slots Q (F0 m (pc + 1) ls (.ref (Γ.1 (b + i.toNatClampNeg)) :: rest))) : W p l e R s m args below meth c H locs cells slots Q (F0 m pc ls (.int i :: .ref (Γ.1 q) :: rest)) := by
  have hlt : i.toNatClampNeg < n := Nat.not_le.mp fun q => hin (Or.inr q)
  have hc : H[Γ.1 q]? = some (vp_cell Γ.2.2.1.2 (n, .inr (.inr (.inr (.inr (fun i => if i < n then some (Γ.1 (b + i)) else none)))))) := by
    have := M.1 q _ (wl_at hq)
    rw [he] at this
    exact this
  exact W.aald (v := .ref (Γ.1 (b + i.toNatClampNeg))) (ty := .array .int) X.x X.b hc ((X.F.2.1.2 1 (Γ.2.2.1.2, .array .int) rfl).1 n (fun j => va_rf (if j < n then some (Γ.1 (b + j)) else none))) rfl (fun q => by cases q) (by show ¬ (i < 0 ∨ (arrV _ _ _).slots.size ≤ _); rw [arrV_size]; exact hin) (by show (arrV _ _ _).slots[_]? = _; rw [arrV_read _ _ hlt]; simp only [if_pos hlt]; rfl) rfl rfl hdg kk
theorem r_alen (X : Cx p s m args meth c cc own nL ret Γ) (M : Mv Γ σ s H locs) {q n : Nat} (hn : alen q = n) (h0 : n ≠ 0) {v : Int32} (hv : Int32.ofNat n = v) (hdg : decode cc pc = .ok (.arraylength, 1))
    (kk : W p l e R s m args below meth c H locs cells slots Q (F0 m (pc + 1) ls (.int v :: rest))) : W p l e R s m args below meth c H locs cells slots Q (F0 m pc ls (.ref (Γ.1 q) :: rest)) :=
  va_alen (x := (n, .inl (σ q))) X.x X.b X.F.2.1 M.1 q 0 (by rw [wl_at (alen_lt (by rw [hn]; exact h0))]; unfold el; rw [if_neg (by rw [hn]; exact h0), hn]) rfl hv hdg kk
theorem r_copy (X : Cx p s m args meth c cc own nL ret Γ) (M : Mv Γ σ s H locs) {q1 q2 n1 n2 : Nat} (hn1 : alen q1 = n1) (hn2 : alen q2 = n2) (hl : lv_has ls nL []) {idx : Nat} {sp dp n : Int32} (h0 : n1 ≠ 0 ∧ n2 ≠ 0) (hok : ¬ sp < 0 ∧ ¬ dp < 0 ∧ ¬ n < 0 ∧ sp.toNatClampNeg + n.toNatClampNeg ≤ n1 ∧ dp.toNatClampNeg + n.toNatClampNeg ≤ n2)
    (hlink : Cond.methodLink own idx arraycopyName ∈ gT) (hnat : Cond.native arraycopyName ∈ gT) (hstat : Cond.static arraycopyName ∈ gT) (hini : Cond.initialized "java/lang/System" ∈ gT) (hframes : 1 ≤ R.frames) (hlocals : (rest.map fun v => v.category).sum + (nativeFrameWords "java/lang/System" "arraycopy" 5 + 11) ≤ R.locals) (hdg : decode cc pc = .ok (.invokestatic idx, 3))
    (kk : ∀ (H1 : Heap) (locs1 : List Loc), Mv Γ (sR σ q2 (va_cpy (σ q1) (σ q2) sp.toNatClampNeg dp.toNatClampNeg n.toNatClampNeg)) s H1 locs1 → W p l e R s m args below meth c H1 locs1 cells slots Q (F0 m (pc + 3) ls rest)) : W p l e R s m args below meth c H locs cells slots Q (F0 m pc ls (.int n :: .int dp :: .ref (Γ.1 q2) :: .int sp :: .ref (Γ.1 q1) :: rest)) := by
  subst hn1
  subst hn2
  refine va_copyi X.x X.b (by rw [X.ml]; exact hl.1.symm) X.ow (X.ts _ hlink) (X.ts _ hnat) (X.ts _ hstat) (X.ts _ hini) X.F.2.1 M.1 (M.D X.F) M.2 q1 q2 0 0 (by rw [wl_at (alen_lt h0.1)]; unfold el; rw [if_neg h0.1]) (by rw [wl_at (alen_lt h0.2)]; unfold el; rw [if_neg h0.2]) rfl rfl rfl hok.1 hok.2.1 hok.2.2.1 hok.2.2.2.1 hok.2.2.2.2 (fun i _ => rfl) hframes hlocals hdg (fun H1 locs1 hP hD hS => kk H1 locs1 ⟨?_, hS⟩)
  have e : ∀ r : Nat → Int32, (.inl (Γ.2.2.1.1, alen q2, .inl r) : va_E) = el Γ q2 r := fun r => by unfold el; rw [if_neg h0.2]
  rw [e, wl_set _ (alen_lt h0.2)] at hP
  exact hP
theorem r_gets (X : Cx p s m args meth c cc own nL ret Γ) (M : Mv Γ σ s H locs) {C n d : String} {ty : FieldType} {t N idx : Nat} {f : Nat → Int32} (hZ : Stt C n d ty t N f (Rg Γ s.heap.size) s s.heap) (hlink : Cond.fieldLink own idx C n d ∈ gT) (hdg : decode cc pc = .ok (.getstatic idx, 3))
    (kk : W p l e R s m args below meth c H locs cells slots Q (F0 m (pc + 3) ls (.ref t :: rest))) : W p l e R s m args below meth c H locs cells slots Q (F0 m pc ls rest) :=
  va_gets X.x X.b hZ.1 M.2 X.ow (X.ts _ hlink) (fun _ h => h) hdg kk
theorem r_getsN (X : Cx p s m args meth c cc own nL ret Γ) (M : Mv Γ σ s H locs) {C n d host : String} {ty : FieldType} {t N idx : Nat} {f : Nat → Int32} (hZ : Stt C n d ty t N f (Rg Γ s.heap.size) s s.heap) (hlink : Cond.fieldLinkNest own idx C n d host ∈ nestW) (hdg : decode cc pc = .ok (.getstatic idx, 3))
    (kk : W p l e R s m args below meth c H locs cells slots Q (F0 m (pc + 3) ls (.ref t :: rest))) : W p l e R s m args below meth c H locs cells slots Q (F0 m pc ls rest) :=
  va_getsN X.x X.b hZ.1 M.2 X.ow (va_Nw.use rfl (X.F.2.2.1 _ hlink)) (fun _ h => h) hdg kk
theorem r_ti (X : Cx p s m args meth c cc own nL ret Γ) (M : Mv Γ σ s H locs) {C n d : String} {t N : Nat} {f : Nat → Int32} (hZ : Stt C n d .int t N f (Rg Γ s.heap.size) s s.heap) {i : Int32} (hin : vp_in i N) (hdg : decode cc pc = .ok (.iaload, 1))
    (kk : W p l e R s m args below meth c H locs cells slots Q (F0 m (pc + 1) ls (.int (f i.toNatClampNeg) :: rest))) : W p l e R s m args below meth c H locs cells slots Q (F0 m pc ls (.int i :: .ref t :: rest)) :=
  va_ti X.x X.b hZ.2 M.2 hin rfl hdg kk
theorem r_tc (X : Cx p s m args meth c cc own nL ret Γ) (M : Mv Γ σ s H locs) {C n d : String} {t N : Nat} {f : Nat → Int32} (hZ : Stt C n d .char t N f (Rg Γ s.heap.size) s s.heap) {i : Int32} (hin : vp_in i N) (hdg : decode cc pc = .ok (.caload, 1))
    (kk : W p l e R s m args below meth c H locs cells slots Q (F0 m (pc + 1) ls (.int (f i.toNatClampNeg) :: rest))) : W p l e R s m args below meth c H locs cells slots Q (F0 m pc ls (.int i :: .ref t :: rest)) :=
  va_tc X.x X.b hZ.2 M.2 hin rfl hdg kk
theorem r_tlen (X : Cx p s m args meth c cc own nL ret Γ) (M : Mv Γ σ s H locs) {C n d : String} {ty : FieldType} {t N : Nat} {f : Nat → Int32} (hZ : Stt C n d ty t N f (Rg Γ s.heap.size) s s.heap) {v : Int32} (hv : Int32.ofNat N = v) (hdg : decode cc pc = .ok (.arraylength, 1))
    (kk : W p l e R s m args below meth c H locs cells slots Q (F0 m (pc + 1) ls (.int v :: rest))) : W p l e R s m args below meth c H locs cells slots Q (F0 m pc ls (.ref t :: rest)) :=
  va_tlen X.x X.b hZ.2 M.2 hv hdg kk
theorem r_recv (X : Cx p s m args meth c cc own nL ret Γ) (M : Mv Γ σ s H locs) {q ci N : Nat} {C : String} {T : u_T} {fs : List Value} (hq : q < nW) (he : el Γ q (σ q) = .inr (ci, fs)) (hc : clsL[ci]? = some (C, T, N)) : ∃ cellB : Cell, H[Γ.1 q]? = some cellB ∧ cellB.vm.isStatics = false ∧ s.vm.findClass C = some cellB.cls :=
  va_recv (q0 := q) X.F.2.1 M.1 hc (by rw [wl_at hq, he])
theorem r_pre {d : Nat} {av : List Value} (X : Cx p s m args meth c cc own nL ret Γ) (M : Mv Γ σ s H locs) : ∀ U : State, U.heap = H → s.WarmedH U.vm → Pc Γ σ H.size av av.toArray U := fun U hU hW => ⟨rfl, by rw [hU], by rw [hU]; exact M.1, X.F.callee M hU hW⟩
theorem r_free (M : Mv Γ σ s H locs) : ∀ q, Rg Γ H.size q → Rg Γ s.heap.size q := fun _ h => Rg.up M.2.1 h
theorem r_cw {y : MethodName} {bytes : ByteArray} {maxL n d idx : Nat} {rt : Option FieldType} (X : Cx p s m args meth c cc own nL ret Γ) (hlink : Cond.methodLink own idx y ∈ gT) (hini : Cond.initialized y.cls ∈ gT) (hcode : Cond.code y bytes maxL rt ∈ gT) (hd : y.cls ≠ "java/lang/invoke/MethodHandle" ∧ y.cls ≠ "java/lang/invoke/VarHandle" ∧ (parseMethodDescriptor y.desc).map (fun d => d.parameters.length) = some n) (hR : d + 1 ≤ R.frames ∧ 8 + (maxL + 11) + 48 * d ≤ R.locals) :
    CallB R s args own idx y bytes maxL rt (Cond.code y bytes maxL rt :: gT) (rmd d) 0 0 n :=
  callB_of n X.ts (gT_code hcode) rfl rfl rfl (X.ts _ hini) (X.ts _ hlink) hd hR
theorem r_cn {y : MethodName} {bytes : ByteArray} {maxL n d idx : Nat} {rt : Option FieldType} {host : String} (X : Cx p s m args meth c cc own nL ret Γ) (hlink : Cond.methodLinkNest own idx y host ∈ nestW) (hini : Cond.initialized y.cls ∈ gT) (hcode : Cond.code y bytes maxL rt ∈ gT) (hd : y.cls ≠ "java/lang/invoke/MethodHandle" ∧ y.cls ≠ "java/lang/invoke/VarHandle" ∧ (parseMethodDescriptor y.desc).map (fun d => d.parameters.length) = some n) (hR : d + 1 ≤ R.frames ∧ 8 + (maxL + 11) + 48 * d ≤ R.locals) :
    va_CN R s args own idx y host bytes maxL rt (Cond.code y bytes maxL rt :: gT) (rmd d) 0 0 n :=
  va_cnB n X.ts (gT_code hcode) rfl rfl rfl (X.F.2.2.1 _ hlink) (X.ts _ hini) hd hR
theorem r_runI {a : Array Value} {r : Int32} {σ1 : St} {st0 : List Value} (M : Mv Γ σ s H locs) (hr : va_Run p l e R s m args below meth c H locs cells slots 0 0 (F0 m pc ls st0) rest (Qi Γ r σ1 H.size a) (Rg Γ H.size))
    (kk : ∀ (H1 : Heap) (locs1 : List Loc), Mv Γ σ1 s H1 locs1 → W p l e R s m args below meth c H1 locs1 cells slots Q (F0 m (pc + 3) ls (.int r :: rest))) : W p l e R s m args below meth c H locs cells slots Q (F0 m pc ls st0) := by
  refine va_calli hr M.2 (fun q _ h => r_free M q h) (r_free M) (fun z u t H1 locs1 ht hvm hw hB hz hk hS => ?_)
  subst hw
  rw [ht] at hB
  exact kk H1 locs1 ⟨hB, hS⟩
theorem r_runV {a : Array Value} {σ1 : St} {st0 : List Value} (M : Mv Γ σ s H locs) (hr : va_Run p l e R s m args below meth c H locs cells slots 0 0 (F0 m pc ls st0) rest (Qv Γ σ1 H.size a) (Rg Γ H.size))
    (kk : ∀ (H1 : Heap) (locs1 : List Loc), Mv Γ σ1 s H1 locs1 → W p l e R s m args below meth c H1 locs1 cells slots Q (F0 m (pc + 3) ls rest)) : W p l e R s m args below meth c H locs cells slots Q (F0 m pc ls st0) := by
  refine va_callv hr M.2 (fun q _ h => r_free M q h) (r_free M) (fun u t H1 locs1 ht hvm hw hB hz hk hS => ?_)
  rw [ht] at hB
  exact kk H1 locs1 ⟨hB, hS⟩
/-- the words of a callee: its instance method's -/
def Cal (y : MethodName) (bytes : ByteArray) (maxL : Nat) (rt : Option FieldType) (n : Nat) : Prop := Cond.instanceMethod y ∈ gT ∧ Cond.selects y.cls y y ∈ gT ∧ Cond.initialized y.cls ∈ gT ∧ Cond.code y bytes maxL rt ∈ gT ∧ y.cls ≠ "java/lang/invoke/MethodHandle" ∧ y.cls ≠ "java/lang/invoke/VarHandle" ∧ (parseMethodDescriptor y.desc).map (fun d => d.parameters.length) = some n
def CalS (y : MethodName) (bytes : ByteArray) (maxL : Nat) (rt : Option FieldType) (n : Nat) : Prop := Cond.static y ∈ gT ∧ Cond.initialized y.cls ∈ gT ∧ Cond.code y bytes maxL rt ∈ gT ∧ y.cls ≠ "java/lang/invoke/MethodHandle" ∧ y.cls ≠ "java/lang/invoke/VarHandle" ∧ (parseMethodDescriptor y.desc).map (fun d => d.parameters.length) = some n
theorem r_callV {y : MethodName} {bytes : ByteArray} {maxL n d idx q ci N : Nat} {T : u_T} {fs As : List Value} {rt : Option FieldType} {Qc : Array Value → State → Outcome → State → Prop} (X : Cx p s m args meth c cc own nL ret Γ) (M : Mv Γ σ s H locs) (hl : lv_has ls nL []) (hM : Met l y (Cond.code y bytes maxL rt :: gT) (rmd d) (Pc Γ σ H.size (.ref (Γ.1 q) :: As)) Qc 0 0 (Rg Γ H.size)) (hC : Cal y bytes maxL rt n) (hlink : Cond.methodLink own idx y ∈ gT) (hR : d + 1 ≤ R.frames ∧ 8 + (maxL + 11) + 48 * d ≤ R.locals) (hq : q < nW) (he : el Γ q (σ q) = .inr (ci, fs)) (hc : clsL[ci]? = some (y.cls, T, N)) (hn : As.length = n) {st0 : List Value} (hst : st0 = As.reverse ++ .ref (Γ.1 q) :: rest) (hW : (rest.map fun v => v.category).sum ≤ 8) (hf : cells ≤ R.cells ∧ slots ≤ R.slots) (hdg : decode cc pc = .ok (.invokevirtual idx, 3)) :
    va_Run p l e R s m args below meth c H locs cells slots 0 0 (F0 m pc ls st0) rest (Qc (Value.ref (Γ.1 q) :: As).toArray) (Rg Γ H.size) :=
  va_runV (C := y.cls) (b := Γ.1 q) (As := As) ⟨X.x, X.b, X.ml, X.ow, X.ts⟩ hM ⟨r_cw X hlink hC.2.2.1 hC.2.2.2.1 hC.2.2.2.2 hR, X.ts _ hC.1, X.ts _ hC.2.1⟩ ⟨Pc_blind, r_recv X M hq he hc, r_pre (d := d) X M⟩ rfl hn hl.1 hst (lv_room hW) hdg hf
theorem r_callS {y : MethodName} {bytes : ByteArray} {maxL n d idx : Nat} {As : List Value} {rt : Option FieldType} {Qc : Array Value → State → Outcome → State → Prop} (X : Cx p s m args meth c cc own nL ret Γ) (M : Mv Γ σ s H locs) (hl : lv_has ls nL []) (hM : Met l y (Cond.code y bytes maxL rt :: gT) (rmd d) (Pc Γ σ H.size As) Qc 0 0 (Rg Γ H.size)) (hC : CalS y bytes maxL rt n) (hlink : Cond.methodLink own idx y ∈ gT) (hR : d + 1 ≤ R.frames ∧ 8 + (maxL + 11) + 48 * d ≤ R.locals) (hn : As.length = n) {st0 : List Value} (hst : st0 = As.reverse ++ rest) (hW : (rest.map fun v => v.category).sum ≤ 8) (hf : cells ≤ R.cells ∧ slots ≤ R.slots) (hdg : decode cc pc = .ok (.invokestatic idx, 3)) :
    va_Run p l e R s m args below meth c H locs cells slots 0 0 (F0 m pc ls st0) rest (Qc As.toArray) (Rg Γ H.size) :=
  va_runS (As := As) ⟨X.x, X.b, X.ml, X.ow, X.ts⟩ hM ⟨r_cw X hlink hC.2.1 hC.2.2.1 hC.2.2.2 hR, X.ts _ hC.1⟩ ⟨Pc_blind, r_pre (d := d) X M⟩ rfl hn hl.1 hst (lv_room hW) hdg hf
theorem r_callSN {y : MethodName} {bytes : ByteArray} {maxL n d idx : Nat} {As : List Value} {rt : Option FieldType} {host : String} {Qc : Array Value → State → Outcome → State → Prop} (X : Cx p s m args meth c cc own nL ret Γ) (M : Mv Γ σ s H locs) (hl : lv_has ls nL []) (hM : Met l y (Cond.code y bytes maxL rt :: gT) (rmd d) (Pc Γ σ H.size As) Qc 0 0 (Rg Γ H.size)) (hC : CalS y bytes maxL rt n) (hlink : Cond.methodLinkNest own idx y host ∈ nestW) (hR : d + 1 ≤ R.frames ∧ 8 + (maxL + 11) + 48 * d ≤ R.locals) (hn : As.length = n) {st0 : List Value} (hst : st0 = As.reverse ++ rest) (hW : (rest.map fun v => v.category).sum ≤ 8) (hf : cells ≤ R.cells ∧ slots ≤ R.slots) (hdg : decode cc pc = .ok (.invokestatic idx, 3)) :
    va_Run p l e R s m args below meth c H locs cells slots 0 0 (F0 m pc ls st0) rest (Qc As.toArray) (Rg Γ H.size) :=
  va_runSN (As := As) ⟨X.x, X.b, X.ml, X.ow, X.ts⟩ hM ⟨r_cn X hlink hC.2.1 hC.2.2.1 hC.2.2.2 hR, X.ts _ hC.1, trivial⟩ ⟨Pc_blind, r_pre (d := d) X M⟩ rfl hn hl.1 hst (lv_room hW) hdg hf
theorem r_iret {ty : FieldType} {v r : Int32} {σ' : St} (X : Cx p s m args meth c cc own nL (some ty) Γ) (M : Mv Γ σ s H locs) (hn : narrow ty (.int v) = .int v) (h : (some (v, σ) : Option (Int32 × St)) = some (r, σ')) (hdg : decode cc pc = .ok (.ireturn, 1)) : W p l e R s m args below meth c H locs cells slots (MQ below (Qi Γ r σ' s.heap.size) args s cells slots (Rg Γ s.heap.size)) (F0 m pc ls [.int v]) := by
  cases h
  exact W.zret (hlocks := X.lk) X.x X.b X.rt hn (fun t ht _ => ⟨⟨v, (), rfl, rfl, by show va_P _ _ _ t.heap; rw [ht]; exact M.1⟩, M.2.F ht⟩) M.2.2.2 hdg
theorem r_vret {r : Int32} {σ' : St} (X : Cx p s m args meth c cc own nL none Γ) (M : Mv Γ σ s H locs) (h : (some (0, σ) : Option (Int32 × St)) = some (r, σ')) (hdg : decode cc pc = .ok (.return_, 1)) : W p l e R s m args below meth c H locs cells slots (MQ below (Qv Γ σ' s.heap.size) args s cells slots (Rg Γ s.heap.size)) (F0 m pc ls []) := by
  cases h
  exact W.vret (hlocks := X.lk) X.x X.b X.rt (fun t ht _ => ⟨⟨(), rfl, trivial, by show va_P _ _ _ t.heap; rw [ht]; exact M.1⟩, M.2.F ht⟩) M.2.2.2 hdg
end FR
/-! the functions' own little words -/
abbrev Rs : Type := Option (Int32 × St)
def ob {α : Type} (x : Option (Int32 × St)) (k : Int32 → St → Option α) : Option α := match x with
  | some (r, σ) => k r σ
  | none => none
theorem ob_e {α : Type} {x : Option (Int32 × St)} {k : Int32 → St → Option α} {z : α} (h : ob x k = some z) : ∃ (r : Int32) (σ : St), x = some (r, σ) ∧ k r σ = some z := by
  cases x with
  | none => cases h
  | some q => exact ⟨q.1, q.2, rfl, h⟩
def ol {α β : Type} (a : α) (k : α → β) : β := k a
theorem ol_e {α β : Type} {a : α} {k : α → Option β} {z : β} (h : ol a k = some z) : ∃ b : α, b = a ∧ k b = some z := ⟨a, rfl, h⟩
theorem it_t {α : Type} {c : Prop} [Decidable c] {a b z : α} (hc : c) (h : (if c then a else b) = z) : a = z := by rwa [if_pos hc] at h
theorem it_f {α : Type} {c : Prop} [Decidable c] {a b z : α} (hc : ¬ c) (h : (if c then a else b) = z) : b = z := by rwa [if_neg hc] at h
theorem it_n {α : Type} {c : Prop} [Decidable c] {a : Option α} {z : α} (h : (if c then a else none) = some z) : c ∧ a = some z := by
  by_cases hc : c
  · rw [if_pos hc] at h; exact ⟨hc, h⟩
  · rw [if_neg hc] at h; cases h
theorem nar_b {x : Int32} (h : x = 0 ∨ x = 1) : narrow .boolean (.int x) = .int x := by rcases h with rfl | rfl <;> rfl
theorem nar_i {x : Int32} : narrow .int (.int x) = .int x := rfl
theorem in_lt {i : Int32} {n : Nat} (h : vp_in i n) : i.toNatClampNeg < n := Nat.not_le.mp fun q => h (Or.inr q)
def LF : Nat := 1000
def irm (x y : Int32) : Int32 := x - x / y * y
def imin (x y : Int32) : Int32 := if y < x then y else x
def imax (x y : Int32) : Int32 := if x < y then y else x
def iabs (x : Int32) : Int32 := if 0 ≤ x then x else 0 - x
def iushr (x y : Int32) : Int32 := (x.toUInt32 >>> (y.toUInt32 &&& Int32.toUInt32 31)).toInt32
def lushr (x : Int64) (y : Int32) : Int64 := (x.toUInt64 >>> (y.toInt64.toUInt64 &&& Int64.toUInt64 63)).toInt64
def lshl (x : Int64) (y : Int32) : Int64 := x <<< (y.toInt64 &&& 63)
def lshr (x : Int64) (y : Int32) : Int64 := x >>> (y.toInt64 &&& 63)
section FM
variable {p : Program} {l : Launch} {e : Env} {R : Room} {s : State} {m : MethodId} {args : Array Value} {below : List Frame} {meth : Method} {c : Code} {H : Heap} {locs : List Loc} {cells slots : Nat} {Q : State → Prop}
variable {cc : ByteArray} {pc nL : Nat} {ls : Array Slot} {rest : List Value} {Γ : Gm} {own : String} {ret : Option FieldType}
theorem r_irem (X : Cx p s m args meth c cc own nL ret Γ) {x y : Int32} (hdg : decode cc pc = .ok (.irem, 1)) (hne : ¬ y = 0)
    (k : W p l e R s m args below meth c H locs cells slots Q (F0 m (pc + 1) ls (.int (irm x y) :: rest))) : W p l e R s m args below meth c H locs cells slots Q (F0 m pc ls (.int y :: .int x :: rest)) := lv_irem X.x X.b hdg hne k
theorem r_mmin (X : Cx p s m args meth c cc own nL ret Γ) (hl : lv_has ls nL []) {idx : Nat} (hlink : Cond.methodLink own idx Lib.Math.min.name ∈ gT) (hstat : Cond.static Lib.Math.min.name ∈ gT) (hini : Cond.initialized "java/lang/Math" ∈ gT) (hcode : Cond.code Lib.Math.min.name Lib.Math.min.code 2 (some .int) ∈ gT) (hframes : 1 ≤ R.frames) (hlocals : (rest.map fun v => v.category).sum + 13 ≤ 40) (hloc : 40 ≤ R.locals) (hc : cells ≤ R.cells ∧ slots ≤ R.slots) {x y : Int32} (hdg : decode cc pc = .ok (.invokestatic idx, 3))
    (kk : W p l e R s m args below meth c H locs cells slots Q (F0 m (pc + 3) ls (.int (imin x y) :: rest))) : W p l e R s m args below meth c H locs cells slots Q (F0 m pc ls (.int y :: .int x :: rest)) :=
  va_mmin X.x X.b (by rw [X.ml]; exact hl.1.symm) X.ow (X.ts _ hlink) (X.ts _ hstat) (X.ts _ hini) (X.ts _ hcode) hframes (Nat.le_trans hlocals hloc) hc.1 hc.2 hdg kk
theorem r_mmax (X : Cx p s m args meth c cc own nL ret Γ) (hl : lv_has ls nL []) {idx : Nat} (hlink : Cond.methodLink own idx Lib.Math.max.name ∈ gT) (hstat : Cond.static Lib.Math.max.name ∈ gT) (hini : Cond.initialized "java/lang/Math" ∈ gT) (hcode : Cond.code Lib.Math.max.name Lib.Math.max.code 2 (some .int) ∈ gT) (hframes : 1 ≤ R.frames) (hlocals : (rest.map fun v => v.category).sum + 13 ≤ 40) (hloc : 40 ≤ R.locals) (hc : cells ≤ R.cells ∧ slots ≤ R.slots) {x y : Int32} (hdg : decode cc pc = .ok (.invokestatic idx, 3))
    (kk : W p l e R s m args below meth c H locs cells slots Q (F0 m (pc + 3) ls (.int (imax x y) :: rest))) : W p l e R s m args below meth c H locs cells slots Q (F0 m pc ls (.int y :: .int x :: rest)) :=
  va_mmax X.x X.b (by rw [X.ml]; exact hl.1.symm) X.ow (X.ts _ hlink) (X.ts _ hstat) (X.ts _ hini) (X.ts _ hcode) hframes (Nat.le_trans hlocals hloc) hc.1 hc.2 hdg kk
theorem r_mabs (X : Cx p s m args meth c cc own nL ret Γ) (hl : lv_has ls nL []) {idx : Nat} (hlink : Cond.methodLink own idx Lib.Math.abs.name ∈ gT) (hstat : Cond.static Lib.Math.abs.name ∈ gT) (hini : Cond.initialized "java/lang/Math" ∈ gT) (hcode : Cond.code Lib.Math.abs.name Lib.Math.abs.code 1 (some .int) ∈ gT) (hframes : 1 ≤ R.frames) (hlocals : (rest.map fun v => v.category).sum + 13 ≤ 40) (hloc : 40 ≤ R.locals) (hc : cells ≤ R.cells ∧ slots ≤ R.slots) {x : Int32} (hdg : decode cc pc = .ok (.invokestatic idx, 3))
    (kk : W p l e R s m args below meth c H locs cells slots Q (F0 m (pc + 3) ls (.int (iabs x) :: rest))) : W p l e R s m args below meth c H locs cells slots Q (F0 m pc ls (.int x :: rest)) :=
  va_mabs X.x X.b (by rw [X.ml]; exact hl.1.symm) X.ow (X.ts _ hlink) (X.ts _ hstat) (X.ts _ hini) (X.ts _ hcode) hframes (Nat.le_trans hlocals hloc) hc.1 hc.2 hdg kk
end FM
