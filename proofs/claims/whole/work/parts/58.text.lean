/-! text: reading it, on both sides at once -/
theorem sdep_c {x y : Nat → Int32} : ∀ j : Nat, (∀ i, i < j → x i = y i) → sdep x j = sdep y j := by
  intro j
  induction j with
  | zero => intro _; rfl
  | succ j ih =>
    intro h
    unfold sdep
    rw [ih (fun i hi => h i (by omega)), h j (by omega)]
def okS (x : Nat → Int32) (j : Nat) (w : Int32) : Prop := (∃ v : Nat, v < 10003 ∧ w = nI v) ∨ (w = -33 ∧ 1 ≤ sdep x j) ∨ (isSg w ∧ 2 ≤ sdep x j)
/-- both stand at sign a, o opened, c steps written -/
def TR (u n : Nat) (f : Nat → Nat) (σb τb σ τ : St) (a o c : Nat) : Prop :=
  (∀ q, q ≠ 27 → q ≠ 28 → σ q = σb q) ∧ (∀ q, q ≠ 66 → q ≠ 70 → τ q = τb q) ∧ (∀ k, k ≠ 4 → k ≠ 5 → k ≠ 6 → τ 66 k = τb 66 k) ∧
  (σ 27 3 = nI n ∧ σ 27 4 = nI a ∧ σ 27 1 = nI c ∧ σ 27 5 = nI (3 * u)) ∧ (τ 66 4 = nI a ∧ τ 66 5 = nI o ∧ τ 66 6 = nI c) ∧
  (∀ j, j < c → τ 70 (2 * j) = mW (σ 28 j) ∧ τ 70 (2 * j + 1) = mA u (σ 28 j)) ∧ (∀ j, j < c → okS (σ 28) j (σ 28 j)) ∧ c ≤ a ∧ a ≤ n
/-- what both begin with -/
def HB (u n : Nat) (f : Nat → Nat) (σb τb : St) : Prop := n ≤ 60 ∧ u < 2 ∧ (∀ j, j < n → f j < 256 ∧ σb 29 j = nI (f j) ∧ τb 67 (298 + j) = nI (f j)) ∧ τb 67 3 = nI n ∧ τb 66 7 = nI u
def sgN (n : Nat) (f : Nat → Nat) (a : Nat) : Int32 := if a < n then nI (f a) else -1
/-- both read it, or both stop at the same sign -/
def CR (u n : Nat) (f : Nat → Nat) (σb τb : St) (o a0 d s : Nat) (X Y : Rs) : Prop :=
  (∃ (σ1 τ1 : St) (a1 o1 c1 : Nat), X = some (0, σ1) ∧ Y = some (0, τ1) ∧ TR u n f σb τb σ1 τ1 a1 o1 c1) ∨
  ∃ (σ1 τ1 : St) (a1 c1 : Nat), X = some (1, σ1) ∧ Y = some (1, τ1) ∧ TR u n f σb τb σ1 τ1 a1 o c1 ∧ a0 ≤ a1 ∧ c1 + d ≤ a1 ∧ sdep (σ1 28) c1 = s
def jnS (l : Nat) (s : Int32) : Prop := (l = 0 ∧ s = 124) ∨ (l = 1 ∧ s = 38) ∨ (l = 2 ∧ (s = 60 ∨ s = 61 ∨ s = 62)) ∨ (l = 3 ∧ (s = 43 ∨ s = 45)) ∨ (l = 4 ∧ (s = 42 ∨ s = 47 ∨ s = 37))
theorem c_jt {l : Nat} {s : Int32} {σ : St} (h : jnS l s) : f_X1_joins (nI l) s σ = some (1, σ) := by
  rcases h with ⟨rfl, h⟩ | ⟨rfl, h⟩ | ⟨rfl, h⟩ | ⟨rfl, h⟩ | ⟨rfl, h⟩
  · exact ite_p rfl (ite_p h rfl)
  · exact ite_n (by decide) (ite_p rfl (ite_p h rfl))
  · refine ite_n (by decide) (ite_n (by decide) (ite_p rfl ?_))
    rcases h with h | h | h <;> subst h
    · exact ite_p rfl rfl
    · exact ite_n (by decide) (ite_p rfl rfl)
    · exact ite_n (by decide) (ite_n (by decide) (ite_p rfl rfl))
  · refine ite_n (by decide) (ite_n (by decide) (ite_n (by decide) (ite_p rfl ?_)))
    rcases h with h | h <;> subst h
    · exact ite_p rfl rfl
    · exact ite_n (by decide) (ite_p rfl rfl)
  · refine ite_n (by decide) (ite_n (by decide) (ite_n (by decide) (ite_n (by decide) ?_)))
    rcases h with h | h | h <;> subst h
    · exact ite_p rfl rfl
    · exact ite_n (by decide) (ite_p rfl rfl)
    · exact ite_n (by decide) (ite_n (by decide) (ite_p rfl rfl))
theorem c_jf {l : Nat} {s : Int32} {σ : St} (hl : l < 5) (h : ¬ jnS l s) : f_X1_joins (nI l) s σ = some (0, σ) := by
  unfold jnS at h
  rcases (show l = 0 ∨ l = 1 ∨ l = 2 ∨ l = 3 ∨ l = 4 by omega) with e | e | e | e | e <;> subst e
  · exact ite_p rfl (ite_n (fun q => h (Or.inl ⟨rfl, q⟩)) rfl)
  · exact ite_n (by decide) (ite_p rfl (ite_n (fun q => h (Or.inr (Or.inl ⟨rfl, q⟩))) rfl))
  · exact ite_n (by decide) (ite_n (by decide) (ite_p rfl (ite_n (fun q => h (Or.inr (Or.inr (Or.inl ⟨rfl, Or.inl q⟩)))) (ite_n (fun q => h (Or.inr (Or.inr (Or.inl ⟨rfl, Or.inr (Or.inl q)⟩)))) (ite_n (fun q => h (Or.inr (Or.inr (Or.inl ⟨rfl, Or.inr (Or.inr q)⟩)))) rfl)))))
  · exact ite_n (by decide) (ite_n (by decide) (ite_n (by decide) (ite_p rfl (ite_n (fun q => h (Or.inr (Or.inr (Or.inr (Or.inl ⟨rfl, Or.inl q⟩))))) (ite_n (fun q => h (Or.inr (Or.inr (Or.inr (Or.inl ⟨rfl, Or.inr q⟩))))) rfl)))))
  · exact ite_n (by decide) (ite_n (by decide) (ite_n (by decide) (ite_n (by decide) (ite_n (fun q => h (Or.inr (Or.inr (Or.inr (Or.inr ⟨rfl, Or.inl q⟩))))) (ite_n (fun q => h (Or.inr (Or.inr (Or.inr (Or.inr ⟨rfl, Or.inr (Or.inl q)⟩))))) (ite_n (fun q => h (Or.inr (Or.inr (Or.inr (Or.inr ⟨rfl, Or.inr (Or.inr q)⟩))))) rfl))))))
theorem jn_sg {l : Nat} {s : Int32} (h : jnS l s) : isSg (-s) ∧ - -s = s ∧ s ≠ -1 := by
  rcases h with ⟨-, h⟩ | ⟨-, h⟩ | ⟨-, h⟩ | ⟨-, h⟩ | ⟨-, h⟩
  · subst h; exact ⟨by unfold isSg; decide, by decide, by decide⟩
  · subst h; exact ⟨by unfold isSg; decide, by decide, by decide⟩
  · rcases h with h | h | h <;> subst h <;> exact ⟨by unfold isSg; decide, by decide, by decide⟩
  · rcases h with h | h <;> subst h <;> exact ⟨by unfold isSg; decide, by decide, by decide⟩
  · rcases h with h | h | h <;> subst h <;> exact ⟨by unfold isSg; decide, by decide, by decide⟩
section TX
variable {u n : Nat} {f : Nat → Nat} {σb τb : St}
theorem sg_lt {a : Nat} (h : sgN n f a ≠ -1) : a < n := by
  by_cases q : a < n
  · exact q
  · exact absurd (if_neg q) h
theorem c_sign (hB : HB u n f σb τb) {σ τ : St} {a o c : Nat} (h : TR u n f σb τb σ τ a o c) : f_X1_sign σ = some (sgN n f a, σ) := by
  obtain ⟨b1, b2, b3, b4, b5⟩ := hB
  obtain ⟨h1, h2, h3, ⟨h4, h5, h6, h7⟩, h8, h9, h10, h11, h12⟩ := h
  unfold f_X1_sign sgN
  rw [h5, h4]
  refine ite_n (nI_nn (by omega)) ?_
  by_cases q : a < n
  · rw [if_pos q]
    refine ite_n (nI_ge q (by omega)) (ite_n (nI_ge (b := 60) (by omega) (by decide)) (ite_p (inb_i (by omega) (by decide)) ?_))
    rw [nI_clamp (by omega), h1 29 (by decide) (by decide), (b3 a q).2.1]
  · rw [if_neg q]
    exact ite_p (nI_le (by omega) (by omega)) rfl
theorem m_look (hB : HB u n f σb τb) {σ τ : St} {a o c : Nat} (h : TR u n f σb τb σ τ a o c) : f_X7_look τ = some (sgN n f a, τ) := by
  obtain ⟨b1, b2, b3, b4, b5⟩ := hB
  obtain ⟨h1, h2, h3, h4, ⟨h5, h6, h7⟩, h9, h10, h11, h12⟩ := h
  unfold f_X7_look sgN
  refine ite_p (inb_l (by decide) (by decide)) ?_
  rw [show τ 67 (Int32.toNatClampNeg 3) = nI n by rw [h2 67 (by decide) (by decide)]; exact b4, h5]
  by_cases q : a < n
  · rw [if_pos q, show (298 + nI a : Int32) = nI (298 + a) from nI_add 298 a]
    refine ite_n (nI_ge q (by omega)) (ite_p (inb_i (by omega) (by decide)) ?_)
    rw [nI_clamp (by omega), h2 67 (by decide) (by decide), (b3 a q).2.2]
  · rw [if_neg q]
    exact ite_p (nI_le (by omega) (by omega)) rfl
theorem tr_adv {σ τ : St} {a o c : Nat} (h : TR u n f σb τb σ τ a o c) (ha : a < n) : TR u n f σb τb (st σ 27 4 (σ 27 4 + 1)) (st τ 66 4 (τ 66 4 + 1)) (a + 1) o c := by
  obtain ⟨h1, h2, h3, ⟨h4, h5, h6, h7⟩, ⟨h8, h9, h10⟩, h11, h12, h13, h14⟩ := h
  rw [h5, h8, nI_1]
  refine ⟨fun q q1 q2 => by rw [st_c q1, h1 q q1 q2], fun q q1 q2 => by rw [st_c q1, h2 q q1 q2], fun k k1 k2 k3 => by rw [st_k k1, h3 k k1 k2 k3], ⟨?_, st_s, ?_, ?_⟩, ⟨st_s, ?_, ?_⟩, fun j hj => ?_, fun j hj => ?_, by omega, by omega⟩
  · rw [st_k (by decide), h4]
  · rw [st_k (by decide), h6]
  · rw [st_k (by decide), h7]
  · rw [st_k (by decide), h9]
  · rw [st_k (by decide), h10]
  · rw [st_c (by decide), st_c (by decide)]; exact h11 j hj
  · rw [st_c (by decide)]; exact h12 j hj
theorem tr_o {σ τ : St} {a o c o' : Nat} (h : TR u n f σb τb σ τ a o c) : TR u n f σb τb σ (st τ 66 5 (nI o')) a o' c := by
  obtain ⟨h1, h2, h3, h4, ⟨h8, h9, h10⟩, h11, h12, h13, h14⟩ := h
  refine ⟨h1, fun q q1 q2 => by rw [st_c q1, h2 q q1 q2], fun k k1 k2 k3 => by rw [st_k k2, h3 k k1 k2 k3], h4, ⟨?_, st_s, ?_⟩, fun j hj => ?_, h12, h13, h14⟩
  · rw [st_k (by decide), h8]
  · rw [st_k (by decide), h10]
  · rw [st_c (by decide)]; exact h11 j hj
theorem tr_wr (hB : HB u n f σb τb) {σ τ : St} {a o c : Nat} {w p q : Int32} (h : TR u n f σb τb σ τ a o c) (hc : c < a) (hw : okS (σ 28) c w) (hp : mW w = p) (hq : mA u w = q) : ∃ σ1 τ1, f_X1_write w σ = some (0, σ1) ∧ f_X7_step1 p q τ = some (0, τ1) ∧ TR u n f σb τb σ1 τ1 a o (c + 1) ∧ sdep (σ1 28) (c + 1) = if 0 ≤ w then sdep (σ 28) c + 1 else if w = -33 then sdep (σ 28) c else sdep (σ 28) c - 1 := by
  obtain ⟨b1, b2, b3, b4, b5⟩ := hB
  obtain ⟨h1, h2, h3, ⟨h4, h5, h6, h7⟩, ⟨h8, h9, h10⟩, h11, h12, h13, h14⟩ := h
  have e28 : ∀ j, (st (st σ 28 c w) 27 1 (nI (c + 1))) 28 j = if j = c then w else σ 28 j := by
    intro j
    rw [st_c (by decide)]
    by_cases e : j = c
    · rw [if_pos e, e, st_s]
    · rw [if_neg e, st_k e]
  have e70 : ∀ m, (st (st (st τ 70 (2 * c) p) 70 (2 * c + 1) q) 66 6 (nI (c + 1))) 70 m = if m = 2 * c + 1 then q else if m = 2 * c then p else τ 70 m := by
    intro m
    rw [st_c (by decide)]
    by_cases e : m = 2 * c + 1
    · rw [if_pos e, e, st_s]
    · rw [if_neg e, st_k e]
      by_cases e2 : m = 2 * c
      · rw [if_pos e2, e2, st_s]
      · rw [if_neg e2, st_k e2]
  have es : ∀ j, j ≤ c → sdep ((st (st σ 28 c w) 27 1 (nI (c + 1))) 28) j = sdep (σ 28) j := fun j hj => sdep_c j (fun i hi => by rw [e28, if_neg (by omega)])
  refine ⟨st (st σ 28 c w) 27 1 (nI (c + 1)), st (st (st τ 70 (2 * c) p) 70 (2 * c + 1) q) 66 6 (nI (c + 1)), ?_, ?_, ⟨fun r r1 r2 => by rw [st_c r1, st_c r2, h1 r r1 r2], fun r r1 r2 => by rw [st_c r1, st_c r2, st_c r2, h2 r r1 r2], fun k k1 k2 k3 => by rw [st_k k3, st_c (by decide), st_c (by decide), h3 k k1 k2 k3], ⟨?_, ?_, st_s, ?_⟩, ⟨?_, ?_, st_s⟩, fun j hj => ?_, fun j hj => ?_, by omega, h14⟩, ?_⟩
  · unfold f_X1_write
    rw [h6]
    refine ite_n (nI_nn (by omega)) (ite_n (nI_ge (b := 60) (by omega) (by decide)) (ite_p (inb_i (by omega) (by decide)) (ol_i ?_)))
    rw [nI_clamp (by omega), st_c (by decide), h6, nI_1]
    rfl
  · unfold f_X7_step1
    rw [h10, show (2 * nI c : Int32) = nI (2 * c) from pk_mul 2 c]
    refine ite_p (inb_i (by omega) (by decide)) (ol_i ?_)
    rw [nI_clamp (by omega), st_c (by decide), h10, show (2 * nI c : Int32) = nI (2 * c) from pk_mul 2 c, nI_1]
    refine ite_p (inb_i (by omega) (by decide)) (ol_i ?_)
    rw [nI_clamp (by omega), st_c (by decide), st_c (by decide), h10, nI_1]
    rfl
  · rw [st_k (by decide), st_c (by decide), h4]
  · rw [st_k (by decide), st_c (by decide), h5]
  · rw [st_k (by decide), st_c (by decide), h7]
  · rw [st_k (by decide), st_c (by decide), st_c (by decide), h8]
  · rw [st_k (by decide), st_c (by decide), st_c (by decide), h9]
  · rw [e28]
    by_cases e : j = c
    · rw [if_pos e, e, e70, e70, if_neg (by omega), if_pos rfl, if_pos rfl, hp, hq]
      exact ⟨rfl, rfl⟩
    · rw [if_neg e, e70, e70, if_neg (by omega), if_neg (by omega), if_neg (by omega), if_neg (by omega)]
      exact h11 j (by omega)
  · unfold okS
    rw [e28, es j (by omega)]
    by_cases e : j = c
    · rw [if_pos e, e]; exact hw
    · rw [if_neg e]; exact h12 j (by omega)
  · show (if 0 ≤ (st (st σ 28 c w) 27 1 (nI (c + 1))) 28 c then sdep ((st (st σ 28 c w) 27 1 (nI (c + 1))) 28) c + 1 else if (st (st σ 28 c w) 27 1 (nI (c + 1))) 28 c = -33 then sdep ((st (st σ 28 c w) 27 1 (nI (c + 1))) 28) c else sdep ((st (st σ 28 c w) 27 1 (nI (c + 1))) 28) c - 1) = _
    rw [e28, if_pos rfl, es c (Nat.le_refl _)]
theorem CR.mono {o a0 a0' d d' s : Nat} {X Y : Rs} (h : CR u n f σb τb o a0' d' s X Y) (ha : a0 ≤ a0') (hd : d ≤ d') : CR u n f σb τb o a0 d s X Y := by
  rcases h with h | ⟨σ1, τ1, a1, c1, h1, h2, h3, h4, h5, h6⟩
  · exact Or.inl h
  · exact Or.inr ⟨σ1, τ1, a1, c1, h1, h2, h3, by omega, by omega, h6⟩
/-- one more sign and what is behind it -/
theorem tr_iter (hB : HB u n f σb τb) {l o most i a c : Nat} (hl : l < 5) {σ τ : St} {rec : Nat → Int32 → Int32 → St → Rs} {mrec KM : St → Rs} {k39 : Int32 → Int32 → Int32 → Int32 → St → Rs} {Y : Rs} (h : TR u n f σb τb σ τ a o c) (hs : 1 ≤ sdep (σ 28) c) (hi : i < most) (hm : most ≤ 60)
    (hsub : ∀ (σ τ : St) (a c : Nat), TR u n f σb τb σ τ a o c → CR u n f σb τb o (a + 1) (a - c) (sdep (σ 28) c + 1) (rec 0 (nI (l + 1)) (nI o) σ) (mrec τ))
    (hY1 : jnS l (sgN n f a) → Y = ob (mrec (st τ 66 4 (τ 66 4 + 1))) fun r3 σ3 => if r3 = 0 then some (0, σ3) else ob (f_X7_step1 3 (sgN n f a) σ3) fun _ σ4 => KM σ4)
    (hY0 : ¬ jnS l (sgN n f a) → Y = some (1, τ))
    (hk : ∀ (σ' τ' : St) (a' c' : Nat), TR u n f σb τb σ' τ' a' o c' → a + 2 ≤ a' → c' + (a - c) ≤ a' → sdep (σ' 28) c' = sdep (σ 28) c → CR u n f σb τb o a (a - c) (sdep (σ 28) c) (k39 (nI l) (nI o) (nI most) (nI (i + 1)) σ') (KM τ')) :
    CR u n f σb τb o a (a - c) (sdep (σ 28) c) (f_X1_reads_b39 rec k39 (nI l) (nI o) (nI most) (nI i) σ) Y := by
  have hca : c ≤ a := h.2.2.2.2.2.2.2.1
  have hsg := c_sign hB h
  have base : ∀ {y : Rs}, (ob (f_X1_joins (nI l) (sgN n f a) σ) fun r2 σ2 => if r2 = 0 then some (1, σ2) else (ob (f_X1_sign σ2) fun r3 σ3 => ol (st σ3 27 4 ((σ3 27 4) + 1)) fun σ4 => ob (rec 0 ((nI l) + 1) (nI o) σ4) fun r5 σ5 => if r5 = 0 then some (0, σ5) else ob (f_X1_write (-r3) σ5) fun _ σ6 => k39 (nI l) (nI o) (nI most) ((nI i) + 1) σ6)) = y → f_X1_reads_b39 rec k39 (nI l) (nI o) (nI most) (nI i) σ = y := fun hy => ite_n (nI_ge hi (by omega)) (ob_i hsg hy)
  by_cases hj : jnS l (sgN n f a)
  · obtain ⟨j1, j2, j3⟩ := jn_sg hj
    have ha := sg_lt j3
    rw [hY1 hj]
    have h2 := tr_adv h ha
    have cst : (st σ 27 4 (σ 27 4 + 1)) 28 = σ 28 := st_c (by decide)
    have hs2 := hsub _ _ _ _ h2
    rw [cst] at hs2
    rcases hs2 with ⟨σ1, τ1, a1, o1, c1, g1, g2, g3⟩ | ⟨σ1, τ1, a1, c1, g1, g2, g3, g4, g5, g6⟩
    · refine Or.inl ⟨σ1, τ1, a1, o1, c1, base (ob_i (c_jt hj) (ite_n (by decide) (ob_i hsg (ol_i ?_)))), ob_i g2 (ite_p rfl rfl), g3⟩
      rw [nI_1]
      exact ob_i g1 (ite_p rfl rfl)
    · have w0 : ¬ 0 ≤ -(sgN n f a) := (sg_neg j1).1
      have w33 : ¬ -(sgN n f a) = -33 := (sg_neg j1).2.2.1
      have w10 : ¬ 10000 ≤ -(sgN n f a) := (sg_neg j1).2.2.2.1
      have ep : mW (-(sgN n f a)) = 3 := by unfold mW; rw [if_neg w10, if_neg w0, if_neg w33]
      have eq' : mA u (-(sgN n f a)) = sgN n f a := by unfold mA; rw [if_neg w10, if_neg w0, if_neg w33, j2]
      obtain ⟨σ2, τ2, k1, k2, k3, k4⟩ := tr_wr hB g3 (by omega) (Or.inr (Or.inr ⟨j1, by omega⟩)) ep eq'
      rw [if_neg w0, if_neg w33, g6] at k4
      have := hk σ2 τ2 a1 (c1 + 1) k3 (by omega) (by omega) (by omega)
      rw [show (f_X1_reads_b39 rec k39 (nI l) (nI o) (nI most) (nI i) σ) = k39 (nI l) (nI o) (nI most) (nI (i + 1)) σ2 from base (ob_i (c_jt hj) (ite_n (by decide) (ob_i hsg (ol_i (by
        rw [nI_1, nI_1]
        exact ob_i g1 (ite_n (by decide) (ob_i k1 rfl))))))), show (ob (mrec (st τ 66 4 (τ 66 4 + 1))) fun r3 σ3 => if r3 = 0 then some (0, σ3) else ob (f_X7_step1 3 (sgN n f a) σ3) fun _ σ4 => KM σ4) = KM τ2 from ob_i g2 (ite_n (by decide) (ob_i k2 rfl))]
      exact this
  · rw [hY0 hj]
    exact Or.inr ⟨σ, τ, a, c, base (ob_i (c_jf hl hj) (ite_p rfl rfl)), rfl, h, Nat.le_refl _, by omega, rfl⟩
theorem tr_loop (hB : HB u n f σb τb) {l o : Nat} (hl : l < 5) {rec : Nat → Int32 → Int32 → St → Rs} {mrec : St → Rs} {ML : Nat → St → Rs}
    (hsub : ∀ (σ τ : St) (a c : Nat), TR u n f σb τb σ τ a o c → CR u n f σb τb o (a + 1) (a - c) (sdep (σ 28) c + 1) (rec 0 (nI (l + 1)) (nI o) σ) (mrec τ))
    (hML1 : ∀ (G : Nat) (τ : St) (s : Int32), f_X7_look τ = some (s, τ) → jnS l s → ML (G + 1) τ = ob (mrec (st τ 66 4 (τ 66 4 + 1))) fun r3 σ3 => if r3 = 0 then some (0, σ3) else ob (f_X7_step1 3 s σ3) fun _ σ4 => ML G σ4)
    (hML0 : ∀ (G : Nat) (τ : St) (s : Int32), f_X7_look τ = some (s, τ) → ¬ jnS l s → ML (G + 1) τ = some (1, τ)) :
    ∀ (k F G i : Nat) (σ τ : St) (a c : Nat), TR u n f σb τb σ τ a o c → 1 ≤ sdep (σ 28) c → n - a < k → k ≤ F → k ≤ G → i ≤ a → CR u n f σb τb o a (a - c) (sdep (σ 28) c) (f_X1_reads_L39 rec F (nI l) (nI o) 60 (nI i) σ) (ML G τ) := by
  intro k
  induction k with
  | zero => intro F G i σ τ a c h1 h2 h3; omega
  | succ k ih =>
    intro F G i σ τ a c h1 h2 h3 h4 h5 h6
    obtain ⟨F, rfl⟩ : ∃ F', F = F' + 1 := ⟨F - 1, by omega⟩
    obtain ⟨G, rfl⟩ : ∃ G', G = G' + 1 := ⟨G - 1, by omega⟩
    have hca : c ≤ a := h1.2.2.2.2.2.2.2.1
    have han : a ≤ n := h1.2.2.2.2.2.2.2.2
    have h60 := hB.1
    by_cases hi : i < 60
    · refine tr_iter (k39 := f_X1_reads_L39 rec F) (KM := ML G) hB hl h1 h2 hi (Nat.le_refl _) hsub (hML1 G τ _ (m_look hB h1)) (hML0 G τ _ (m_look hB h1)) (fun σ' τ' a' c' g1 g2 g3 g4 => ?_)
      have han' : a' ≤ n := g1.2.2.2.2.2.2.2.2
      have := ih F G (i + 1) σ' τ' a' c' g1 (by omega) (by omega) (by omega) (by omega) (by omega)
      rw [g4] at this
      exact this.mono (by omega) (by omega)
    · have e : sgN n f a = -1 := if_neg (by omega)
      refine Or.inr ⟨σ, τ, a, c, ite_p (nI_le (a := 60) (by omega) (by omega)) rfl, hML0 G τ _ (m_look hB h1) (fun q => (jn_sg q).2.2 e), h1, Nat.le_refl _, by omega, rfl⟩
/-- a level: what it begins with, then the loop -/
theorem tr_lev {o a0 d s : Nat} {X1 Y1 : Rs} {XL YL : St → Rs} (h : CR u n f σb τb o a0 d s X1 Y1) (hL : ∀ (σ1 τ1 : St) (a1 c1 : Nat), TR u n f σb τb σ1 τ1 a1 o c1 → sdep (σ1 28) c1 = s → CR u n f σb τb o a1 (a1 - c1) s (XL σ1) (YL τ1)) : CR u n f σb τb o a0 d s (ob X1 fun r σ1 => if r = 0 then some (0, σ1) else XL σ1) (ob Y1 fun r σ1 => if r = 0 then some (0, σ1) else YL σ1) := by
  rcases h with ⟨σ1, τ1, a1, o1, c1, g1, g2, g3⟩ | ⟨σ1, τ1, a1, c1, g1, g2, g3, g4, g5, g6⟩
  · exact Or.inl ⟨σ1, τ1, a1, o1, c1, ob_i g1 (ite_p rfl rfl), ob_i g2 (ite_p rfl rfl), g3⟩
  · have := (hL σ1 τ1 a1 c1 g3 g6).mono (a0 := a0) (d := d) g4 (by omega)
    rw [show (ob X1 fun r σ1 => if r = 0 then some (0, σ1) else XL σ1) = XL σ1 from ob_i g1 (ite_n (by decide) rfl), show (ob Y1 fun r σ1 => if r = 0 then some (0, σ1) else YL σ1) = YL τ1 from ob_i g2 (ite_n (by decide) rfl)]
    exact this
/-- which of the reference's methods a level is -/
def mtN (l : Nat) : Nat := if l = 0 then 5 else if l = 1 then 0 else if l = 2 then 1 else if l = 3 then 4 else if l = 4 then 3 else 2
theorem tr_level (hB : HB u n f σb τb) {l o F G : Nat} (hl : l < 5)
    (hsub : ∀ (σ τ : St) (a c : Nat), TR u n f σb τb σ τ a o c → CR u n f σb τb o (a + 1) (a - c) (sdep (σ 28) c + 1) (g_X1_reads F 0 (nI (l + 1)) (nI o) σ) (g_X7_both G (mtN (l + 1)) τ)) :
    ∀ (σ τ : St) (a c : Nat), TR u n f σb τb σ τ a o c → CR u n f σb τb o (a + 1) (a - c) (sdep (σ 28) c + 1) (g_X1_reads (F + 1) 0 (nI l) (nI o) σ) (g_X7_both (G + 1) (mtN l) τ) := by
  intro σ τ a c h
  have h60 := hB.1
  have hc : ∀ {XL : St → Rs}, (∀ s, (if nI l = 2 then f_X1_reads_L39 (g_X1_reads F) LF (nI l) (nI o) 1 0 s else f_X1_reads_L39 (g_X1_reads F) LF (nI l) (nI o) 60 0 s) = XL s) → g_X1_reads (F + 1) 0 (nI l) (nI o) σ = ob (g_X1_reads F 0 (nI (l + 1)) (nI o) σ) fun r σ1 => if r = 0 then some (0, σ1) else XL σ1 := by
    intro XL hX
    show f_X1_reads (g_X1_reads F) (nI l) (nI o) σ = _
    refine ite_p (nI_lt (b := 5) hl (by decide)) ?_
    rw [nI_1]
    refine congrArg _ (funext fun r => funext fun s => ?_)
    rw [hX s]
  have lp : ∀ {ML : Nat → St → Rs}, (∀ (G' : Nat) (τ : St) (s : Int32), f_X7_look τ = some (s, τ) → jnS l s → ML (G' + 1) τ = ob (g_X7_both G (mtN (l + 1)) (st τ 66 4 (τ 66 4 + 1))) fun r3 σ3 => if r3 = 0 then some (0, σ3) else ob (f_X7_step1 3 s σ3) fun _ σ4 => ML G' σ4) → (∀ (G' : Nat) (τ : St) (s : Int32), f_X7_look τ = some (s, τ) → ¬ jnS l s → ML (G' + 1) τ = some (1, τ)) → ∀ (σ1 τ1 : St) (a1 c1 : Nat), TR u n f σb τb σ1 τ1 a1 o c1 → sdep (σ1 28) c1 = sdep (σ 28) c + 1 → CR u n f σb τb o a1 (a1 - c1) (sdep (σ 28) c + 1) (f_X1_reads_L39 (g_X1_reads F) LF (nI l) (nI o) 60 0 σ1) (ML LF τ1) := by
    intro ML m1 m0 σ1 τ1 a1 c1 k1 k2
    have := tr_loop hB hl hsub m1 m0 61 LF LF 0 σ1 τ1 a1 c1 k1 (by omega) (by omega) (by unfold LF; omega) (by unfold LF; omega) (Nat.zero_le _)
    rw [k2] at this
    exact this
  rcases (show l = 0 ∨ l = 1 ∨ l = 2 ∨ l = 3 ∨ l = 4 by omega) with e | e | e | e | e <;> subst e
  · rw [hc (XL := fun s => f_X1_reads_L39 (g_X1_reads F) LF (nI 0) (nI o) 60 0 s) (fun s => if_neg (by decide))]
    refine tr_lev (XL := fun s => f_X1_reads_L39 (g_X1_reads F) LF (nI 0) (nI o) 60 0 s) (YL := f_X7_whole_L9 (g_X7_both G) LF) (hsub σ τ a c h) (lp (ML := f_X7_whole_L9 (g_X7_both G)) (fun G' τ s k1 k2 => ?_) (fun G' τ s k1 k2 => ?_))
    · rcases k2 with ⟨-, q⟩ | ⟨q, -⟩ | ⟨q, -⟩ | ⟨q, -⟩ | ⟨q, -⟩
      · subst q
        exact ob_i k1 (ite_p rfl rfl)
      all_goals exact absurd q (by decide)
    · exact ob_i k1 (ite_n (fun q => k2 (Or.inl ⟨rfl, q⟩)) rfl)
  · rw [hc (XL := fun s => f_X1_reads_L39 (g_X1_reads F) LF (nI 1) (nI o) 60 0 s) (fun s => if_neg (by decide))]
    refine tr_lev (XL := fun s => f_X1_reads_L39 (g_X1_reads F) LF (nI 1) (nI o) 60 0 s) (YL := f_X7_both_L9 (g_X7_both G) LF) (hsub σ τ a c h) (lp (ML := f_X7_both_L9 (g_X7_both G)) (fun G' τ s k1 k2 => ?_) (fun G' τ s k1 k2 => ?_))
    · rcases k2 with ⟨q, -⟩ | ⟨-, q⟩ | ⟨q, -⟩ | ⟨q, -⟩ | ⟨q, -⟩
      · exact absurd q (by decide)
      · subst q
        exact ob_i k1 (ite_p rfl rfl)
      all_goals exact absurd q (by decide)
    · exact ob_i k1 (ite_n (fun q => k2 (Or.inr (Or.inl ⟨rfl, q⟩))) rfl)
  · rw [hc (XL := fun s => f_X1_reads_L39 (g_X1_reads F) LF (nI 2) (nI o) (nI 1) (nI 0) s) (fun s => if_pos rfl)]
    refine tr_lev (XL := fun s => f_X1_reads_L39 (g_X1_reads F) LF (nI 2) (nI o) (nI 1) (nI 0) s) (YL := fun s => ob (f_X7_look s) fun r2 σ2 => if r2 = 60 then f_X7_compared_b34 (g_X7_both G) r2 σ2 else if r2 = 61 then f_X7_compared_b34 (g_X7_both G) r2 σ2 else if r2 = 62 then f_X7_compared_b34 (g_X7_both G) r2 σ2 else some (1, σ2)) (hsub σ τ a c h) (fun σ1 τ1 a1 c1 k1 k2 => ?_)
    have lk := m_look hB k1
    have := tr_iter (Y := ob (f_X7_look τ1) fun r2 σ2 => if r2 = 60 then f_X7_compared_b34 (g_X7_both G) r2 σ2 else if r2 = 61 then f_X7_compared_b34 (g_X7_both G) r2 σ2 else if r2 = 62 then f_X7_compared_b34 (g_X7_both G) r2 σ2 else some (1, σ2)) (k39 := f_X1_reads_L39 (g_X1_reads F) (LF - 1)) (KM := fun s => some (1, s)) (i := 0) (most := 1) hB hl k1 (by omega) (by decide) (by decide) hsub (fun q => by
      refine ob_i lk ?_
      rcases q with ⟨q, -⟩ | ⟨q, -⟩ | ⟨-, q⟩ | ⟨q, -⟩ | ⟨q, -⟩
      · exact absurd q (by decide)
      · exact absurd q (by decide)
      · rcases q with q | q | q
        · exact ite_p q rfl
        · exact ite_n (by rw [q]; decide) (ite_p q rfl)
        · exact ite_n (by rw [q]; decide) (ite_n (by rw [q]; decide) (ite_p q rfl))
      · exact absurd q (by decide)
      · exact absurd q (by decide)) (fun q => ob_i lk (ite_n (fun q2 => q (Or.inr (Or.inr (Or.inl ⟨rfl, Or.inl q2⟩)))) (ite_n (fun q2 => q (Or.inr (Or.inr (Or.inl ⟨rfl, Or.inr (Or.inl q2)⟩)))) (ite_n (fun q2 => q (Or.inr (Or.inr (Or.inl ⟨rfl, Or.inr (Or.inr q2)⟩)))) rfl)))) (fun σ' τ' a' c' g1 g2 g3 g4 => Or.inr ⟨σ', τ', a', c', (show f_X1_reads_b39 (g_X1_reads F) (f_X1_reads_L39 (g_X1_reads F) (LF - 2)) (nI 2) (nI o) (nI 1) (nI 1) σ' = _ from ite_p (show nI 1 ≤ nI 1 by decide) rfl), rfl, g1, by omega, g3, g4⟩)
    rw [k2] at this
    exact this
  · rw [hc (XL := fun s => f_X1_reads_L39 (g_X1_reads F) LF (nI 3) (nI o) 60 0 s) (fun s => if_neg (by decide))]
    refine tr_lev (XL := fun s => f_X1_reads_L39 (g_X1_reads F) LF (nI 3) (nI o) 60 0 s) (YL := f_X7_sum_L9 (g_X7_both G) LF) (hsub σ τ a c h) (lp (ML := f_X7_sum_L9 (g_X7_both G)) (fun G' τ s k1 k2 => ?_) (fun G' τ s k1 k2 => ?_))
    · rcases k2 with ⟨q, -⟩ | ⟨q, -⟩ | ⟨q, -⟩ | ⟨-, q⟩ | ⟨q, -⟩
      · exact absurd q (by decide)
      · exact absurd q (by decide)
      · exact absurd q (by decide)
      · rcases q with q | q
        · exact ob_i k1 (ite_p q (ob_i k1 rfl))
        · exact ob_i k1 (ite_n (by rw [q]; decide) (ob_i k1 (ite_p q (ob_i k1 rfl))))
      · exact absurd q (by decide)
    · exact ob_i k1 (ite_n (fun q => k2 (Or.inr (Or.inr (Or.inr (Or.inl ⟨rfl, Or.inl q⟩))))) (ob_i k1 (ite_n (fun q => k2 (Or.inr (Or.inr (Or.inr (Or.inl ⟨rfl, Or.inr q⟩))))) rfl)))
  · rw [hc (XL := fun s => f_X1_reads_L39 (g_X1_reads F) LF (nI 4) (nI o) 60 0 s) (fun s => if_neg (by decide))]
    refine tr_lev (XL := fun s => f_X1_reads_L39 (g_X1_reads F) LF (nI 4) (nI o) 60 0 s) (YL := f_X7_product_L9 (g_X7_both G) LF) (hsub σ τ a c h) (lp (ML := f_X7_product_L9 (g_X7_both G)) (fun G' τ s k1 k2 => ?_) (fun G' τ s k1 k2 => ?_))
    · rcases k2 with ⟨q, -⟩ | ⟨q, -⟩ | ⟨q, -⟩ | ⟨q, -⟩ | ⟨-, q⟩
      · exact absurd q (by decide)
      · exact absurd q (by decide)
      · exact absurd q (by decide)
      · exact absurd q (by decide)
      · rcases q with q | q | q
        · exact ob_i k1 (ite_p q (ob_i k1 rfl))
        · exact ob_i k1 (ite_n (by rw [q]; decide) (ob_i k1 (ite_p q (ob_i k1 rfl))))
        · exact ob_i k1 (ite_n (by rw [q]; decide) (ob_i k1 (ite_n (by rw [q]; decide) (ob_i k1 (ite_p q (ob_i k1 rfl))))))
    · exact ob_i k1 (ite_n (fun q => k2 (Or.inr (Or.inr (Or.inr (Or.inr ⟨rfl, Or.inl q⟩))))) (ob_i k1 (ite_n (fun q => k2 (Or.inr (Or.inr (Or.inr (Or.inr ⟨rfl, Or.inr (Or.inl q)⟩))))) (ob_i k1 (ite_n (fun q => k2 (Or.inr (Or.inr (Or.inr (Or.inr ⟨rfl, Or.inr (Or.inr q)⟩))))) rfl)))))
end TX
