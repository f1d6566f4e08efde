/-! text: numbers, names, what is opened; and the whole -/
section TY
variable {u n : Nat} {f : Nat → Nat} {σb τb : St}
theorem dig_t {x : Int32} {σ : St} (h : isR 48 58 x) : f_X1_isDigit x σ = some (1, σ) := by
  obtain ⟨j, h1, h2, rfl⟩ := h
  exact ite_n (nI_nlt (b := 48) h1 (by omega)) (ite_n (nI_nlt (a := 57) (by omega) (by decide)) rfl)
theorem dig_f {x : Int32} {σ : St} (h : ¬ isR 48 58 x) : f_X1_isDigit x σ = some (0, σ) := by
  rw [isR_iff (by decide)] at h
  by_cases q : x < 48
  · exact ite_p q rfl
  · refine ite_n q (ite_p ?_ rfl)
    rw [f_lt, show (48 : Int32).toInt = 48 from rfl] at q
    rw [f_lt, show (57 : Int32).toInt = 57 from rfl]
    omega
/-- a number's digits: i are read, x is their value -/
theorem tr_dig (hB : HB u n f σb τb) {rec : Nat → St → Rs} {o A0 d s : Nat} : ∀ (k i x F G : Nat) (σ τ : St) (a c : Nat), i + k = 4 → TR u n f σb τb σ τ a o c → sdep (σ 28) c = s → ((c + d + 1 ≤ a ∧ A0 ≤ a) ∨ (isR 48 58 (sgN n f a) ∧ i < 4 ∧ c + d ≤ a ∧ A0 ≤ a + 1)) → x < 10 ^ i → k < F → k < G → CR u n f σb τb o A0 d (s + 1) (ob (f_X1_readNumber_L4 F (nI x) (nI i) σ) fun _ σ7 => some (1, σ7)) (f_X7_one_L46 rec G (nI x) (nI i) τ) := by
  -- the end
  have fin : ∀ (i x F G : Nat) (σ τ : St) (a c : Nat), TR u n f σb τb σ τ a o c → sdep (σ 28) c = s → (c + d + 1 ≤ a ∧ A0 ≤ a) → x < 10000 → (∀ {y : Rs}, (ob (f_X1_write (nI x) σ) fun _ σ1 => some ((0 : Int32), σ1)) = y → f_X1_readNumber_L4 (F + 1) (nI x) (nI i) σ = y) → (∀ {y : Rs}, (ob (f_X7_step1 0 (nI x) τ) fun _ σ1 => some ((1 : Int32), σ1)) = y → f_X7_one_L46 rec (G + 1) (nI x) (nI i) τ = y) → CR u n f σb τb o A0 d (s + 1) (ob (f_X1_readNumber_L4 (F + 1) (nI x) (nI i) σ) fun _ σ7 => some (1, σ7)) (f_X7_one_L46 rec (G + 1) (nI x) (nI i) τ) := by
    intro i x F G σ τ a c h1 h2 h3 h4 h5 h6
    have n10 : ¬ (10000 : Int32) ≤ nI x := nI_ge (b := 10000) h4 (by decide)
    have p0 : (0 : Int32) ≤ nI x := nI_pos' (by omega)
    obtain ⟨σ2, τ2, k1, k2, k3, k4⟩ := tr_wr (p := 0) (q := nI x) hB h1 (by omega) (Or.inl ⟨x, by omega, rfl⟩) (by unfold mW; rw [if_neg n10, if_pos p0]) (by unfold mA; rw [if_neg n10, if_pos p0])
    rw [if_pos p0, h2] at k4
    exact Or.inr ⟨σ2, τ2, a, c + 1, ob_i (h5 (ob_i k1 rfl)) rfl, h6 (ob_i k2 rfl), k3, h3.2, by omega, k4⟩
  intro k
  induction k with
  | zero =>
    intro i x F G σ τ a c h1 h2 h3 h4 h5 h6 h7
    obtain ⟨F, rfl⟩ : ∃ F', F = F' + 1 := ⟨F - 1, by omega⟩
    obtain ⟨G, rfl⟩ : ∃ G', G = G' + 1 := ⟨G - 1, by omega⟩
    obtain rfl : i = 4 := by omega
    exact fin 4 x F G σ τ a c h2 h3 (by rcases h4 with h4 | h4; exact h4; omega) h5 (fun hy => by
      show f_X1_readNumber_b4 (f_X1_readNumber_L4 F) (nI x) (nI 4) σ = _
      exact ite_p (show (4 : Int32) ≤ nI 4 by decide) hy) (fun hy => by
      show f_X7_one_b46 rec (f_X7_one_L46 rec G) (nI x) (nI 4) τ = _
      exact ite_p (show (4 : Int32) ≤ nI 4 by decide) hy)
  | succ k ih =>
    intro i x F G σ τ a c h1 h2 h3 h4 h5 h6 h7
    obtain ⟨F, rfl⟩ : ∃ F', F = F' + 1 := ⟨F - 1, by omega⟩
    obtain ⟨G, rfl⟩ : ∃ G', G = G' + 1 := ⟨G - 1, by omega⟩
    have hx : x < 10000 := Nat.lt_of_lt_of_le h5 (Nat.pow_le_pow_right (by decide) (show i ≤ 4 by omega))
    have hi : ¬ (4 : Int32) ≤ nI i := nI_ge (b := 4) (by omega) (by decide)
    have cs := c_sign hB h2
    have ml := m_look hB h2
    by_cases hd : isR 48 58 (sgN n f a)
    · obtain ⟨v, v1, v2, ev⟩ := id hd
      have ha : a < n := sg_lt (by rw [ev]; exact fun q => neg1_ne (n := v) (by omega) q.symm)
      have h8 := tr_adv h2 ha
      have e28 : (st σ 27 4 (σ 27 4 + 1)) 28 = σ 28 := st_c (by decide)
      have := ih (i + 1) (10 * x + (v - 48)) F G _ _ (a + 1) c (by omega) h8 (by rw [e28]; exact h3) (Or.inl (by rcases h4 with h4 | h4 <;> omega)) (by rw [Nat.pow_succ]; omega) (by omega) (by omega)
      have e1 : (nI x * 10 + (nI v - 48) : Int32) = nI (10 * x + (v - 48)) := by
        rw [show (nI x * 10 : Int32) = nI (x * 10) from pk_mul x 10, show (nI v - 48 : Int32) = nI (v - 48) from pk_sub (b := 48) v1, nI_add, Nat.mul_comm]
      have e2 : (10 * nI x + nI v - 48 : Int32) = nI (10 * x + (v - 48)) := by
        rw [show (10 * nI x : Int32) = nI (10 * x) from pk_mul 10 x, nI_add, show (nI (10 * x + v) - 48 : Int32) = nI (10 * x + v - 48) from pk_sub (b := 48) (by omega), show 10 * x + v - 48 = 10 * x + (v - 48) by omega]
      have ca : f_X1_readNumber_L4 (F + 1) (nI x) (nI i) σ = f_X1_readNumber_L4 F (nI (10 * x + (v - 48))) (nI (i + 1)) (st σ 27 4 (σ 27 4 + 1)) := by
        show f_X1_readNumber_b4 (f_X1_readNumber_L4 F) _ _ σ = _
        refine ite_n hi (ob_i cs (ob_i (dig_t hd) (ite_n (by decide) (ob_i cs (ol_i ?_)))))
        rw [ev, e1, nI_1]
      have ma : f_X7_one_L46 rec (G + 1) (nI x) (nI i) τ = f_X7_one_L46 rec G (nI (10 * x + (v - 48))) (nI (i + 1)) (st τ 66 4 (τ 66 4 + 1)) := by
        show f_X7_one_b46 rec (f_X7_one_L46 rec G) _ _ τ = _
        refine ite_n hi (ob_i ml (ob_i (in_t hd (by decide) rfl rfl) (ite_n (by decide) (ob_i ml (ol_i ?_)))))
        rw [ev, e2, nI_1]
      rw [ca, ma]
      exact this
    · have hl : c + d + 1 ≤ a ∧ A0 ≤ a := by
        rcases h4 with h4 | h4
        · exact h4
        · exact absurd h4.1 hd
      refine fin i x F G σ τ a c h2 h3 hl hx (fun hy => ?_) (fun hy => ?_)
      · show f_X1_readNumber_b4 (f_X1_readNumber_L4 F) _ _ σ = _
        exact ite_n hi (ob_i cs (ob_i (dig_f hd) (ite_p rfl hy)))
      · show f_X7_one_b46 rec (f_X7_one_L46 rec G) _ _ τ = _
        exact ite_n hi (ob_i ml (ob_i (in_f hd (by decide) rfl rfl) (ite_p rfl hy)))
/-! names -/
theorem m_nm_t {i : Nat} {τ : St} (hi : i < 3) (hu : u < 2) (h7 : τ 66 7 = nI u) : f_X7_isName (tNA (3 * u + i)) τ = some (1, τ) := by
  rcases (show (u = 0 ∨ u = 1) by omega) with e | e <;> subst e <;> rcases (show i = 0 ∨ i = 1 ∨ i = 2 by omega) with e | e | e <;> subst e
  · show f_X7_isName 104 τ = _
    refine ite_n (by decide) ?_
    rw [h7]
    exact ite_p rfl (ite_p rfl rfl)
  · exact ite_p rfl rfl
  · show f_X7_isName 111 τ = _
    refine ite_n (by decide) ?_
    rw [h7]
    exact ite_p rfl (ite_n (by decide) (ite_p rfl rfl))
  · exact ite_p rfl rfl
  · show f_X7_isName 98 τ = _
    refine ite_n (by decide) ?_
    rw [h7]
    exact ite_n (by decide) (ite_p rfl rfl)
  · show f_X7_isName 115 τ = _
    refine ite_n (by decide) ?_
    rw [h7]
    exact ite_n (by decide) (ite_n (by decide) (ite_p rfl rfl))
theorem m_nm_f {x : Int32} {τ : St} (hu : u < 2) (h7 : τ 66 7 = nI u) (h : ∀ i, i < 3 → x ≠ tNA (3 * u + i)) : f_X7_isName x τ = some (0, τ) := by
  have h0 := h 0 (by decide)
  have h1 := h 1 (by decide)
  have h2 := h 2 (by decide)
  rcases (show (u = 0 ∨ u = 1) by omega) with e | e <;> subst e
  · refine ite_n h1 ?_
    rw [h7]
    exact ite_p rfl (ite_n h0 (ite_n h2 rfl))
  · refine ite_n h0 ?_
    rw [h7]
    exact ite_n (by decide) (ite_n h1 (ite_n h2 rfl))
theorem c_nmS {F i : Nat} {x : Int32} {σ : St} (hi : i < 3) (hu : u < 2) (h5 : σ 27 5 = nI (3 * u)) : f_X1_readsName_L2 (F + 1) x (nI i) σ = if tNA (3 * u + i) = x then (ob (f_X1_write (10000 + nI i) (st σ 27 4 (σ 27 4 + 1))) fun _ σ3 => some (1, σ3)) else f_X1_readsName_L2 F x (nI (i + 1)) σ := by
  show f_X1_readsName_b2 (f_X1_readsName_L2 F) _ _ σ = _
  unfold f_X1_readsName_b2
  rw [h5, nI_add, nI_1]
  refine ite_n (nI_ge (b := 3) hi (by decide)) (ite_n (nI_nn (by omega)) (ite_n (nI_ge (b := 6) (by omega) (by decide)) (ite_p (inb_i (by omega) (by decide)) ?_)))
  rw [nI_clamp (by omega)]
  rfl
theorem c_nmE {F : Nat} {x : Int32} {σ : St} : f_X1_readsName_L2 (F + 1) x (nI 3) σ = some (0, σ) := by
  show f_X1_readsName_b2 (f_X1_readsName_L2 F) x (nI 3) σ = _
  exact ite_p (show (3 : Int32) ≤ nI 3 by decide) rfl
/-- a name, or none -/
theorem tr_nm (hB : HB u n f σb τb) {σ τ : St} {a o c s : Nat} {Y : Rs} (h : TR u n f σb τb σ τ a o c) (hs : sdep (σ 28) c = s)
    (hY1 : ∀ i, i < 3 → sgN n f a = tNA (3 * u + i) → (ob (f_X7_step1 1 (sgN n f a) (st τ 66 4 (τ 66 4 + 1))) fun _ σ22 => some (1, σ22)) = Y)
    (hY0 : (∀ i, i < 3 → sgN n f a ≠ tNA (3 * u + i)) → some (0, τ) = Y) :
    CR u n f σb τb o (a + 1) (a - c) (s + 1) (f_X1_readsName (sgN n f a) σ) Y := by
  have hu := hB.2.1
  have h5 : σ 27 5 = nI (3 * u) := h.2.2.2.1.2.2.2
  have hca : c ≤ a := h.2.2.2.2.2.2.2.1
  have hit : ∀ i, i < 3 → tNA (3 * u + i) = sgN n f a → ∀ {X : Rs}, (ob (f_X1_write (10000 + nI i) (st σ 27 4 (σ 27 4 + 1))) fun _ σ3 => some ((1 : Int32), σ3)) = X → CR u n f σb τb o (a + 1) (a - c) (s + 1) X Y := by
    intro i hi e X hX
    have ha : a < n := sg_lt (by
      rw [← e]
      rcases (show (u = 0 ∨ u = 1) by omega) with e | e <;> subst e <;> rcases (show i = 0 ∨ i = 1 ∨ i = 2 by omega) with e | e | e <;> subst e <;> decide)
    have h8 := tr_adv h ha
    have e28 : (st σ 27 4 (σ 27 4 + 1)) 28 = σ 28 := st_c (by decide)
    have ew : (10000 + nI i : Int32) = nI (10000 + i) := nI_add 10000 i
    have p10 : (10000 : Int32) ≤ nI (10000 + i) := nI_le (a := 10000) (by omega) (by omega)
    have p0 : (0 : Int32) ≤ nI (10000 + i) := nI_pos' (by omega)
    obtain ⟨σ2, τ2, k1, k2, k3, k4⟩ := tr_wr (w := nI (10000 + i)) (p := 1) (q := sgN n f a) hB h8 (by omega) (Or.inl ⟨10000 + i, by omega, rfl⟩) (by unfold mW; rw [if_pos p10]) (by
      unfold mA
      rw [if_pos p10, show (nI (10000 + i) - 10000 : Int32) = nI i from (pk_sub (b := 10000) (by omega)).trans (by rw [show 10000 + i - 10000 = i by omega]), nI_clamp (by omega), e])
    rw [if_pos p0, e28, hs] at k4
    refine Or.inr ⟨σ2, τ2, a + 1, c + 1, ?_, ?_, k3, Nat.le_refl _, by omega, k4⟩
    · rw [← hX, ew]
      exact ob_i k1 rfl
    · rw [← hY1 i hi e.symm]
      exact ob_i k2 rfl
  show CR u n f σb τb o (a + 1) (a - c) (s + 1) (f_X1_readsName_L2 ((LF - 4) + 4) (sgN n f a) (nI 0) σ) Y
  rw [c_nmS (by decide) hu h5]
  by_cases q0 : tNA (3 * u + 0) = sgN n f a
  · rw [if_pos q0]
    exact hit 0 (by decide) q0 rfl
  · rw [if_neg q0, c_nmS (by decide) hu h5]
    by_cases q1 : tNA (3 * u + (0 + 1)) = sgN n f a
    · rw [if_pos q1]
      exact hit 1 (by decide) q1 rfl
    · rw [if_neg q1, c_nmS (by decide) hu h5]
      by_cases q2 : tNA (3 * u + (0 + 1 + 1)) = sgN n f a
      · rw [if_pos q2]
        exact hit 2 (by decide) q2 rfl
      · rw [if_neg q2, show (0 + 1 + 1 + 1 : Nat) = 3 from rfl, c_nmE]
        refine Or.inl ⟨σ, τ, a, o, c, rfl, (hY0 (fun i hi => ?_)).symm, h⟩
        rcases (show i = 0 ∨ i = 1 ∨ i = 2 by omega) with e | e | e <;> subst e
        · exact fun q => q0 q.symm
        · exact fun q => q1 q.symm
        · exact fun q => q2 q.symm
theorem CR.b {o a0 d s : Nat} {X Y : Rs} (h : CR u n f σb τb o a0 d s X Y) : CR u n f σb τb o a0 d s (ob X fun r σ => if r = 0 ∨ r = 1 then some (r, σ) else none) Y := by
  rcases h with ⟨σ1, τ1, a1, o1, c1, h1, h2, h3⟩ | ⟨σ1, τ1, a1, c1, h1, h2, h3⟩
  · exact Or.inl ⟨σ1, τ1, a1, o1, c1, ob_i h1 (ite_p (Or.inl rfl) rfl), h2, h3⟩
  · exact Or.inr ⟨σ1, τ1, a1, c1, ob_i h1 (ite_p (Or.inr rfl) rfl), h2, h3⟩
/-- the smallest, o opened; what stands in it is given -/
theorem tr_small (hB : HB u n f σb τb) {o F G : Nat} (ho : o ≤ 5)
    (hS : o < 5 → ∀ (σ τ : St) (a c : Nat), TR u n f σb τb σ τ a (o + 1) c → CR u n f σb τb (o + 1) (a + 1) (a - c) (sdep (σ 28) c + 1) (g_X1_reads F 2 (nI (o + 1)) 0 σ) (g_X7_both G 2 τ))
    (hL : o < 5 → ∀ (σ τ : St) (a c : Nat), TR u n f σb τb σ τ a (o + 1) c → CR u n f σb τb (o + 1) (a + 1) (a - c) (sdep (σ 28) c + 1) (g_X1_reads F 0 (nI 0) (nI (o + 1)) σ) (g_X7_both G 5 τ)) :
    ∀ (σ τ : St) (a c : Nat), TR u n f σb τb σ τ a o c → CR u n f σb τb o (a + 1) (a - c) (sdep (σ 28) c + 1) (g_X1_reads (F + 2) 2 (nI o) 0 σ) (g_X7_both (G + 1) 2 τ) := by
  intro σ τ a c h
  have hu := hB.2.1
  have hca : c ≤ a := h.2.2.2.2.2.2.2.1
  have h7 : τ 66 7 = nI u := by rw [h.2.2.1 7 (by decide) (by decide) (by decide)]; exact hB.2.2.2.2
  have h5 : τ 66 5 = nI o := h.2.2.2.2.1.2.1
  have cs := c_sign hB h
  have ml := m_look hB h
  show CR u n f σb τb o (a + 1) (a - c) (sdep (σ 28) c + 1) (f_X1_readsSmallest (g_X1_reads (F + 1)) (nI o) σ) (f_X7_one (g_X7_both G) τ)
  by_cases hd : isR 48 58 (sgN n f a)
  · have hnn : ∀ i, i < 3 → sgN n f a ≠ tNA (3 * u + i) := by
      obtain ⟨v, v1, v2, ev⟩ := hd
      intro i hi e
      rw [ev] at e
      have e2 : ∃ w : Nat, 98 ≤ w ∧ w < 128 ∧ tNA (3 * u + i) = nI w := by
        rcases (show (u = 0 ∨ u = 1) by omega) with e | e <;> subst e <;> rcases (show i = 0 ∨ i = 1 ∨ i = 2 by omega) with e | e | e <;> subst e
        · exact ⟨104, by decide, by decide, rfl⟩
        · exact ⟨121, by decide, by decide, rfl⟩
        · exact ⟨111, by decide, by decide, rfl⟩
        · exact ⟨121, by decide, by decide, rfl⟩
        · exact ⟨98, by decide, by decide, rfl⟩
        · exact ⟨115, by decide, by decide, rfl⟩
      obtain ⟨w, w1, w2, ew⟩ := e2
      rw [ew, nI_eq (by omega) (by omega)] at e
      omega
    have := tr_dig (A0 := a + 1) (d := a - c) hB (rec := g_X7_both G) 4 0 0 LF LF σ τ a c rfl h rfl (Or.inr ⟨hd, by decide, by omega, Nat.le_refl _⟩) (by decide) (by decide) (by decide)
    rw [show f_X1_readsSmallest (g_X1_reads (F + 1)) (nI o) σ = ob (f_X1_readNumber_L4 LF (nI 0) (nI 0) σ) fun _ σ7 => some (1, σ7) from ob_i cs (ob_i (dig_t hd) (ite_n (by decide) rfl)), show f_X7_one (g_X7_both G) τ = f_X7_one_L46 (g_X7_both G) LF (nI 0) (nI 0) τ from ob_i ml (ob_i (m_nm_f hu h7 hnn) (ite_p rfl (ob_i (in_t hd (by decide) rfl rfl) (ite_n (by decide) rfl))))]
    exact this
  · by_cases q33 : sgN n f a = 33 ∨ sgN n f a = 40
    · have hnn : ∀ i, i < 3 → sgN n f a ≠ tNA (3 * u + i) := by
        intro i hi e
        rw [e] at q33
        revert q33
        rcases (show (u = 0 ∨ u = 1) by omega) with e | e <;> subst e <;> rcases (show i = 0 ∨ i = 1 ∨ i = 2 by omega) with e | e | e <;> subst e <;> decide
      have ha : a < n := sg_lt (by rcases q33 with q | q <;> rw [q] <;> decide)
      have ca : f_X1_readsSmallest (g_X1_reads (F + 1)) (nI o) σ = f_X1_readsSmallest_b30 (g_X1_reads (F + 1)) (nI o) (sgN n f a) σ := by
        refine ob_i cs (ob_i (dig_f hd) (ite_p rfl ?_))
        by_cases q : sgN n f a = 33
        · exact ite_p q rfl
        · exact ite_n q (ite_p (q33.resolve_left q) rfl)
      rw [ca]
      by_cases ho5 : o = 5
      · refine Or.inl ⟨σ, τ, a, o, c, ite_p (nI_le (a := 5) (by omega) (by omega)) rfl, ob_i ml (ob_i (m_nm_f hu h7 hnn) (ite_p rfl (ob_i (in_f hd (by decide) rfl rfl) (ite_p rfl ?_)))), h⟩
        have op : f_X7_opens τ = some (0, τ) := ite_p (by rw [h5, ho5]; rfl) rfl
        by_cases q : sgN n f a = 33
        · exact ite_p q (ob_i op (ite_p rfl rfl))
        · exact ite_n q (ite_p (q33.resolve_left q) (ob_i op (ite_p rfl rfl)))
      · have op : f_X7_opens τ = some (1, st (st τ 66 5 (nI (o + 1))) 66 4 ((st τ 66 5 (nI (o + 1))) 66 4 + 1)) := by
          unfold f_X7_opens
          rw [h5, nI_1]
          exact ite_n (fun q => ho5 ((nI_eq (b := 5) (by omega) (by decide)).mp q)) rfl
        have h8 := tr_adv (tr_o (o' := o + 1) h) ha
        have e28 : (st σ 27 4 (σ 27 4 + 1)) 28 = σ 28 := st_c (by decide)
        have cb : f_X1_readsSmallest_b30 (g_X1_reads (F + 1)) (nI o) (sgN n f a) σ = ob (f_X1_readsOpened (g_X1_reads F) (sgN n f a) (nI (o + 1)) σ) fun r1 σ1 => if r1 = 0 then some (0, σ1) else some (1, σ1) := by
          refine ite_n (nI_ge (b := 5) (by omega) (by decide)) ?_
          rw [nI_1]
          rfl
        rw [cb]
        by_cases q : sgN n f a = 33
        · have hsub := hS (by omega) _ _ _ _ h8
          rw [e28] at hsub
          have cO : f_X1_readsOpened (g_X1_reads F) (sgN n f a) (nI (o + 1)) σ = ob (g_X1_reads F 2 (nI (o + 1)) 0 (st σ 27 4 (σ 27 4 + 1))) fun r7 σ7 => if r7 = 0 then some (0, σ7) else ob (f_X1_write (-33) σ7) fun _ σ8 => some (1, σ8) := ol_i (ite_p q rfl)
          have mO : f_X7_one (g_X7_both G) τ = ob (g_X7_both G 2 (st (st τ 66 5 (nI (o + 1))) 66 4 ((st τ 66 5 (nI (o + 1))) 66 4 + 1))) fun r14 σ14 => if r14 = 0 then some (0, σ14) else ol (st σ14 66 5 ((σ14 66 5) - 1)) fun σ15 => ob (f_X7_step1 2 0 σ15) fun _ σ16 => some (1, σ16) := ob_i ml (ob_i (m_nm_f hu h7 hnn) (ite_p rfl (ob_i (in_f hd (by decide) rfl rfl) (ite_p rfl (ite_p q (ob_i op (ite_n (by decide) rfl)))))))
          rw [cO, mO]
          rcases hsub with ⟨σ1, τ1, a1, o1, c1, g1, g2, g3⟩ | ⟨σ1, τ1, a1, c1, g1, g2, g3, g4, g5, g6⟩
          · exact Or.inl ⟨σ1, τ1, a1, o1, c1, ob_i (ob_i g1 (ite_p rfl rfl)) (ite_p rfl rfl), ob_i g2 (ite_p rfl rfl), g3⟩
          · obtain ⟨σ2, τ2, k1, k2, k3, k4⟩ := tr_wr (w := -33) (p := 2) (q := 0) hB (tr_o (o' := o) g3) (by omega) (Or.inr (Or.inl ⟨rfl, by omega⟩)) (by decide) (by show (if (10000 : Int32) ≤ -33 then _ else _) = _; exact ite_n (by decide) (ite_n (by decide) (ite_p rfl rfl)))
            rw [if_neg (by decide), if_pos rfl, g6] at k4
            have e5 : τ1 66 5 - 1 = nI o := by rw [show τ1 66 5 = nI (o + 1) from g3.2.2.2.2.1.2.1, nI_pred]
            refine Or.inr ⟨σ2, τ2, a1, c1 + 1, ob_i (ob_i g1 (ite_n (by decide) (ob_i k1 rfl))) (ite_n (by decide) rfl), ob_i g2 (ite_n (by decide) (ol_i ?_)), k3, by omega, by omega, k4⟩
            rw [e5]
            exact ob_i k2 rfl
        · have q4 : sgN n f a = 40 := q33.resolve_left q
          have hsub := hL (by omega) _ _ _ _ h8
          rw [e28] at hsub
          have cO : f_X1_readsOpened (g_X1_reads F) (sgN n f a) (nI (o + 1)) σ = ob (g_X1_reads F 0 (nI 0) (nI (o + 1)) (st σ 27 4 (σ 27 4 + 1))) fun r2 σ2 => if r2 = 0 then some (0, σ2) else ob (f_X1_sign σ2) fun r3 σ3 => if r3 = 41 then (ol (st σ3 27 4 ((σ3 27 4) + 1)) fun σ4 => some (1, σ4)) else some (0, σ3) := ol_i (ite_n q rfl)
          have mO : f_X7_one (g_X7_both G) τ = ob (g_X7_both G 5 (st (st τ 66 5 (nI (o + 1))) 66 4 ((st τ 66 5 (nI (o + 1))) 66 4 + 1))) fun r5 σ5 => if r5 = 0 then some (0, σ5) else ob (f_X7_look σ5) fun r6 σ6 => if r6 = 41 then (ol (st σ6 66 4 ((σ6 66 4) + 1)) fun σ7 => ol (st σ7 66 5 ((σ7 66 5) - 1)) fun σ8 => some (1, σ8)) else some (0, σ6) := ob_i ml (ob_i (m_nm_f hu h7 hnn) (ite_p rfl (ob_i (in_f hd (by decide) rfl rfl) (ite_p rfl (ite_n q (ite_p q4 (ob_i op (ite_n (by decide) rfl))))))))
          rw [cO, mO]
          rcases hsub with ⟨σ1, τ1, a1, o1, c1, g1, g2, g3⟩ | ⟨σ1, τ1, a1, c1, g1, g2, g3, g4, g5, g6⟩
          · exact Or.inl ⟨σ1, τ1, a1, o1, c1, ob_i (ob_i g1 (ite_p rfl rfl)) (ite_p rfl rfl), ob_i g2 (ite_p rfl rfl), g3⟩
          · have cs1 := c_sign hB g3
            have ml1 := m_look hB g3
            by_cases q41 : sgN n f a1 = 41
            · have ha1 : a1 < n := sg_lt (by rw [q41]; decide)
              have h9 := tr_adv g3 ha1
              have h10 := tr_o (o' := o) h9
              have e5 : (st τ1 66 4 (τ1 66 4 + 1)) 66 5 - 1 = nI o := by rw [show (st τ1 66 4 (τ1 66 4 + 1)) 66 5 = nI (o + 1) from h9.2.2.2.2.1.2.1, nI_pred]
              refine Or.inr ⟨_, _, a1 + 1, c1, ob_i (ob_i g1 (ite_n (by decide) (ob_i cs1 (ite_p q41 rfl)))) (ite_n (by decide) rfl), ob_i g2 (ite_n (by decide) (ob_i ml1 (ite_p q41 (ol_i (ol_i ?_))))), h10, by omega, by omega, ?_⟩
              · rw [e5]
              · rw [st_c (by decide)]; exact g6
            · exact Or.inl ⟨σ1, τ1, a1, o + 1, c1, ob_i (ob_i g1 (ite_n (by decide) (ob_i cs1 (ite_n q41 rfl)))) (ite_p rfl rfl), ob_i g2 (ite_n (by decide) (ob_i ml1 (ite_n q41 rfl))), g3⟩
    · have n33 : ¬ sgN n f a = 33 := fun q => q33 (Or.inl q)
      have n40 : ¬ sgN n f a = 40 := fun q => q33 (Or.inr q)
      rw [show f_X1_readsSmallest (g_X1_reads (F + 1)) (nI o) σ = ob (f_X1_readsName (sgN n f a) σ) fun r3 σ3 => if r3 = 0 ∨ r3 = 1 then some (r3, σ3) else none from ob_i cs (ob_i (dig_f hd) (ite_p rfl (ite_n n33 (ite_n n40 rfl))))]
      refine CR.b (tr_nm hB h rfl (fun i hi e => ?_) (fun hnn => ?_))
      · refine (ob_i ml (ob_i (r := 1) (σ := τ) ?_ (ite_n (by decide) rfl))).symm
        rw [e]
        exact m_nm_t hi hu h7
      · exact (ob_i ml (ob_i (m_nm_f hu h7 hnn) (ite_p rfl (ob_i (in_f hd (by decide) rfl rfl) (ite_p rfl (ite_n n33 (ite_n n40 rfl))))))).symm
theorem c_rd5 {F : Nat} {o : Int32} {σ : St} : g_X1_reads (F + 1) 0 (nI 5) o σ = ob (g_X1_reads F 2 o 0 σ) fun r σ => if r = 0 ∨ r = 1 then some (r, σ) else none := by
  show f_X1_reads (g_X1_reads F) (nI 5) o σ = _
  exact ite_n (show ¬ nI 5 < 5 by decide) rfl
/-- all of it, k more may be opened -/
theorem tr_all (hB : HB u n f σb τb) : ∀ (k o F G : Nat), o + k = 5 → 8 * k + 2 ≤ F → 6 * k + 1 ≤ G → ∀ (σ τ : St) (a c : Nat), TR u n f σb τb σ τ a o c → CR u n f σb τb o (a + 1) (a - c) (sdep (σ 28) c + 1) (g_X1_reads F 2 (nI o) 0 σ) (g_X7_both G 2 τ) := by
  have lv : ∀ (o F G : Nat), (∀ (σ τ : St) (a c : Nat), TR u n f σb τb σ τ a o c → CR u n f σb τb o (a + 1) (a - c) (sdep (σ 28) c + 1) (g_X1_reads F 2 (nI o) 0 σ) (g_X7_both G 2 τ)) → ∀ (σ τ : St) (a c : Nat), TR u n f σb τb σ τ a o c → CR u n f σb τb o (a + 1) (a - c) (sdep (σ 28) c + 1) (g_X1_reads (F + 6) 0 (nI 0) (nI o) σ) (g_X7_both (G + 5) 5 τ) := by
    intro o F G h
    have l5 : ∀ (σ τ : St) (a c : Nat), TR u n f σb τb σ τ a o c → CR u n f σb τb o (a + 1) (a - c) (sdep (σ 28) c + 1) (g_X1_reads (F + 1) 0 (nI (4 + 1)) (nI o) σ) (g_X7_both G (mtN (4 + 1)) τ) := by
      intro σ τ a c q
      have := (h σ τ a c q).b
      rw [show g_X1_reads (F + 1) 0 (nI (4 + 1)) (nI o) σ = _ from c_rd5]
      exact this
    exact tr_level (l := 0) hB (by decide) (tr_level (l := 1) hB (by decide) (tr_level (l := 2) hB (by decide) (tr_level (l := 3) hB (by decide) (tr_level (l := 4) hB (by decide) l5))))
  intro k
  induction k with
  | zero =>
    intro o F G h1 h2 h3
    obtain ⟨F, rfl⟩ : ∃ F', F = F' + 2 := ⟨F - 2, by omega⟩
    obtain ⟨G, rfl⟩ : ∃ G', G = G' + 1 := ⟨G - 1, by omega⟩
    exact tr_small hB (by omega) (fun q => by omega) (fun q => by omega)
  | succ k ih =>
    intro o F G h1 h2 h3
    obtain ⟨F, rfl⟩ : ∃ F', F = F' + 8 := ⟨F - 8, by omega⟩
    obtain ⟨G, rfl⟩ : ∃ G', G = G' + 6 := ⟨G - 6, by omega⟩
    exact tr_small (F := F + 6) (G := G + 5) hB (by omega) (fun _ => ih (o + 1) (F + 6) (G + 5) (by omega) (by omega) (by omega)) (fun _ => lv (o + 1) F G (ih (o + 1) F G (by omega) (by omega) (by omega)))
theorem tr_whole (hB : HB u n f σb τb) {σ τ : St} {a c : Nat} (h : TR u n f σb τb σ τ a 0 c) : CR u n f σb τb 0 (a + 1) (a - c) (sdep (σ 28) c + 1) (g_X1_reads 100 0 0 0 σ) (g_X7_both 100 5 τ) := by
  have s0 : ∀ (σ τ : St) (a c : Nat), TR u n f σb τb σ τ a 0 c → CR u n f σb τb 0 (a + 1) (a - c) (sdep (σ 28) c + 1) (g_X1_reads 94 2 (nI 0) 0 σ) (g_X7_both 95 2 τ) := tr_all hB 5 0 94 95 rfl (by decide) (by decide)
  have l5 : ∀ (σ τ : St) (a c : Nat), TR u n f σb τb σ τ a 0 c → CR u n f σb τb 0 (a + 1) (a - c) (sdep (σ 28) c + 1) (g_X1_reads 95 0 (nI (4 + 1)) (nI 0) σ) (g_X7_both 95 (mtN (4 + 1)) τ) := by
    intro σ τ a c q
    have := (s0 σ τ a c q).b
    rw [show g_X1_reads 95 0 (nI (4 + 1)) (nI 0) σ = _ from c_rd5 (F := 94)]
    exact this
  exact tr_level (l := 0) hB (by decide) (tr_level (l := 1) hB (by decide) (tr_level (l := 2) hB (by decide) (tr_level (l := 3) hB (by decide) (tr_level (l := 4) hB (by decide) l5)))) σ τ a c h
end TY
/-! a new text -/
def nwN (N : Nat → Nat → Nat) (u c : Nat) : Nat → Nat → Nat := uN (uN N 0 4 0) 7 u c
def nwT (tx : Nat → Nat → Int32) (u : Nat) (x : Nat → Int32) : Nat → Nat → Int32 := fun v j => if v = u then x j else tx v j
section NT
variable {N : Nat → Nat → Nat} {z : Int32} {wt : Nat → Int32} {tx : Nat → Nat → Int32}
theorem c_newT {σ τ : St} {u c : Nat} {x : Nat → Int32} (h : CV 0 σ N z wt tx) (e : ∀ q, q = 1 ∨ (9 ≤ q ∧ q ≤ 13) → τ q = σ q) (e2 : τ 2 1 = 0) (e7 : τ 7 u = nI c) (e7o : ∀ w, w ≠ u → τ 7 w = σ 7 w) (e5 : ∀ j, j < c → τ (5 + u) j = x j) (e5o : ∀ w, w < 2 → w ≠ u → τ (5 + w) = σ (5 + w)) : CV 0 τ (nwN N u c) z wt (nwT tx u x) := by
  obtain ⟨a1, a2, a3, a4, a5, a6, a7, a8, a9, a10⟩ := h
  refine ⟨?_, ?_, ?_, ?_, ?_, ?_, fun j hj => ?_, fun j hj => ?_, fun j hj => absurd hj (Nat.not_lt_zero _), fun w hw => ?_⟩
  · rw [e _ (by omega)]; exact a1
  · rw [e _ (by omega)]; exact a2
  · rw [e _ (by omega)]; exact a3
  · rw [e _ (by omega)]; exact a4
  · rw [e _ (by omega)]; exact a5
  · exact e2
  · rw [e (9 + 0) (by omega), e (10 + 0) (by omega), e (11 + 0) (by omega), e (12 + 0) (by omega)]; exact a7 j hj
  · rw [e (13 + 0) (by omega)]; exact a8 j hj
  · by_cases ew : w = u
    · subst ew
      rw [show nwN N w c 7 w = c from uN_s]
      refine ⟨e7, fun j hj => ?_⟩
      rw [show nwT tx w x w j = x j from if_pos rfl]
      exact e5 j hj
    · rw [show nwN N u c 7 w = N 7 w from (uN_n (by omega)).trans (uN_n (by omega))]
      refine ⟨(e7o w ew).trans (a10 w hw).1, fun j hj => ?_⟩
      rw [show nwT tx u x w j = tx w j from if_neg ew, show 5 + 0 + w = 5 + w by omega, e5o w hw ew]
      exact (a10 w hw).2 j hj
theorem m_newT {σ τ : St} {u c : Nat} {x : Nat → Int32} (h : MV 67 σ N z wt tx) (hK : OKN N tx) (hu : u < 2) (hc : c ≤ 60) (e3 : τ 67 3 = 0) (en : τ 67 (48 + 125 * u) = nI c) (eo : ∀ m, m ≠ 3 → m ≠ 48 + 125 * u → (m < 49 + 125 * u ∨ 49 + 125 * u + 2 * c ≤ m) → τ 67 m = σ 67 m) (eo2 : ∀ m, 169 + 125 * u ≤ m → τ 67 m = σ 67 m) (ex : ∀ j, j < c → τ 67 (49 + 125 * u + 2 * j) = mW (x j) ∧ τ 67 (50 + 125 * u + 2 * j) = mA u (x j)) : MV 67 τ (nwN N u c) z wt (nwT tx u x) := by
  have h10 := hK.n
  have h24 := hK.w
  obtain ⟨a1, a2, a3, a4, a5, a6, a7, a8, a9, a10⟩ := h
  refine ⟨?_, ?_, ?_, ?_, ?_, ?_, fun j hj => ?_, fun j hj => ?_, fun j hj => absurd hj (Nat.not_lt_zero _), fun w hw => ?_⟩
  · rw [eo _ (by omega) (by omega) (by omega)]; exact a1
  · rw [eo _ (by omega) (by omega) (by omega)]; exact a2
  · rw [eo _ (by omega) (by omega) (by omega)]; exact a3
  · rw [eo _ (by omega) (by omega) (by omega)]; exact a4
  · rw [eo _ (by omega) (by omega) (by omega)]; exact a5
  · exact e3
  · have hj2 : j < N 0 0 := hj
    rw [eo _ (by omega) (by omega) (by omega), eo _ (by omega) (by omega) (by omega), eo _ (by omega) (by omega) (by omega), eo _ (by omega) (by omega) (by omega)]
    exact a7 j hj
  · have hj2 : j < N 0 3 := hj
    rw [eo _ (by omega) (by omega) (by omega)]; exact a8 j hj
  · by_cases ew : w = u
    · subst ew
      rw [show nwN N w c 7 w = c from uN_s]
      refine ⟨en, fun j hj => ?_⟩
      rw [show nwT tx w x w j = x j from if_pos rfl]
      exact ex j hj
    · rw [show nwN N u c 7 w = N 7 w from (uN_n (by omega)).trans (uN_n (by omega))]
      have h60 := hK.tn hw
      refine ⟨?_, fun j hj => ?_⟩
      · rw [eo _ (by omega) (by omega) (by omega)]; exact (a10 w hw).1
      · rw [show nwT tx u x w j = tx w j from if_neg ew, eo _ (by omega) (by omega) (by omega), eo _ (by omega) (by omega) (by omega)]
        exact (a10 w hw).2 j hj
theorem OKN.newT (h : OKN N tx) {u c : Nat} {x : Nat → Int32} (hc : c ≤ 60) (hw : c ≠ 0 → wfT x c) : OKN (nwN N u c) (nwT tx u x) := by
  obtain ⟨a1, a2, a3, a4, a5, a6, a7, a8⟩ := h
  refine ⟨a1, a2, a3, a4, Nat.zero_le _, a6, fun j hj => absurd hj (Nat.not_lt_zero _), fun w hw2 => ?_⟩
  by_cases ew : w = u
  · subst ew
    rw [show nwN N w c 7 w = c from uN_s, show nwT tx w x w = x from funext fun j => if_pos rfl]
    exact ⟨hc, hw⟩
  · rw [show nwN N u c 7 w = N 7 w from (uN_n (by omega)).trans (uN_n (by omega)), show nwT tx u x w = tx w from funext fun j => if_neg ew]
    exact a8 w hw2
end NT
theorem m_cpT {u c : Nat} (hu : u < 2) (hc : c ≤ 60) : ∀ (k F j : Nat) (σ : St), j + k = 2 * c → k < F → σ 66 6 = nI c → ∃ σ1, f_X7_text_L101 F (nI (48 + 125 * u)) (nI j) σ = some (1, σ1) ∧ (∀ q, q ≠ 67 → σ1 q = σ q) ∧ (∀ m, m < 49 + 125 * u + j ∨ 49 + 125 * u + 2 * c ≤ m → σ1 67 m = σ 67 m) ∧ ∀ m, j ≤ m → m < 2 * c → σ1 67 (49 + 125 * u + m) = σ 70 m := by
  intro k
  induction k with
  | zero =>
    intro F j σ h1 h2 h3
    obtain ⟨F, rfl⟩ : ∃ F', F = F' + 1 := ⟨F - 1, by omega⟩
    refine ⟨σ, ?_, fun q _ => rfl, fun m _ => rfl, fun m h4 h5 => by omega⟩
    show f_X7_text_b101 (f_X7_text_L101 F) _ _ σ = _
    unfold f_X7_text_b101
    rw [h3, show (2 * nI c : Int32) = nI (2 * c) from pk_mul 2 c]
    exact ite_p (nI_le (by omega) (by omega)) rfl
  | succ k ih =>
    intro F j σ h1 h2 h3
    obtain ⟨F, rfl⟩ : ∃ F', F = F' + 1 := ⟨F - 1, by omega⟩
    obtain ⟨σ1, g1, g2, g3, g4⟩ := ih F (j + 1) (st σ 67 (49 + 125 * u + j) (σ 70 j)) (by omega) (by omega) (by rw [st_c (by decide)]; exact h3)
    refine ⟨σ1, ?_, fun q hq => by rw [g2 q hq, st_c hq], fun m hm => by rw [g3 m (by omega), st_k (by omega)], fun m m1 m2 => ?_⟩
    · show f_X7_text_b101 (f_X7_text_L101 F) _ _ σ = _
      unfold f_X7_text_b101
      rw [h3, show (2 * nI c : Int32) = nI (2 * c) from pk_mul 2 c, nI_1, nI_1, nI_add, show 48 + 125 * u + 1 + j = 49 + 125 * u + j by omega]
      refine ite_n (nI_ge (by omega) (by omega)) (ite_p (inb_i (by omega) (by decide)) (ite_p (inb_i (by omega) (by decide)) (ol_i ?_)))
      rw [nI_clamp (by omega), nI_clamp (by omega)]
      exact g1
    · by_cases e : m = j
      · subst e
        rw [g3 _ (by omega), st_s]
      · rw [g4 m (by omega) m2, st_c (by decide)]
/-! the whole -/
theorem P_text {σ : St} (hI : Inv σ) (x0 : Int32) : ∃ (r : Int32) (σ1 σ2 : St), f_X6_text x0 σ = some (r, σ1) ∧ f_X7_text x0 σ1 = some (r, σ2) ∧ Inv σ2 := by
  obtain ⟨⟨N, z, wt, tx, hC, hM, hK⟩, -⟩ := id hI
  have h10 := hK.n
  have h60 := hK.t
  by_cases hv : isR 0 2 x0
  · obtain ⟨u, -, hu, rfl⟩ := id hv
    -- where both begin
    have hσ0 : ∃ s0 : St, s0 = st (st (st (st (sR σ 29 (va_cpy (σ 3) (σ 29) 0 0 60)) 27 3 (nI (N 0 4))) 27 4 0) 27 1 0) 27 5 (nI (3 * u)) := ⟨_, rfl⟩
    obtain ⟨s0, es0⟩ := hσ0
    have k29 : ∀ j, j < N 0 4 → s0 29 j = nI (N 6 j) := by
      intro j hj
      rw [es0, st_c (by decide), st_c (by decide), st_c (by decide), st_c (by decide), sR_s, pk_cpy_in (Nat.zero_le _) (by omega), show 0 + (j - 0) = j by omega]
      exact hC.tp hj
    have ko : ∀ q, q ≠ 27 → q ≠ 29 → s0 q = σ q := fun q q1 q2 => by rw [es0, st_c q1, st_c q1, st_c q1, st_c q1, sR_c q2]
    have c3 : s0 27 3 = nI (N 0 4) := by rw [es0, st_k (by decide), st_k (by decide), st_k (by decide), st_s]
    have c4 : s0 27 4 = nI 0 := by rw [es0, st_k (by decide), st_k (by decide), st_s]; rfl
    have c1 : s0 27 1 = nI 0 := by rw [es0, st_k (by decide), st_s]; rfl
    have c5 : s0 27 5 = nI (3 * u) := by rw [es0, st_s]
    have cc : ∀ {r1 : Int32} {σ1 : St} {y : Rs}, g_X1_reads 100 0 0 0 s0 = some (r1, σ1) → (ob (if r1 = 0 then some ((σ1 27 4), σ1) else (if (σ1 27 4) = (σ1 27 3) then some ((-1 : Int32), σ1) else some ((σ1 27 4), σ1))) fun r2 σ2 => ol (st σ2 2 1 0) fun σ3 => if r2 < 0 then (ob (f_X0_takeSteps_v1 (nI u) 28 (σ3 27 1) σ3) fun _ σ4 => some (1, σ4)) else some (((-10) - r2), σ3)) = y → f_X6_text (nI u) σ = y := by
      intro r1 σ1 y h1 hy
      refine ob_i (isUse_t hv) (ite_n (by decide) ?_)
      have e : f_X1_faultOf 3 (σ 2 1) (nI u) σ = (if r1 = 0 then some ((σ1 27 4), σ1) else (if (σ1 27 4) = (σ1 27 3) then some ((-1 : Int32), σ1) else some ((σ1 27 4), σ1))) := by
        unfold f_X1_faultOf
        refine ite_p (by decide) (ol_i ?_)
        refine ob_i (r := nI (N 0 4)) (σ := sR σ 29 (va_cpy (σ 3) (σ 29) 0 0 60)) ?_ ?_
        · rw [hC.t]
          rw [c_held (by decide)]
          unfold cl2
          rw [if_pos (nI_pos' (by omega)), if_pos (show nI (N 0 4) ≤ 60 from nI_le (b := 60) h60 (by decide))]
          rfl
        · refine ol_i (ol_i (ol_i (ol_i ?_)))
          rw [show (nI u * 3 : Int32) = nI (3 * u) by rw [show (nI u * 3 : Int32) = nI (u * 3) from pk_mul u 3, Nat.mul_comm], ← es0]
          exact ob_i h1 rfl
      rw [e]
      exact hy
    -- the reference's beginning, behind a state s
    have hτ0 : ∀ s : St, ∃ t0 : St, t0 = st (st (st (st s 66 7 (nI u)) 66 4 0) 66 5 0) 66 6 0 := fun s => ⟨_, rfl⟩
    have mc : ∀ (s t0 : St), t0 = st (st (st (st s 66 7 (nI u)) 66 4 0) 66 5 0) 66 6 0 → ∀ {r1 : Int32} {τ1 : St} {y : Rs}, g_X7_both 100 5 t0 = some (r1, τ1) → (if r1 = 0 then f_X7_text_b60 (nI u) 0 τ1 else (if inb 3 382 then (if (τ1 66 4) = (τ1 67 (3 : Int32).toNatClampNeg) then f_X7_text_b60 (nI u) 1 τ1 else f_X7_text_b60 (nI u) 0 τ1) else none)) = y → f_X7_text (nI u) s = y := by
      intro s t0 et r1 τ1 y h1 hy
      refine ob_i (in_t hv (by decide) rfl rfl) (ite_n (by decide) (ol_i (ol_i (ol_i (ol_i ?_)))))
      rw [← et]
      exact ob_i h1 hy
    have hTR : ∀ s t0 : St, MV 67 s N z wt tx → t0 = st (st (st (st s 66 7 (nI u)) 66 4 0) 66 5 0) 66 6 0 → HB u (N 0 4) (N 6) s0 t0 ∧ TR u (N 0 4) (N 6) s0 t0 s0 t0 0 0 0 := by
      intro s t0 hs et
      have e67 : t0 67 = s 67 := by rw [et, st_c (by decide), st_c (by decide), st_c (by decide), st_c (by decide)]
      refine ⟨⟨h60, hu, fun j hj => ⟨hK.tp hj, k29 j hj, by rw [e67]; exact hs.tp hj⟩, by rw [e67]; exact hs.t, ?_⟩, ⟨fun q _ _ => rfl, fun q _ _ => rfl, fun k _ _ _ => rfl, ⟨c3, c4, c1, c5⟩, ⟨?_, ?_, ?_⟩, fun j hj => absurd hj (Nat.not_lt_zero _), fun j hj => absurd hj (Nat.not_lt_zero _), Nat.le_refl _, Nat.zero_le _⟩⟩
      · rw [et, st_k (by decide), st_k (by decide), st_k (by decide), st_s]
      · rw [et, st_k (by decide), st_k (by decide), st_s]; rfl
      · rw [et, st_k (by decide), st_s]; rfl
      · rw [et, st_s]; rfl
    -- what all comes to
    have keep : ∀ (s σc t0 τ1 τf : St) (c : Nat) (x : Nat → Int32), (∀ q, q ≠ 27 → q ≠ 28 → q ≠ 29 → q ≠ 2 → q ≠ 5 + u → q ≠ 7 → σc q = σ q) → σc 2 1 = 0 → (∀ k, k ≠ 1 → σc 2 k = σ 2 k) → σc 7 u = nI c → (∀ w, w ≠ u → σc 7 w = σ 7 w) → (∀ j, j < c → σc (5 + u) j = x j) → c ≤ 60 → (c ≠ 0 → wfT x c) → t0 = st (st (st (st σc 66 7 (nI u)) 66 4 0) 66 5 0) 66 6 0 → (∀ q, q ≠ 66 → q ≠ 70 → τ1 q = t0 q) → (∀ k, k ≠ 4 → k ≠ 5 → k ≠ 6 → τ1 66 k = t0 66 k) → (∀ q, q ≠ 67 → τf q = τ1 q) → τf 67 3 = 0 → τf 67 (48 + 125 * u) = nI c → (∀ m, m ≠ 3 → m ≠ 48 + 125 * u → (m < 49 + 125 * u ∨ 49 + 125 * u + 2 * c ≤ m) → τf 67 m = σ 67 m) → (∀ j, j < c → τf 67 (49 + 125 * u + 2 * j) = mW (x j) ∧ τf 67 (50 + 125 * u + 2 * j) = mA u (x j)) → Inv τf := by
      intro s σc t0 τ1 τf c x d1 d2 d3 d4 d5 d6 d7 d8 d9 d10 d11 d12 d13 d14 d15 d16
      have hq : ∀ q, q ≠ 66 → q ≠ 70 → q ≠ 67 → τf q = σc q := fun q q1 q2 q3 => by rw [d12 q q3, d10 q q1 q2, d9, st_c q1, st_c q1, st_c q1, st_c q1]
      refine hI.main (fun q k hk => ?_) ⟨nwN N u c, z, wt, nwT tx u x, ?_, ?_, hK.newT d7 d8⟩
      · have n27 : q ≠ 27 := by rintro rfl; revert hk; unfold mnP scr; simp
        have n28 : q ≠ 28 := by rintro rfl; revert hk; unfold mnP scr; simp
        have n29 : q ≠ 29 := by rintro rfl; revert hk; unfold mnP scr; simp
        have n2 : q ≠ 2 := by rintro rfl; revert hk; unfold mnP scr; simp
        have n7 : q ≠ 7 := by rintro rfl; revert hk; unfold mnP scr; simp
        have n5 : q ≠ 5 := by rintro rfl; revert hk; unfold mnP scr; simp
        have n6 : q ≠ 6 := by rintro rfl; revert hk; unfold mnP scr; simp
        have n67 : q ≠ 67 := by rintro rfl; revert hk; unfold mnP scr; simp
        have n70 : q ≠ 70 := by rintro rfl; revert hk; unfold mnP scr; simp
        by_cases e : q = 66
        · subst e
          have m4 : k ≠ 4 := by rintro rfl; exact absurd hk (by decide)
          have m5 : k ≠ 5 := by rintro rfl; exact absurd hk (by decide)
          have m6 : k ≠ 6 := by rintro rfl; exact absurd hk (by decide)
          have m7 : k ≠ 7 := by rintro rfl; exact absurd hk (by decide)
          rw [d12 66 (by decide), d11 k m4 m5 m6, d9, st_k m6, st_k m5, st_k m4, st_k m7, d1 66 (by decide) (by decide) (by decide) (by decide) (by omega) (by decide)]
        · rw [hq q e n70 n67, d1 q n27 n28 n29 n2 (by omega) n7]
      · refine c_newT (hC.fr (σ1 := σ) (fun q _ => rfl)) (fun q hq2 => ?_) ?_ ?_ (fun w hw => ?_) (fun j hj => ?_) (fun w hw hw2 => ?_)
        · rw [hq q (by omega) (by omega) (by omega), d1 q (by omega) (by omega) (by omega) (by omega) (by omega) (by omega)]
        · rw [hq 2 (by decide) (by decide) (by decide), d2]
        · rw [hq 7 (by decide) (by decide) (by decide), d4]
        · rw [hq 7 (by decide) (by decide) (by decide), d5 w hw]
        · rw [hq (5 + u) (by omega) (by omega) (by omega), d6 j hj]
        · rw [hq (5 + w) (by omega) (by omega) (by omega), d1 (5 + w) (by omega) (by omega) (by omega) (by omega) (by omega) (by omega)]
      · exact m_newT hM hK hu d7 d13 d14 d15 (fun m hm => d15 m (by omega) (by omega) (by omega)) d16
    -- a text that isn't one
    have bad : ∀ (r1 : Int32) (σ1 : St) (a1 : Nat), g_X1_reads 100 0 0 0 s0 = some (r1, σ1) → a1 ≤ 60 → (∀ q, q ≠ 27 → q ≠ 28 → σ1 q = s0 q) → (∀ {X : Rs}, some (nI a1, σ1) = X → (if r1 = 0 then some ((σ1 27 4), σ1) else (if (σ1 27 4) = (σ1 27 3) then some ((-1 : Int32), σ1) else some ((σ1 27 4), σ1))) = X) → (∀ t0 : St, t0 = st (st (st (st (st σ1 2 1 0) 66 7 (nI u)) 66 4 0) 66 5 0) 66 6 0 → ∃ (r2 : Int32) (τ1 : St), g_X7_both 100 5 t0 = some (r2, τ1) ∧ (∀ q, q ≠ 66 → q ≠ 70 → τ1 q = t0 q) ∧ (∀ k, k ≠ 4 → k ≠ 5 → k ≠ 6 → τ1 66 k = t0 66 k) ∧ τ1 66 4 = nI a1 ∧ (r2 = 0 ∨ ¬ nI a1 = nI (N 0 4))) → ∃ (r : Int32) (σ1 σ2 : St), f_X6_text (nI u) σ = some (r, σ1) ∧ f_X7_text (nI u) σ1 = some (r, σ2) ∧ Inv σ2 := by
      intro r1 σ1 a1 g1 g2 g3 g4 g5
      obtain ⟨t0, et⟩ := hτ0 (st σ1 2 1 0)
      obtain ⟨r2, τ1, k1, k2, k3, k4, k5⟩ := g5 t0 et
      have e1 : ∀ q, q ≠ 27 → q ≠ 28 → q ≠ 29 → σ1 q = σ q := fun q q1 q2 q3 => by rw [g3 q q1 q2, ko q q1 q3]
      have e67 : τ1 67 = σ 67 := by rw [k2 67 (by decide) (by decide), et, st_c (by decide), st_c (by decide), st_c (by decide), st_c (by decide), st_c (by decide), e1 67 (by decide) (by decide) (by decide)]
      have b60 : f_X7_text_b60 (nI u) 0 τ1 = some ((-10) - nI a1, st τ1 67 3 0) := by
        refine ite_p (inb_l (by decide) (by decide)) (ol_i (ite_p rfl ?_))
        rw [show Int32.toNatClampNeg 3 = 3 from rfl, st_c (by decide), k4]
      refine ⟨(-10) - nI a1, st σ1 2 1 0, st τ1 67 3 0, cc g1 (ob_i (g4 rfl) (ol_i (ite_n (nI_nn (by omega)) rfl))), mc _ t0 et k1 ?_, ?_⟩
      · by_cases q : r2 = 0
        · exact ite_p q b60
        · refine ite_n q (ite_p (inb_l (by decide) (by decide)) ?_)
          rw [k4, show τ1 67 (Int32.toNatClampNeg 3) = nI (N 0 4) by rw [e67]; exact hM.t]
          exact ite_n (k5.resolve_left q) b60
      · refine keep σ (st σ1 2 1 0) t0 τ1 (st τ1 67 3 0) (N 7 u) (tx u) (fun q q1 q2 q3 q4 q5 q6 => by rw [st_c q4, e1 q q1 q2 q3]) st_s (fun k hk => by rw [st_k hk, e1 2 (by decide) (by decide) (by decide)]) ?_ (fun w hw => ?_) (fun j hj => ?_) (hK.tn hu) (hK.wf hu) et k2 k3 (fun q hq => st_c hq) st_s ?_ (fun m m1 m2 m3 => ?_) (fun j hj => ?_)
        · rw [st_c (by decide), e1 7 (by decide) (by decide) (by decide)]; exact hC.tn hu
        · rw [st_c (by decide), e1 7 (by decide) (by decide) (by decide)]
        · rw [st_c (by omega), e1 _ (by omega) (by omega) (by omega)]; exact hC.tx hu hj
        · rw [st_k (by omega), e67]; exact hM.tn hu
        · rw [st_k m1, e67]
        · rw [st_k (by omega), st_k (by omega), e67]; exact ⟨hM.tw hu hj, hM.ta hu hj⟩
    obtain ⟨tz, etz⟩ := hτ0 σ
    obtain ⟨hBz, hTz⟩ := hTR σ tz hM etz
    -- the second time, behind the class's own end
    have again : ∀ (σc t0 : St), MV 67 σc N z wt tx → t0 = st (st (st (st σc 66 7 (nI u)) 66 4 0) 66 5 0) 66 6 0 → CR u (N 0 4) (N 6) s0 t0 0 1 0 1 (g_X1_reads 100 0 0 0 s0) (g_X7_both 100 5 t0) := by
      intro σc t0 hs et
      obtain ⟨hB, hT⟩ := hTR σc t0 hs et
      exact tr_whole hB hT
    rcases tr_whole hBz hTz with ⟨σ1, τz, a1, o1, c1', g1, -, g3⟩ | ⟨σ1, τz, a1, c1', g1, -, g3, g4, g5, g6⟩
    · have han : a1 ≤ N 0 4 := g3.2.2.2.2.2.2.2.2
      refine bad 0 σ1 a1 g1 (by omega) g3.1 (fun hX => (ite_p rfl (by rw [g3.2.2.2.1.2.1]; exact hX))) (fun t0 et => ?_)
      rcases again (st σ1 2 1 0) t0 (hM.fr (by rw [st_c (by decide), g3.1 67 (by decide) (by decide), ko 67 (by decide) (by decide)])) et with ⟨σ1', τ1, a1', o1', c1'', k1, k2, k3⟩ | ⟨σ1', τ1, a1', c1'', k1, k2, k3, k4, k5, k6⟩
      · have e1 : σ1' = σ1 := by
          rw [g1] at k1
          have := Option.some.inj k1
          exact (congrArg Prod.snd this).symm
        subst e1
        refine ⟨0, τ1, k2, k3.2.1, k3.2.2.1, ?_, Or.inl rfl⟩
        rw [k3.2.2.2.2.1.1, ← k3.2.2.2.1.2.1, g3.2.2.2.1.2.1]
      · rw [g1] at k1
        exact absurd (show (0 : Int32) = 1 from congrArg Prod.fst (Option.some.inj k1)) (by decide)
    · have han : a1 ≤ N 0 4 := g3.2.2.2.2.2.2.2.2
      have hca : c1' ≤ a1 := g3.2.2.2.2.2.2.2.1
      have again2 : ∀ (σc t0 : St), MV 67 σc N z wt tx → t0 = st (st (st (st σc 66 7 (nI u)) 66 4 0) 66 5 0) 66 6 0 → ∃ τ1, g_X7_both 100 5 t0 = some (1, τ1) ∧ TR u (N 0 4) (N 6) s0 t0 σ1 τ1 a1 0 c1' := by
        intro σc t0 hs et
        rcases again σc t0 hs et with ⟨σ1', τ1, a1', o1', c1'', k1, k2, k3⟩ | ⟨σ1', τ1, a1', c1'', k1, k2, k3, k4, k5, k6⟩
        · rw [g1] at k1
          exact absurd (show (1 : Int32) = 0 from congrArg Prod.fst (Option.some.inj k1)) (by decide)
        · have e1 : σ1' = σ1 := by
            rw [g1] at k1
            have := Option.some.inj k1
            exact (congrArg Prod.snd this).symm
          subst e1
          have e2 : a1' = a1 := by
            have := k3.2.2.2.1.2.1.symm.trans g3.2.2.2.1.2.1
            have hb : a1' ≤ N 0 4 := k3.2.2.2.2.2.2.2.2
            exact (nI_eq (by omega) (by omega)).mp this
          have e3 : c1'' = c1' := by
            have := k3.2.2.2.1.2.2.1.symm.trans g3.2.2.2.1.2.2.1
            have hb : c1'' ≤ a1' := k3.2.2.2.2.2.2.2.1
            exact (nI_eq (by omega) (by omega)).mp this
          subst e2
          subst e3
          exact ⟨τ1, k2, k3⟩
      by_cases hall : a1 = N 0 4
      · have e1 : ∀ q, q ≠ 27 → q ≠ 28 → q ≠ 29 → σ1 q = σ q := fun q q1 q2 q3 => by rw [g3.1 q q1 q2, ko q q1 q3]
        have hσc : ∃ σc : St, σc = st (sR (st σ1 2 1 0) (5 + u) (va_cpy ((st σ1 2 1 0) 28) ((st σ1 2 1 0) (5 + u)) 0 0 60)) 7 u (nI c1') := ⟨_, rfl⟩
        obtain ⟨σc, ec⟩ := hσc
        have ts : f_X0_takeSteps_v1 (nI u) 28 (nI c1') (st σ1 2 1 0) = some (0, σc) := by
          refine ob_i (isUse_t hv) (ite_n (by decide) (ite_p (inb_i hu (by decide)) (ite_p (by decide) (ol_i (ite_p (inb_i hu (by decide)) (ol_i ?_))))))
          rw [nI_clamp (by omega), ec]
          rfl
        have d1 : ∀ q, q ≠ 27 → q ≠ 28 → q ≠ 29 → q ≠ 2 → q ≠ 5 + u → q ≠ 7 → σc q = σ q := fun q q1 q2 q3 q4 q5 q6 => by rw [ec, st_c q6, sR_c q5, st_c q4, e1 q q1 q2 q3]
        have hMc : MV 67 σc N z wt tx := hM.fr (d1 67 (by decide) (by decide) (by decide) (by decide) (by omega) (by decide))
        obtain ⟨t0, et⟩ := hτ0 σc
        obtain ⟨τ1, k1, k2⟩ := again2 σc t0 hMc et
        have t6 : τ1 66 6 = nI c1' := k2.2.2.2.2.1.2.2
        have e67 : τ1 67 = σ 67 := by rw [k2.2.1 67 (by decide) (by decide), et, st_c (by decide), st_c (by decide), st_c (by decide), st_c (by decide)]; exact d1 67 (by decide) (by decide) (by decide) (by decide) (by omega) (by decide)
        obtain ⟨τf, f1, f2, f3, f4⟩ := m_cpT hu (show c1' ≤ 60 by omega) (2 * c1') LF 0 (st (st τ1 67 3 0) 67 (48 + 125 * u) (nI c1')) (by omega) (by unfold LF; omega) (by rw [st_c (by decide), st_c (by decide), t6])
        refine ⟨1, σc, τf, cc g1 (ob_i (r := -1) (σ := σ1) (ite_n (by decide) (ite_p (by rw [g3.2.2.2.1.1, g3.2.2.2.1.2.1, hall]) rfl)) (ol_i (ite_p (by decide) ?_))), mc _ t0 et k1 (ite_n (by decide) (ite_p (inb_l (by decide) (by decide)) (ite_p ?_ ?_))), ?_⟩
        · rw [st_c (by decide), g3.2.2.2.1.2.2.1]
          exact ob_i ts rfl
        · rw [k2.2.2.2.2.1.1, hall, show τ1 67 (Int32.toNatClampNeg 3) = nI (N 0 4) by rw [e67]; exact hM.t]
        · refine ite_p (inb_l (by decide) (by decide)) (ol_i (ite_n (by decide) ?_))
          rw [show (48 + 125 * nI u : Int32) = nI (48 + 125 * u) by
            show nI 48 + nI 125 * nI u = _
            rw [pk_mul, nI_add]]
          refine ite_p (inb_i (by omega) (by decide)) (ol_i ?_)
          rw [nI_clamp (by omega), show Int32.toNatClampNeg 3 = 3 from rfl, st_c (by decide), t6]
          exact f1
        · refine keep σ σc t0 τ1 τf c1' (σ1 28) d1 ?_ (fun k hk => ?_) ?_ (fun w hw => ?_) (fun j hj => ?_) (by omega) (fun _ => ⟨fun j hj => g3.2.2.2.2.2.2.1 j hj, g6⟩) et k2.2.1 k2.2.2.1 (fun q hq => by rw [f2 q hq, st_c hq, st_c hq]) ?_ ?_ (fun m m1 m2 m3 => ?_) (fun j hj => ?_)
          · rw [ec, st_c (by decide), sR_c (by omega), st_s]
          · rw [ec, st_c (by decide), sR_c (by omega), st_k hk, e1 2 (by decide) (by decide) (by decide)]
          · rw [ec, st_s]
          · rw [ec, st_k hw, sR_c (by omega), st_c (by decide), e1 7 (by decide) (by decide) (by decide)]
          · rw [ec, st_c (by omega), sR_s, pk_cpy_in (Nat.zero_le _) (by omega), show 0 + (j - 0) = j by omega, st_c (by decide)]
          · rw [f3 _ (by omega), st_k (by omega), st_s]
          · rw [f3 _ (by omega), st_s]
          · rw [f3 _ (by omega), st_k m2, st_k m1, e67]
          · have := k2.2.2.2.2.2.1 j hj
            rw [f4 (2 * j) (by omega) (by omega), show 50 + 125 * u + 2 * j = 49 + 125 * u + (2 * j + 1) by omega, f4 (2 * j + 1) (by omega) (by omega), st_c (by decide), st_c (by decide)]
            exact this
      · refine bad 1 σ1 a1 g1 (by omega) g3.1 (fun hX => ite_n (by decide) (ite_n (fun q => hall ?_) (by rw [g3.2.2.2.1.2.1]; exact hX))) (fun t0 et => ?_)
        · rw [g3.2.2.2.1.1, g3.2.2.2.1.2.1] at q
          exact (nI_eq (by omega) (by omega)).mp q
        · obtain ⟨τ1, k1, k2⟩ := again2 (st σ1 2 1 0) t0 (hM.fr (by rw [st_c (by decide), g3.1 67 (by decide) (by decide), ko 67 (by decide) (by decide)])) et
          exact ⟨1, τ1, k1, k2.2.1, k2.2.2.1, k2.2.2.2.2.1.1, Or.inr (fun q => hall ((nI_eq (by omega) (by omega)).mp q))⟩
  · exact P_err (FC := f_X6_text x0) (FM := f_X7_text x0) (k := 1) hI (ob_i (isUse_f hv) (ite_p rfl (ob_i (p_failing (k := 1) (by decide)) rfl))) (ob_i (in_f hv (by decide) rfl rfl) (ite_p rfl (ob_i (p_error (k := 1) (by decide)) rfl)))
