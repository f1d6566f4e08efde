/-! image, restore -/
theorem m_copyL {a b : Nat} (hab : a ≠ b) (ha : alen a = 382) (hb : alen b = 382) : ∀ (k i : Nat) (σ : St), i ≤ 382 → 382 < k + i → ∃ σ1, f_X7_copyAll_L2 k a b (nI i) σ = some (0, σ1) ∧ (∀ q, q ≠ b → σ1 q = σ q) ∧ (∀ j, j < i → σ1 b j = σ b j) ∧ ∀ j, i ≤ j → j < 382 → σ1 b j = σ a j := by
  intro k
  induction k with
  | zero => intro i σ h1 h2; omega
  | succ k ih =>
    intro i σ h1 h2
    by_cases e : i = 382
    · subst e
      refine ⟨σ, ?_, fun q _ => rfl, fun j _ => rfl, fun j h3 h4 => by omega⟩
      show f_X7_copyAll_b2 (f_X7_copyAll_L2 k) a b (nI 382) σ = some (0, σ)
      unfold f_X7_copyAll_b2
      exact if_pos (nI_le (a := 382) (b := 382) (by decide) (by decide))
    · obtain ⟨σ1, g1, g2, g3, g4⟩ := ih (i + 1) (st σ b i (σ a i)) (by omega) (by omega)
      refine ⟨σ1, ?_, fun q hq => by rw [g2 q hq, st_c hq], fun j hj => by rw [g3 j (by omega), st_k (by omega)], fun j h3 h4 => ?_⟩
      · show f_X7_copyAll_b2 (f_X7_copyAll_L2 k) a b (nI i) σ = _
        unfold f_X7_copyAll_b2
        rw [ha, hb, nI_1]
        simp (disch := omega) only [nI_clamp]
        exact ite_n (nI_ge (b := 382) (by omega) (by decide)) (ite_p (inb_i (by omega) (by decide)) (ite_p (inb_i (by omega) (by decide)) (ol_i g1)))
      · by_cases ej : j = i
        · subst ej; rw [g3 _ (by omega), st_s]
        · rw [g4 j (by omega) h4, st_c hab]
theorem MV.cp {σ σ1 : St} {a b : Nat} {N : Nat → Nat → Nat} {z : Int32} {wt : Nat → Int32} {tx : Nat → Nat → Int32} (h : MV a σ N z wt tx) (hK : OKN N tx) (e : ∀ j, j < 382 → σ1 b j = σ a j) : MV b σ1 N z wt tx := by
  obtain ⟨c1, c2, c3, c4, c5, c6, c7, c8, c9, c10⟩ := h
  have h10 := hK.n
  have h24 := hK.w
  have h60 := hK.t
  refine ⟨?_, ?_, ?_, ?_, ?_, ?_, fun j hj => ?_, fun j hj => ?_, fun j hj => ?_, fun u hu => ⟨?_, fun j hj => ?_⟩⟩
  · rw [e _ (by omega)]; exact c1
  · rw [e _ (by omega)]; exact c2
  · rw [e _ (by omega)]; exact c3
  · rw [e _ (by omega)]; exact c4
  · rw [e _ (by omega)]; exact c5
  · rw [e _ (by omega)]; exact c6
  · rw [e _ (by omega), e _ (by omega), e _ (by omega), e _ (by omega)]; exact c7 j hj
  · rw [e _ (by omega)]; exact c8 j hj
  · rw [e _ (by omega)]; exact c9 j hj
  · rw [e _ (by omega)]; exact (c10 u hu).1
  · have := hK.tn hu
    rw [e _ (by omega), e _ (by omega)]; exact (c10 u hu).2 j hj
/-- row b becomes row a's first n -/
def cpR (σ : St) (a b n : Nat) : St := sR σ b (va_cpy (σ a) (σ b) 0 0 n)
theorem cpR_i {σ : St} {a b n j : Nat} (h : j < n) : cpR σ a b n b j = σ a j := by
  unfold cpR
  rw [sR_s, pk_cpy_in (Nat.zero_le _) (by omega)]
  simp
theorem cpR_o {σ : St} {a b n q : Nat} (h : q ≠ b) : cpR σ a b n q = σ q := sR_c h
/-- all that the street at d says becomes what the one at s says -/
def lkS (s d : Nat) (σ : St) : St := st (cpR (st (cpR (cpR (st (cpR (cpR (cpR (cpR (cpR (st (st (st (st (st σ (1 + d) 1 (σ (1 + s) 1)) (1 + d) 2 (σ (1 + s) 2)) (1 + d) 3 (σ (1 + s) 3)) (1 + d) 4 (σ (1 + s) 4)) (1 + d) 5 (σ (1 + s) 5)) (9 + s) (9 + d) 10) (10 + s) (10 + d) 10) (11 + s) (11 + d) 10) (12 + s) (12 + d) 10) (13 + s) (13 + d) 24) (2 + d) 1 (σ (2 + s) 1)) (3 + s) (3 + d) 60) (5 + s) (5 + d) 60) (7 + d) 0 (σ (7 + s) 0)) (6 + s) (6 + d) 60) (7 + d) 1 (σ (7 + s) 1)
theorem lkS_o {s d q : Nat} {σ : St} (h : q < 1 + d ∨ 13 + d < q ∨ q = 4 + d ∨ q = 8 + d) : lkS s d σ q = σ q := by
  unfold lkS
  rw [st_c (by omega), cpR_o (by omega), st_c (by omega), cpR_o (by omega), cpR_o (by omega), st_c (by omega), cpR_o (by omega), cpR_o (by omega), cpR_o (by omega), cpR_o (by omega), cpR_o (by omega), st_c (by omega), st_c (by omega), st_c (by omega), st_c (by omega), st_c (by omega)]
theorem CV.lk {s d : Nat} {σ : St} {N : Nat → Nat → Nat} {z : Int32} {wt : Nat → Int32} {tx : Nat → Nat → Int32} (h : CV s σ N z wt tx) (hK : OKN N tx) (hsd : (s = 0 ∧ d = 13) ∨ (s = 13 ∧ d = 0)) : CV d (lkS s d σ) N z wt tx := by
  obtain ⟨c1, c2, c3, c4, c5, c6, c7, c8, c9, c10⟩ := h
  have h10 := hK.n
  have h24 := hK.w
  have h60 := hK.t
  unfold lkS
  refine ⟨?_, ?_, ?_, ?_, ?_, ?_, fun j hj => ⟨?_, ?_, ?_, ?_⟩, fun j hj => ?_, fun j hj => ?_, fun u hu => ⟨?_, fun j hj => ?_⟩⟩
  · simp (disch := omega) only [st_c, cpR_o, st_k, st_s]; exact c1
  · simp (disch := omega) only [st_c, cpR_o, st_k, st_s]; exact c2
  · simp (disch := omega) only [st_c, cpR_o, st_k, st_s]; exact c3
  · simp (disch := omega) only [st_c, cpR_o, st_k, st_s]; exact c4
  · simp (disch := omega) only [st_c, cpR_o, st_k, st_s]; exact c5
  · simp (disch := omega) only [st_c, cpR_o, st_k, st_s]; exact c6
  · simp (disch := omega) only [st_c, cpR_o, st_k, st_s, cpR_i]; exact (c7 j hj).1
  · simp (disch := omega) only [st_c, cpR_o, st_k, st_s, cpR_i]; exact (c7 j hj).2.1
  · simp (disch := omega) only [st_c, cpR_o, st_k, st_s, cpR_i]; exact (c7 j hj).2.2.1
  · simp (disch := omega) only [st_c, cpR_o, st_k, st_s, cpR_i]; exact (c7 j hj).2.2.2
  · simp (disch := omega) only [st_c, cpR_o, st_k, st_s, cpR_i]; exact c8 j hj
  · simp (disch := omega) only [st_c, cpR_o, st_k, st_s, cpR_i]; exact c9 j hj
  · rcases (show u = 0 ∨ u = 1 by omega) with rfl | rfl
    · simp (disch := omega) only [st_c, cpR_o, st_k, st_s]; exact (c10 0 hu).1
    · simp (disch := omega) only [st_c, cpR_o, st_k, st_s]; exact (c10 1 hu).1
  · have := hK.tn hu
    rcases (show u = 0 ∨ u = 1 by omega) with rfl | rfl
    · rw [show 5 + d + 0 = 5 + d from rfl]
      simp (disch := omega) only [st_c, cpR_o, st_k, st_s, cpR_i]; exact (c10 0 hu).2 j hj
    · rw [show 5 + d + 1 = 6 + d by omega]
      simp (disch := omega) only [st_c, cpR_o, st_k, st_s, cpR_i]
      have := (c10 1 hu).2 j hj
      rw [show 5 + s + 1 = 6 + s by omega] at this
      exact this
theorem c_like {σ : St} : f_X3_becomeLike σ = some (0, lkS 0 13 σ) := by
  have t0 : ∀ (u : Nat) (hu : u < 2) (v : Int32) (t : St), f_X0_takeSteps (nI u) (5 + u) v t = some (0, st (cpR t (5 + u) (18 + u) 60) 20 u v) := by
    intro u hu v t
    have ha : alen (5 + u) = 60 := by rcases (show u = 0 ∨ u = 1 by omega) with rfl | rfl <;> rfl
    unfold f_X0_takeSteps
    rw [ha]
    simp (disch := omega) only [nI_clamp]
    exact ob_i (isUse_t (isR_n hu)) (ite_n (by decide) (ite_p (inb_i hu (by decide)) (ite_p (by decide) (ol_i (ite_p (inb_i hu (by decide)) (ol_i rfl))))))
  refine ol_i (ol_i (ol_i (ol_i (ol_i (ite_p (by decide) (ol_i (ite_p (by decide) (ol_i (ite_p (by decide) (ol_i (ite_p (by decide) (ol_i (ite_p (by decide) (ol_i (ob_i (r := 0) (σ := lkS 0 13 σ) (ol_i (ite_p (by decide) (ol_i ?_))) rfl)))))))))))))))
  show f_X0_becomeLike_b25 (f_X0_becomeLike_L25 999) (nI 0) _ = _
  refine ite_n (by decide) (ite_p (by decide) (ite_p (by decide) (ob_i (t0 0 (by decide) _ _) ?_)))
  show f_X0_becomeLike_b25 (f_X0_becomeLike_L25 998) (nI 1) _ = _
  refine ite_n (by decide) (ite_p (by decide) (ite_p (by decide) (ob_i (t0 1 (by decide) _ _) ?_)))
  show f_X0_becomeLike_b25 (f_X0_becomeLike_L25 997) (nI 2) _ = _
  refine ite_p (by decide) ?_
  unfold lkS
  rfl
theorem c_like1 {σ : St} : f_X3_becomeLike_v1 σ = some (0, lkS 13 0 σ) := by
  have t0 : ∀ (u : Nat) (hu : u < 2) (v : Int32) (t : St), f_X0_takeSteps_v1 (nI u) (18 + u) v t = some (0, st (cpR t (18 + u) (5 + u) 60) 7 u v) := by
    intro u hu v t
    have ha : alen (18 + u) = 60 := by rcases (show u = 0 ∨ u = 1 by omega) with rfl | rfl <;> rfl
    unfold f_X0_takeSteps_v1
    rw [ha]
    simp (disch := omega) only [nI_clamp]
    exact ob_i (isUse_t (isR_n hu)) (ite_n (by decide) (ite_p (inb_i hu (by decide)) (ite_p (by decide) (ol_i (ite_p (inb_i hu (by decide)) (ol_i rfl))))))
  refine ol_i (ol_i (ol_i (ol_i (ol_i (ite_p (by decide) (ol_i (ite_p (by decide) (ol_i (ite_p (by decide) (ol_i (ite_p (by decide) (ol_i (ite_p (by decide) (ol_i (ob_i (r := 0) (σ := lkS 13 0 σ) (ol_i (ite_p (by decide) (ol_i ?_))) rfl)))))))))))))))
  show f_X0_becomeLike_v1_b25 (f_X0_becomeLike_v1_L25 999) (nI 0) _ = _
  refine ite_n (by decide) (ite_p (by decide) (ite_p (by decide) (ob_i (t0 0 (by decide) _ _) ?_)))
  show f_X0_becomeLike_v1_b25 (f_X0_becomeLike_v1_L25 998) (nI 1) _ = _
  refine ite_n (by decide) (ite_p (by decide) (ite_p (by decide) (ob_i (t0 1 (by decide) _ _) ?_)))
  show f_X0_becomeLike_v1_b25 (f_X0_becomeLike_v1_L25 997) (nI 2) _ = _
  refine ite_p (by decide) ?_
  unfold lkS
  rfl
theorem P_image {σ : St} (hI : Inv σ)  : ∃ (r : Int32) (σ1 σ2 : St), f_X6_image  σ = some (r, σ1) ∧ f_X7_image  σ1 = some (r, σ2) ∧ Inv σ2 := by
  obtain ⟨⟨N, z, wt, tx, hC, hM, hK⟩, h2, h3, h4, h5⟩ := id hI
  let s1 : St := st (lkS 0 13 σ) 0 7 (lkS 0 13 σ 0 7 + 1)
  have e1 : ∀ q, q ≠ 0 → (q < 14 ∨ 26 < q ∨ q = 17 ∨ q = 21) → s1 q = σ q := fun q h0 h => by
    show st (lkS 0 13 σ) 0 7 _ q = _
    rw [st_c h0, lkS_o (by omega)]
  obtain ⟨s2, g1, g2, g3, g4⟩ := m_copyL (a := 67) (b := 68) (by decide) rfl rfl LF 0 s1 (by decide) (by decide)
  have i0 : s1 0 7 = σ 0 7 + 1 := by
    show st (lkS 0 13 σ) 0 7 _ 0 7 = _
    rw [st_s, lkS_o (by omega)]
  have i2 : s2 66 2 = σ 0 7 := by rw [g2 _ (by decide), e1 _ (by decide) (by decide)]; exact h5.1.symm
  refine ⟨σ 0 7 + 1, s1, st s2 66 2 (s2 66 2 + 1), ?_, ?_, ?_⟩
  · refine ob_i c_like (ol_i ?_)
    show some (s1 0 7, s1) = _
    rw [i0]
  · refine ob_i g1 (ol_i ?_)
    rw [st_s, i2]
  · have e2 : ∀ q, q ≠ 0 → (q < 14 ∨ 26 < q ∨ q = 17 ∨ q = 21) → q ≠ 66 → q ≠ 68 → st s2 66 2 (s2 66 2 + 1) q = σ q := fun q h0 h h66 h68 => by
      rw [st_c h66, g2 q h68, e1 q h0 h]
    have e14 : st s2 66 2 (s2 66 2 + 1) 66 14 = σ 66 14 := by rw [st_k (by decide), g2 _ (by decide), e1 _ (by decide) (by decide)]
    refine ⟨⟨N, z, wt, tx, hC.fr (fun q hq => e2 q (by omega) (by omega) (by omega) (by omega)), hM.fr (e2 _ (by decide) (by decide) (by decide) (by decide)), hK⟩, h2.fr (e2 _ (by decide) (by decide) (by decide) (by decide)) (e2 _ (by decide) (by decide) (by decide) (by decide)), h3.fr (by rw [e2 _ (by decide) (by decide) (by decide) (by decide)]) e14 (e2 _ (by decide) (by decide) (by decide) (by decide)) (e2 _ (by decide) (by decide) (by decide) (by decide)), h4.fr (fun q hq => e2 q (by omega) (by omega) (by omega) (by omega)), ?_, fun _ => ⟨N, z, wt, tx, ?_, ?_, hK⟩⟩
    · rw [st_c (by decide), st_s, i2, g2 _ (by decide), i0]
    · refine (hC.lk hK (Or.inl ⟨rfl, rfl⟩)).fr (fun q hq => ?_)
      rw [st_c (by omega), g2 q (by omega)]
      show st (lkS 0 13 σ) 0 7 _ q = _
      rw [st_c (by omega)]
    · refine hM.cp hK (fun j hj => ?_)
      rw [st_c (by decide), g4 j (Nat.zero_le _) hj, e1 _ (by decide) (by decide)]
theorem P_restore {σ : St} (hI : Inv σ)  : ∃ (r : Int32) (σ1 σ2 : St), f_X6_restore  σ = some (r, σ1) ∧ f_X7_restore  σ1 = some (r, σ2) ∧ Inv σ2 := by
  obtain ⟨-, h2, h3, h4, h5⟩ := id hI
  by_cases h0 : σ 0 7 = 0
  · refine P_err (FC := f_X6_restore) (FM := f_X7_restore) (k := 2) hI (ite_p h0 (ob_i (p_failing (k := 2) (by decide)) rfl)) (ite_p ?_ (ob_i (p_error (k := 2) (by decide)) rfl))
    rw [eC_c (by decide), ← h5.1, h0]
  · obtain ⟨N, z, wt, tx, hC, hM, hK⟩ := h5.2 h0
    have e1 : ∀ q, (q < 1 ∨ 13 < q ∨ q = 4 ∨ q = 8) → lkS 13 0 σ q = σ q := fun q h => lkS_o (by omega)
    obtain ⟨s2, g1, g2, g3, g4⟩ := m_copyL (a := 68) (b := 67) (by decide) rfl rfl LF 0 (lkS 13 0 σ) (by decide) (by decide)
    have cv : CV 0 (lkS 13 0 σ) N z wt tx := hC.lk hK (Or.inr ⟨rfl, rfl⟩)
    have mv : MV 67 s2 N z wt tx := hM.cp hK (fun j hj => by rw [g4 j (Nat.zero_le _) hj, e1 _ (by decide)])
    refine ⟨nI (N 0 1), lkS 13 0 σ, s2, ite_n h0 (ob_i c_like1 ?_), ite_n ?_ (ob_i g1 (ite_p (inb_l (by decide) (by decide)) ?_)), ?_⟩
    · rw [cv.y]
    · rw [e1 _ (by decide), ← h5.1]; exact h0
    · rw [cl_lit (by decide), mv.y]
    · refine hI.main (fun q k hq => ?_) ⟨N, z, wt, tx, cv.fr (fun q hq => g2 q (by omega)), mv, hK⟩
      have : q ≠ 67 := by rintro rfl; revert hq; unfold mnP; simp
      rw [g2 q this, e1 q]
      unfold mnP at hq
      simp at hq
      omega
