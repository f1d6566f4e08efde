/-! The invariant's frames; errors -/
theorem CV.fr {o : Nat} {σ σ1 : St} {N : Nat → Nat → Nat} {z : Int32} {wt : Nat → Int32} {tx : Nat → Nat → Int32} (h : CV o σ N z wt tx) (e : ∀ q, (q = 1 + o ∨ q = 2 + o ∨ q = 3 + o ∨ q = 5 + o ∨ q = 6 + o ∨ q = 7 + o ∨ q = 9 + o ∨ q = 10 + o ∨ q = 11 + o ∨ q = 12 + o ∨ q = 13 + o) → σ1 q = σ q) : CV o σ1 N z wt tx := by
  obtain ⟨h1, h2, h3, h4, h5, h6, h7, h8, h9, h10⟩ := h
  refine ⟨?_, ?_, ?_, ?_, ?_, ?_, fun h hh => ?_, fun i hi => ?_, fun i hi => ?_, fun u hu => ⟨?_, fun j hj => ?_⟩⟩
  · rw [e _ (by omega)]; exact h1
  · rw [e _ (by omega)]; exact h2
  · rw [e _ (by omega)]; exact h3
  · rw [e _ (by omega)]; exact h4
  · rw [e _ (by omega)]; exact h5
  · rw [e _ (by omega)]; exact h6
  · rw [e _ (by omega), e _ (by omega), e _ (by omega), e _ (by omega)]; exact h7 h hh
  · rw [e _ (by omega)]; exact h8 i hi
  · rw [e _ (by omega)]; exact h9 i hi
  · rw [e _ (by omega)]; exact (h10 u hu).1
  · rw [e _ (by omega)]; exact (h10 u hu).2 j hj
theorem MV.fr {M : Nat} {σ σ1 : St} {N : Nat → Nat → Nat} {z : Int32} {wt : Nat → Int32} {tx : Nat → Nat → Int32} (h : MV M σ N z wt tx) (e : σ1 M = σ M) : MV M σ1 N z wt tx := by
  unfold MV
  rw [e]
  exact h
theorem IMain.fr {o M : Nat} {σ σ1 : St} (h : IMain o M σ) (e : ∀ q, (q = 1 + o ∨ q = 2 + o ∨ q = 3 + o ∨ q = 5 + o ∨ q = 6 + o ∨ q = 7 + o ∨ q = 9 + o ∨ q = 10 + o ∨ q = 11 + o ∨ q = 12 + o ∨ q = 13 + o) → σ1 q = σ q) (e2 : σ1 M = σ M) : IMain o M σ1 := by
  obtain ⟨N, z, wt, tx, h1, h2, h3⟩ := h
  exact ⟨N, z, wt, tx, h1.fr e, h2.fr e2, h3⟩
theorem IErr.fr {σ σ1 : St} (h : IErr σ) (e : σ1 65 = σ 65) (e2 : σ1 69 = σ 69) : IErr σ1 := fun k hk => by rw [e, e2]; exact h k hk
theorem ITra.fr {σ σ1 : St} (h : ITra σ) (e : σ1 55 1 = σ 55 1) (e2 : σ1 66 14 = σ 66 14) (e3 : σ1 56 = σ 56) (e4 : σ1 75 = σ 75) : ITra σ1 := by
  obtain ⟨t, h1, h2, h3, h4⟩ := h
  exact ⟨t, h1, by rw [e]; exact h2, by rw [e2]; exact h3, fun i hi => by rw [e3, e4]; exact h4 i hi⟩
theorem ISh.fr {σ σ1 : St} (h : ISh σ) (e : ∀ q, (59 ≤ q ∧ q ≤ 64) ∨ (76 ≤ q ∧ q ≤ 78) → σ1 q = σ q) : ISh σ1 := by
  obtain ⟨w, z, h⟩ := h
  refine ⟨w, z, fun s hs => ?_⟩
  rw [e 63 (by omega), e 76 (by omega), e 64 (by omega), e 77 (by omega), e 78 (by omega), e (59 + s) (by omega)]
  exact h s hs
theorem IImg.fr {σ σ1 : St} (h : IImg σ) (e : σ1 0 7 = σ 0 7) (e2 : σ1 66 2 = σ 66 2) (e3 : ∀ q, 14 ≤ q ∧ q ≤ 26 ∧ q ≠ 21 → σ1 q = σ q) (e4 : σ1 68 = σ 68) : IImg σ1 := by
  refine ⟨by rw [e, e2]; exact h.1, fun h0 => ?_⟩
  rw [e] at h0
  exact (h.2 h0).fr (fun q hq => e3 q (by omega)) e4
theorem Eqo.row {P : Nat → Nat → Bool} {σ σ1 : St} (h : Eqo P σ σ1) {q : Nat} (hq : ∀ k, P q k = false) : σ1 q = σ q := funext fun k => h q k (hq k)
theorem scr_f {q : Nat} (k : Nat) (h : (q ≤ 26 ∧ q ≠ 8 ∧ q ≠ 21) ∨ (56 ≤ q ∧ q ≤ 69 ∧ q ≠ 66) ∨ (75 ≤ q ∧ q ≤ 78)) : scr q k = false := by
  unfold scr
  have h1 : (q == 8) = false := by simp; omega
  have h2 : (q == 21) = false := by simp; omega
  have h3 : (decide (27 ≤ q) && decide (q ≤ 54)) = false := by simp; omega
  have h4 : (q == 55) = false := by simp; omega
  have h5 : (q == 66) = false := by simp; omega
  have h6 : (decide (70 ≤ q) && decide (q ≤ 74)) = false := by simp; omega
  have h7 : (q == 79) = false := by simp; omega
  rw [h1, h2, h3, h4, h5, h6, h7]
  rfl
theorem Inv.fr {σ σ1 : St} (h : Inv σ) (e : Eqo scr σ σ1) : Inv σ1 := by
  obtain ⟨h1, h2, h3, h4, h5⟩ := h
  have r : ∀ q, ((q ≤ 26 ∧ q ≠ 8 ∧ q ≠ 21) ∨ (56 ≤ q ∧ q ≤ 69 ∧ q ≠ 66) ∨ (75 ≤ q ∧ q ≤ 78)) → σ1 q = σ q := fun q hq => e.row (fun k => scr_f k hq)
  refine ⟨h1.fr (fun q hq => r q (by omega)) (r _ (by omega)), h2.fr (r _ (by omega)) (r _ (by omega)), h3.fr (e _ _ rfl) (e _ _ rfl) (r _ (by omega)) (r _ (by omega)), h4.fr (fun q hq => r q (by omega)), h5.fr (e _ _ rfl) (e _ _ rfl) (fun q hq => r q (by omega)) (r _ (by omega))⟩
/-- an error told: one more of its kind, on each side -/
def eC (k : Nat) (σ : St) : St := st σ 65 k (σ 65 k + 1)
def eM (k : Nat) (σ : St) : St := st σ 69 k (σ 69 k + 1)
theorem p_failing {σ : St} {k : Nat} (hk : k < 7) : f_X6_failing (nI k) σ = some ((-1000000000) - nI k, eC k σ) := by
  unfold f_X6_failing
  refine ite_n (nI_nn (by omega)) (ite_n (nI_ge (b := 7) hk (by decide)) ?_)
  refine ite_p (inb_i hk (by decide)) (ite_p (inb_i hk (by decide)) ?_)
  refine ol_i ?_
  rw [nI_clamp (by omega)]
  rfl
theorem p_error {σ : St} {k : Nat} (hk : k < 7) : f_X7_error (nI k) σ = some ((-1000000000) - nI k, eM k σ) := by
  unfold f_X7_error
  refine ite_p (inb_i hk (by decide)) (ite_p (inb_i hk (by decide)) ?_)
  refine ol_i ?_
  rw [nI_clamp (by omega)]
  rfl
/-- both sides tell the same error -/
theorem Inv.err {σ σ1 σ2 : St} {k : Nat} (h : Inv σ) (e : Eqo scr (eC k σ) σ1) (e2 : Eqo scr (eM k σ1) σ2) : Inv σ2 := by
  refine Inv.fr ?_ e2
  have e3 : Eqo scr (eM k (eC k σ)) (eM k σ1) := by
    intro q j hq
    unfold eM
    rw [st_e, st_e, e 69 k rfl, e q j hq]
  refine Inv.fr ?_ e3
  obtain ⟨h1, h2, h3, h4, h5⟩ := h
  have r : ∀ q, q ≠ 65 → q ≠ 69 → (eM k (eC k σ)) q = σ q := fun q a b => (st_c b).trans (st_c a)
  refine ⟨h1.fr (fun q hq => r q (by omega) (by omega)) (r _ (by omega) (by omega)), ?_, h3.fr (by rw [r _ (by omega) (by omega)]) (by rw [r _ (by omega) (by omega)]) (r _ (by omega) (by omega)) (r _ (by omega) (by omega)), h4.fr (fun q hq => r q (by omega) (by omega)), h5.fr (by rw [r _ (by omega) (by omega)]) (by rw [r _ (by omega) (by omega)]) (fun q hq => r q (by omega) (by omega)) (r _ (by omega) (by omega))⟩
  intro j hj
  unfold eM eC
  rw [st_e, st_e, st_e, st_e, st_e]
  by_cases hk : j = k
  · subst hk
    simp [h2 j hj]
  · simp [hk, h2 j hj]
/-- an Int32 is below 0 or a Nat -/
theorem i_or (x : Int32) : x < 0 ∨ ∃ j : Nat, j < 2 ^ 31 ∧ x = nI j := by
  by_cases h : x < 0
  · exact Or.inl h
  · exact Or.inr (nI_of h)
theorem t_lit {n : Nat} (h : n < 2 ^ 31) : (OfNat.ofNat n : Int32).toInt = (n : Int) := nI_toInt h
theorem eqo_1 {σ : St} {q k : Nat} {v : Int32} (h : scr q k = true) : Eqo scr σ (st σ q k v) := Eqo.st Eqo.rf h
