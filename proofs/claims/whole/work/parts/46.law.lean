/-! law -/
/-- three numbers -/
def e3 (a b c : Int32) : Nat → Int32
  | 0 => a
  | 1 => b
  | _ => c
section TOLD
variable {N : Nat → Nat → Nat} {z : Int32} {wt : Nat → Int32} {tx : Nat → Nat → Int32} {σ : St}
theorem m_told0 (hM : MV 67 σ N z wt tx) (hK : OKN N tx) (a b c : Int32) : ∃ σ1, f_X7_harmTold a b c σ = some (gvI 0 (N 7 0) (tx 0) (e3 a b c), σ1) ∧ ∀ q, q ≠ 71 → q ≠ 72 → σ1 q = σ q := by
  have hM1 : MV 67 (st (st (st σ 71 104 a) 71 121 b) 71 111 c) N z wt tx := hM.fr (by rw [st_c (by decide), st_c (by decide), st_c (by decide)])
  have fr : ∀ q, q ≠ 71 → st (st (st σ 71 104 a) 71 121 b) 71 111 c q = σ q := fun q hq => by rw [st_c hq, st_c hq, st_c hq]
  have ht := m_hasText (u := 0) hM1 hK (by decide)
  have base : ∀ y, (ob (f_X7_hasText 0 (st (st (st σ 71 104 a) 71 121 b) 71 111 c)) fun r7 σ7 => if r7 = 0 then ob (f_X7_held a 0 999 σ7) fun r8 σ8 => some (r8, σ8) else ob (f_X7_worked 0 σ7) fun r9 σ9 => ob (f_X7_held r9 0 999 σ9) fun r10 σ10 => some (r10, σ10)) = y → f_X7_harmTold a b c σ = y := fun y hy => ite_p (inb_l (by decide) (by decide)) (ol_i (ite_p (inb_l (by decide) (by decide)) (ol_i (ite_p (inb_l (by decide) (by decide)) (ol_i hy)))))
  unfold gvI
  rw [if_pos rfl]
  by_cases h0 : N 7 0 = 0
  · rw [if_pos h0] at ht ⊢
    exact ⟨_, base _ (ob_i ht (ite_p rfl (ob_i (m_held _ _ _ _) rfl))), fun q h1 _ => fr q h1⟩
  · rw [if_neg h0] at ht ⊢
    obtain ⟨σ1, g1, g2⟩ := m_work (u := 0) hM1 hK (by decide) h0 (e3 a b c) (fun i hi => by
      rcases (show i = 0 ∨ i = 1 ∨ i = 2 by omega) with rfl | rfl | rfl
      · show st (st (st σ 71 104 a) 71 121 b) 71 111 c 71 104 = a
        rw [st_k (by decide), st_k (by decide), st_s]
      · show st (st (st σ 71 104 a) 71 121 b) 71 111 c 71 121 = b
        rw [st_k (by decide), st_s]
      · exact st_s)
    exact ⟨σ1, base _ (ob_i ht (ite_n (by decide) (ob_i g1 (ob_i (m_held _ _ _ _) rfl)))), fun q h1 h2 => by rw [g2 q h2, fr q h1]⟩
theorem m_told1 (hM : MV 67 σ N z wt tx) (hK : OKN N tx) (a b c : Int32) : ∃ σ1, f_X7_yardsTold a b c σ = some (gvI 1 (N 7 1) (tx 1) (e3 a b c), σ1) ∧ ∀ q, q ≠ 71 → q ≠ 72 → σ1 q = σ q := by
  have hM1 : MV 67 (st (st (st σ 71 121 a) 71 98 b) 71 115 c) N z wt tx := hM.fr (by rw [st_c (by decide), st_c (by decide), st_c (by decide)])
  have fr : ∀ q, q ≠ 71 → st (st (st σ 71 121 a) 71 98 b) 71 115 c q = σ q := fun q hq => by rw [st_c hq, st_c hq, st_c hq]
  have ht := m_hasText (u := 1) hM1 hK (by decide)
  have base : ∀ y, (ob (f_X7_hasText 1 (st (st (st σ 71 121 a) 71 98 b) 71 115 c)) fun r7 σ7 => if r7 = 0 then ob (f_X7_held a 1 99 σ7) fun r8 σ8 => some (r8, σ8) else ob (f_X7_worked 1 σ7) fun r9 σ9 => ob (f_X7_held r9 1 99 σ9) fun r10 σ10 => some (r10, σ10)) = y → f_X7_yardsTold a b c σ = y := fun y hy => ite_p (inb_l (by decide) (by decide)) (ol_i (ite_p (inb_l (by decide) (by decide)) (ol_i (ite_p (inb_l (by decide) (by decide)) (ol_i hy)))))
  unfold gvI
  rw [if_neg (show ¬ 1 = 0 by decide)]
  by_cases h0 : N 7 1 = 0
  · rw [if_pos h0] at ht ⊢
    exact ⟨_, base _ (ob_i ht (ite_p rfl (ob_i (m_held _ _ _ _) rfl))), fun q h1 _ => fr q h1⟩
  · rw [if_neg h0] at ht ⊢
    obtain ⟨σ1, g1, g2⟩ := m_work (u := 1) hM1 hK (by decide) h0 (e3 a b c) (fun i hi => by
      rcases (show i = 0 ∨ i = 1 ∨ i = 2 by omega) with rfl | rfl | rfl
      · show st (st (st σ 71 121 a) 71 98 b) 71 115 c 71 121 = a
        rw [st_k (by decide), st_k (by decide), st_s]
      · show st (st (st σ 71 121 a) 71 98 b) 71 115 c 71 98 = b
        rw [st_k (by decide), st_s]
      · exact st_s)
    exact ⟨σ1, base _ (ob_i ht (ite_n (by decide) (ob_i g1 (ob_i (m_held _ _ _ _) rfl)))), fun q h1 h2 => by rw [g2 q h2, fr q h1]⟩
end TOLD
theorem scr8 {σ σ1 : St} (h : ∀ q, q ≠ 8 → σ1 q = σ q) : Eqo scr σ σ1 := fun q k hq => by
  rw [h q]
  rintro rfl
  revert hq
  unfold scr
  simp
theorem scr7172 {σ σ1 : St} (h : ∀ q, q ≠ 71 → q ≠ 72 → σ1 q = σ q) : Eqo scr σ σ1 := fun q k hq => by
  rw [h q] <;> (rintro rfl; revert hq; unfold scr; simp)
theorem P_law {σ : St} (hI : Inv σ) (x0 : Int32) (x1 : Int32) (x2 : Int32) (x3 : Int32) : ∃ (r : Int32) (σ1 σ2 : St), f_X6_law x0 x1 x2 x3 σ = some (r, σ1) ∧ f_X7_law x0 x1 x2 x3 σ1 = some (r, σ2) ∧ Inv σ2 := by
  obtain ⟨⟨N, z, wt, tx, hC, hM, hK⟩, -⟩ := id hI
  by_cases hv : isR 0 2 x0
  · obtain ⟨u, -, hu, rfl⟩ := id hv
    obtain ⟨σ1, g1, g2⟩ := c_give hC hK hu (e3 x1 x2 x3)
    have hM1 : MV 67 σ1 N z wt tx := hM.fr (g2 _ (by decide))
    have cc : f_X6_law (nI u) x1 x2 x3 σ = some (gvI u (N 7 u) (tx u) (e3 x1 x2 x3), σ1) := ob_i (isUse_t hv) (ite_n (by decide) (ob_i g1 rfl))
    rcases (show u = 0 ∨ u = 1 by omega) with rfl | rfl
    · obtain ⟨σ2, f1, f2⟩ := m_told0 hM1 hK x1 x2 x3
      exact ⟨_, σ1, σ2, cc, ob_i (in_t hv (by decide) rfl rfl) (ite_n (by decide) (ite_p rfl (ob_i f1 rfl))), (hI.fr (scr8 g2)).fr (scr7172 f2)⟩
    · obtain ⟨σ2, f1, f2⟩ := m_told1 hM1 hK x1 x2 x3
      exact ⟨_, σ1, σ2, cc, ob_i (in_t hv (by decide) rfl rfl) (ite_n (by decide) (ite_n (by decide) (ob_i f1 rfl))), (hI.fr (scr8 g2)).fr (scr7172 f2)⟩
  · exact P_err (FC := f_X6_law x0 x1 x2 x3) (FM := f_X7_law x0 x1 x2 x3) (k := 1) hI (ob_i (isUse_f hv) (ite_p rfl (ob_i (p_failing (k := 1) (by decide)) rfl))) (ob_i (in_f hv (by decide) rfl rfl) (ite_p rfl (ob_i (p_error (k := 1) (by decide)) rfl)))
