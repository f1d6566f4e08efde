/-! renumber: the reference's loop, and both -/
theorem m_rnL {N : Nat → Nat → Nat} {z : Int32} {wt : Nat → Int32} {tx : Nat → Nat → Int32} (hK : OKN N tx) {g : Nat} (hg1 : 1 ≤ g) (hg : g ≤ 50) : ∀ (f i : Nat) (σ : St), MV 67 σ (mcN N (fun j => if j < i then g * (N 4 j + 1) else N 3 j) (dnN (N 0 2) (sm (gpN N tx g) i))) z wt tx → i ≤ N 0 0 → N 0 0 < f + i → ∃ σ1, f_X7_renumbers_L4 f (nI g) (nI (sm (gpN N tx g) i)) (nI i) σ = some (nI (sm (gpN N tx g) (N 0 0)), σ1) ∧ MV 67 σ1 (mcN N (fun j => if j < N 0 0 then g * (N 4 j + 1) else N 3 j) (dnN (N 0 2) (sm (gpN N tx g) (N 0 0)))) z wt tx ∧ ∀ q, q ≠ 67 → q ≠ 71 → q ≠ 72 → σ1 q = σ q := by
  have h10 := hK.n
  intro f
  induction f with
  | zero => intro i σ h1 h2 h3; omega
  | succ f ih =>
    intro i σ h1 h2 h3
    have c5 : σ 67 (Int32.toNatClampNeg 5) = nI (N 0 0) := h1.n
    by_cases e : i = N 0 0
    · refine ⟨σ, ?_, by rw [← e]; exact h1, fun q _ _ _ => rfl⟩
      show f_X7_renumbers_b4 (f_X7_renumbers_L4 f) _ _ _ σ = _
      refine ite_p (inb_l (by decide) (by decide)) ?_
      rw [e, c5]
      exact ite_p (nI_le (by omega) (by omega)) rfl
    · have h4 := (hK.h (j := i) (by omega)).2.2.2.2.1
      have hb : g * (N 4 i + 1) ≤ 500 := Nat.le_trans (Nat.mul_le_mul hg (show N 4 i + 1 ≤ 10 by omega)) (by decide)
      have hK1 : OKN (mcN N (fun j => if j < i then g * (N 4 j + 1) else N 3 j) (dnN (N 0 2) (sm (gpN N tx g) i))) tx := hK.mc (fun j hj => by
        have h4j := (hK.h hj).2.2.2.2.1
        by_cases q : j < i
        · simp only [if_pos q]
          have a1 : g * (N 4 j + 1) ≤ 500 := Nat.le_trans (Nat.mul_le_mul hg (show N 4 j + 1 ≤ 10 by omega)) (by decide)
          have a2 : 1 * 1 ≤ g * (N 4 j + 1) := Nat.mul_le_mul hg1 (by omega)
          omega
        · simp only [if_neg q]
          exact ⟨(hK.h hj).2.2.1, (hK.h hj).2.2.2.1⟩) hK.d
      obtain ⟨σ1, g1, g2, g3⟩ := m_gets h1 hK1 (h := i) (v := g * (N 4 i + 1)) (show i < N 0 0 by omega) (by omega)
      have eh : hmN (mcN N (fun j => if j < i then g * (N 4 j + 1) else N 3 j) (dnN (N 0 2) (sm (gpN N tx g) i))) tx i (g * (N 4 i + 1)) = gpN N tx g i := by
        rw [mc_hm (by exact if_neg (by omega))]
        rfl
      rw [eh] at g1 g2
      rw [mc_gt, show mcN N (fun j => if j < i then g * (N 4 j + 1) else N 3 j) (dnN (N 0 2) (sm (gpN N tx g) i)) 0 2 = dnN (N 0 2) (sm (gpN N tx g) i) from rfl, dn_a] at g2
      have eL : (fun j => if j = i then g * (N 4 i + 1) else if j < i then g * (N 4 j + 1) else N 3 j) = (fun j => if j < i + 1 then g * (N 4 j + 1) else N 3 j) := by
        funext j
        by_cases q : j = i
        · rw [if_pos q, q, if_pos (by omega)]
        · rw [if_neg q]
          by_cases q3 : j < i
          · rw [if_pos q3, if_pos (by omega)]
          · rw [if_neg q3, if_neg (by omega)]
      rw [eL] at g2
      obtain ⟨σ2, f1, f2, f3⟩ := ih (i + 1) σ1 g2 (by omega) (by omega)
      refine ⟨σ2, ?_, f2, fun q q1 q2 q3 => by rw [f3 q q1 q2 q3, g3 q q1 q2 q3]⟩
      show f_X7_renumbers_b4 (f_X7_renumbers_L4 f) _ _ _ σ = _
      refine ite_p (inb_l (by decide) (by decide)) ?_
      rw [c5]
      refine ite_n (nI_ge (by omega) (by omega)) (ob_i (m_its (w := 3) (by omega) (by decide)) ?_)
      rw [show 8 + 4 * i + 3 = 11 + 4 * i by omega, show σ 67 (11 + 4 * i) = nI (N 4 i) from h1.pc (show i < N 0 0 by omega), nI_1, pk_mul, nI_1]
      refine ob_i g1 ?_
      rw [nI_add]
      exact f1
theorem P_renumber {σ : St} (hI : Inv σ) (x0 : Int32) : ∃ (r : Int32) (σ1 σ2 : St), f_X6_renumber x0 σ = some (r, σ1) ∧ f_X7_renumber x0 σ1 = some (r, σ2) ∧ Inv σ2 := by
  obtain ⟨⟨N, z, wt, tx, hC, hM, hK⟩, -⟩ := id hI
  have h10 := hK.n
  have hd := hK.d
  by_cases hv : isR 1 51 x0
  · obtain ⟨g, hg1, hg2, rfl⟩ := id hv
    have d0 : dnN (N 0 2) 0 = N 0 2 := by unfold dnN; split <;> omega
    have z1 : mcN N (fun j => if N 4 j < 0 then g * (N 4 j + 1) else N 3 j) (dnN (N 0 2) 0) = N := by
      rw [d0, show (fun j => if N 4 j < 0 then g * (N 4 j + 1) else N 3 j) = N 3 from funext fun j => if_neg (by omega)]
      exact mc_0
    have z2 : mcN N (fun j => if j < 0 then g * (N 4 j + 1) else N 3 j) (dnN (N 0 2) 0) = N := by
      rw [d0, show (fun j => if j < 0 then g * (N 4 j + 1) else N 3 j) = N 3 from funext fun j => if_neg (by omega)]
      exact mc_0
    obtain ⟨σ1, g1, g2, g3⟩ := c_rnL (z := z) (wt := wt) hK hg1 (show g ≤ 50 by omega) LF 0 σ (by rw [show sm (fun p => gpN N tx g (N 5 p)) 0 = 0 from rfl, z1]; exact hC) (Nat.zero_le _) (by unfold LF; omega)
    have hM1 : MV 67 σ1 N z wt tx := hM.fr (g3 _ (by decide) (by decide) (by decide))
    obtain ⟨σ2, f1, f2, f3⟩ := m_rnL (z := z) (wt := wt) hK hg1 (show g ≤ 50 by omega) LF 0 σ1 (by rw [show sm (gpN N tx g) 0 = 0 from rfl, z2]; exact hM1) (Nat.zero_le _) (by unfold LF; omega)
    rw [sm_p hK (gpN N tx g)] at g1 g2
    refine ⟨_, σ1, σ2, ite_n (nI_nlt (b := 1) hg1 (by omega)) (ite_p (nI_le (b := 50) (by omega) (by decide)) (ob_i g1 rfl)), ob_i (isGap_t hv) (ite_n (by decide) (ob_i f1 rfl)), ?_⟩
    refine hI.main (fun q k hq => ?_) ⟨_, z, wt, tx, ?_, f2, hK.mc (fun j hj => ?_) hd⟩
    · rw [f3 q, g3 q] <;> (rintro rfl; revert hq; unfold mnP scr; simp)
    · obtain ⟨c1, c2, c3, c4, c5, c6, c7, c8⟩ := g2.fr (fun q hq => f3 q (by omega) (by omega) (by omega))
      refine ⟨c1, c2, c3, c4, c5, c6, fun j hj => ?_, c8⟩
      obtain ⟨d1, d2, d3, d4⟩ := c7 j hj
      refine ⟨d1, d2, d3.trans (congrArg nI ?_), d4⟩
      have hj2 : j < N 0 0 := hj
      show (if N 4 j < N 0 0 then g * (N 4 j + 1) else N 3 j) = if j < N 0 0 then g * (N 4 j + 1) else N 3 j
      rw [if_pos (hK.h hj2).2.2.2.2.1, if_pos hj2]
    · have h4j := (hK.h hj).2.2.2.2.1
      simp only [if_pos hj]
      have a1 : g * (N 4 j + 1) ≤ 500 := Nat.le_trans (Nat.mul_le_mul (show g ≤ 50 by omega) (show N 4 j + 1 ≤ 10 by omega)) (by decide)
      have a2 : 1 * 1 ≤ g * (N 4 j + 1) := Nat.mul_le_mul hg1 (by omega)
      omega
  · refine P_err (FC := f_X6_renumber x0) (FM := f_X7_renumber x0) (k := 1) hI ?_ (ob_i (isGap_f hv) (ite_p rfl (ob_i (p_error (k := 1) (by decide)) rfl)))
    unfold f_X6_renumber
    rw [isR_iff (by decide)] at hv
    by_cases h0 : x0 < 1
    · exact ite_p h0 (ob_i (p_failing (k := 1) (by decide)) rfl)
    · refine ite_n h0 (ite_n ?_ (ob_i (p_failing (k := 1) (by decide)) rfl))
      rw [f_lt, show (1 : Int32).toInt = 1 from rfl] at h0
      rw [f_le, show (50 : Int32).toInt = 50 from rfl]
      omega
