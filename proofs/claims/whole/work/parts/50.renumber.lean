/-! renumber -/
/-- DONE d and plates L -/
def mcN (N : Nat → Nat → Nat) (L : Nat → Nat) (d : Nat) : Nat → Nat → Nat := hsN (uN (uN N 0 1 (N 0 1)) 0 2 d) (N 1) (N 2) L
theorem mc_gt {N : Nat → Nat → Nat} {L : Nat → Nat} {d h v d' : Nat} : gtN (mcN N L d) h v d' = mcN N (fun j => if j = h then v else L j) d' := by
  funext a b
  match a with
  | 0 =>
    show uN (uN (mcN N L d) 0 1 (mcN N L d 0 1)) 0 2 d' 0 b = uN (uN N 0 1 (N 0 1)) 0 2 d' 0 b
    rw [uN_id, uN_id]
    by_cases e : b = 2
    · rw [e, uN_s, uN_s]
    · rw [uN_n (by omega), uN_n (by omega)]
      show uN (uN N 0 1 (N 0 1)) 0 2 d 0 b = _
      rw [uN_id, uN_n (by omega)]
  | 1 => rfl
  | 2 => rfl
  | 3 => rfl
  | a + 4 =>
    show uN (uN (mcN N L d) 0 1 (mcN N L d 0 1)) 0 2 d' (a + 4) b = uN (uN N 0 1 (N 0 1)) 0 2 d' (a + 4) b
    rw [uN_id, uN_id, uN_n (by omega), uN_n (by omega)]
    show uN (uN N 0 1 (N 0 1)) 0 2 d (a + 4) b = _
    rw [uN_id, uN_n (by omega)]
theorem mc_0 {N : Nat → Nat → Nat} : mcN N (N 3) (N 0 2) = N := by
  funext a b
  unfold mcN
  rw [uN_id, uN_id]
  match a with
  | 0 => rfl
  | 1 => rfl
  | 2 => rfl
  | 3 => rfl
  | a + 4 => rfl
theorem mc_hm {N : Nat → Nat → Nat} {tx : Nat → Nat → Int32} {L : Nat → Nat} {d h v : Nat} (hL : L h = N 3 h) : hmN (mcN N L d) tx h v = hmN N tx h v := by
  have e : hmI (mcN N L d) tx h v = (if v = L h then 0 else gvI 0 (N 7 0) (tx 0) (e3 (nI (mdN (N 1 h) (N 2 h) (L h) v)) (nI (N 0 1 % 7)) (nI (L h)))) := rfl
  unfold hmN
  rw [e, hL]
  rfl
theorem dn_a {D a b : Nat} : dnN (dnN D a) b = dnN D (a + b) := by
  unfold dnN
  split <;> split <;> split <;> omega
section RN
variable {N : Nat → Nat → Nat} {z : Int32} {wt : Nat → Int32} {tx : Nat → Nat → Int32}
theorem OKN.mc (hK : OKN N tx) {L : Nat → Nat} {D a : Nat} (hL : ∀ j, j < N 0 0 → 1 ≤ L j ∧ L j ≤ 999) (hD : D ≤ 99999) : OKN (mcN N L (dnN D a)) tx :=
  (hK.sc (y := N 0 1) (d := dnN D a) hK.y (by unfold dnN; split <;> omega)).hs (fun j hj => ⟨(hK.h (j := j) hj).1, (hK.h (j := j) hj).2.1, hL j hj⟩)
theorem c_rnL (hK : OKN N tx) {g : Nat} (hg1 : 1 ≤ g) (hg : g ≤ 50) : ∀ (f i : Nat) (σ : St), CV 0 σ (mcN N (fun j => if N 4 j < i then g * (N 4 j + 1) else N 3 j) (dnN (N 0 2) (sm (fun p => gpN N tx g (N 5 p)) i))) z wt tx → i ≤ N 0 0 → N 0 0 < f + i → ∃ σ1, f_X3_renumberBy_L4 f (nI g) (nI (sm (fun p => gpN N tx g (N 5 p)) i)) (nI i) σ = some (nI (sm (fun p => gpN N tx g (N 5 p)) (N 0 0)), σ1) ∧ CV 0 σ1 (mcN N (fun j => if N 4 j < N 0 0 then g * (N 4 j + 1) else N 3 j) (dnN (N 0 2) (sm (fun p => gpN N tx g (N 5 p)) (N 0 0)))) z wt tx ∧ ∀ q, q ≠ 1 → q ≠ 8 → q ≠ 11 → σ1 q = σ q := by
  have h10 := hK.n
  intro f
  induction f with
  | zero => intro i σ h1 h2 h3; omega
  | succ f ih =>
    intro i σ h1 h2 h3
    have hn : σ 1 1 = nI (N 0 0) := h1.n
    by_cases e : i = N 0 0
    · refine ⟨σ, ?_, by rw [← e]; exact h1, fun q _ _ _ => rfl⟩
      show f_X3_renumberBy_b4 (f_X3_renumberBy_L4 f) _ _ _ σ = _
      unfold f_X3_renumberBy_b4
      rw [e, hn]
      exact ite_p (nI_le (by omega) (by omega)) rfl
    · obtain ⟨-, -, -, -, -, h5, -, h45⟩ := hK.h (j := i) (by omega)
      have hb : g * (i + 1) ≤ 500 := Nat.le_trans (Nat.mul_le_mul hg (show i + 1 ≤ 10 by omega)) (by decide)
      have hK1 : OKN (mcN N (fun j => if N 4 j < i then g * (N 4 j + 1) else N 3 j) (dnN (N 0 2) (sm (fun p => gpN N tx g (N 5 p)) i))) tx := hK.mc (fun j hj => by
        by_cases q : N 4 j < i
        · simp only [if_pos q]
          have a1 : g * (N 4 j + 1) ≤ 500 := Nat.le_trans (Nat.mul_le_mul hg (show N 4 j + 1 ≤ 10 by omega)) (by decide)
          have a2 : 1 * 1 ≤ g * (N 4 j + 1) := Nat.mul_le_mul hg1 (by omega)
          omega
        · simp only [if_neg q]
          exact ⟨(hK.h hj).2.2.1, (hK.h hj).2.2.2.1⟩) hK.d
      obtain ⟨σ1, g1, g2, g3⟩ := c_gets h1 hK1 (h := N 5 i) (v := g * (i + 1)) h5 (by omega)
      have eh : hmN (mcN N (fun j => if N 4 j < i then g * (N 4 j + 1) else N 3 j) (dnN (N 0 2) (sm (fun p => gpN N tx g (N 5 p)) i))) tx (N 5 i) (g * (i + 1)) = gpN N tx g (N 5 i) := by
        rw [mc_hm (by simp only [h45]; exact if_neg (by omega))]
        unfold gpN
        rw [h45]
      rw [eh] at g1 g2
      rw [mc_gt, show mcN N (fun j => if N 4 j < i then g * (N 4 j + 1) else N 3 j) (dnN (N 0 2) (sm (fun p => gpN N tx g (N 5 p)) i)) 0 2 = dnN (N 0 2) (sm (fun p => gpN N tx g (N 5 p)) i) from rfl, dn_a] at g2
      have eL : mcN N (fun j => if j = N 5 i then g * (i + 1) else if N 4 j < i then g * (N 4 j + 1) else N 3 j) (dnN (N 0 2) (sm (fun p => gpN N tx g (N 5 p)) i + gpN N tx g (N 5 i))) = mcN N (fun j => if j = N 5 i then g * (i + 1) else if N 4 j < i then g * (N 4 j + 1) else N 3 j) (dnN (N 0 2) (sm (fun p => gpN N tx g (N 5 p)) (i + 1))) := rfl
      rw [eL] at g2
      obtain ⟨σ2, f1, f2, f3⟩ := ih (i + 1) σ1 (by
        obtain ⟨c1, c2, c3, c4, c5, c6, c7, c8⟩ := g2
        refine ⟨c1, c2, c3, c4, c5, c6, fun j hj => ?_, c8⟩
        obtain ⟨d1, d2, d3, d4⟩ := c7 j hj
        refine ⟨d1, d2, d3.trans (congrArg nI ?_), d4⟩
        show (if j = N 5 i then g * (i + 1) else if N 4 j < i then g * (N 4 j + 1) else N 3 j) = if N 4 j < i + 1 then g * (N 4 j + 1) else N 3 j
        have k1 := (hK.h (j := j) hj).2.2.2.2.2.2.1
        by_cases q : j = N 5 i
        · rw [if_pos q, q, h45, if_pos (by omega)]
        · rw [if_neg q]
          have : N 4 j ≠ i := fun q2 => q (by rw [← q2, k1])
          by_cases q3 : N 4 j < i
          · rw [if_pos q3, if_pos (by omega)]
          · rw [if_neg q3, if_neg (by omega)]) (by omega) (by omega)
      refine ⟨σ2, ?_, f2, fun q q1 q2 q3 => by rw [f3 q q1 q2 q3, g3 q q1 q2 q3]⟩
      show f_X3_renumberBy_b4 (f_X3_renumberBy_L4 f) _ _ _ σ = _
      unfold f_X3_renumberBy_b4
      rw [hn]
      refine ite_n (nI_ge (by omega) (by omega)) (ob_i (c_houseAt hn h10 (by omega)) ?_)
      rw [show σ 12 i = nI (N 5 i) from h1.rw (show i < N 0 0 by omega), nI_1, pk_mul]
      refine ob_i g1 ?_
      rw [nI_add]
      exact f1
end RN
