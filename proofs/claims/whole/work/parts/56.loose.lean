/-! loose -/
def rwN (N : Nat → Nat → Nat) (tx : Nat → Nat → Int32) : Nat → Nat → Nat := mcN N (fun j => 10 * (N 4 j + 1)) (dnN (N 0 2) (sm (gpN N tx 10) (N 0 0)))
def yrN (N : Nat → Nat → Nat) (y : Nat) : Nat → Nat → Nat := uN (uN N 0 1 y) 0 2 (N 0 2)
theorem ushr8 (x : Int32) : ∃ a : Nat, a < 2 ^ 24 ∧ iushr x 8 = nI a := by
  have h := pk_ushr x 8 8 (by decide)
  refine ⟨x.toBitVec.toNat / 2 ^ 8, ?_, ?_⟩
  · have := x.toBitVec.isLt
    omega
  · unfold iushr
    apply Int32.toBitVec_inj.mp
    apply BitVec.eq_of_toNat_eq
    rw [h, pk_tn (by have := x.toBitVec.isLt; omega)]
section LO
variable {N : Nat → Nat → Nat} {z : Int32} {wt : Nat → Int32} {tx : Nat → Nat → Int32}
theorem OKN.rw10 (hK : OKN N tx) : OKN (rwN N tx) tx := hK.mc (fun j hj => by
  have := (hK.h hj).2.2.2.2.1
  have := hK.n
  omega) hK.d
theorem c_rw (hK : OKN N tx) {σ : St} (hC : CV 0 σ N z wt tx) : ∃ (r : Int32) (σ1 : St), f_X3_renumberBy 10 σ = some (r, σ1) ∧ CV 0 σ1 (rwN N tx) z wt tx ∧ ∀ q, q ≠ 1 → q ≠ 8 → q ≠ 11 → σ1 q = σ q := by
  have h10 := hK.n
  have hd := hK.d
  have d0 : dnN (N 0 2) 0 = N 0 2 := by unfold dnN; split <;> omega
  have z1 : mcN N (fun j => if N 4 j < 0 then 10 * (N 4 j + 1) else N 3 j) (dnN (N 0 2) 0) = N := by
    rw [d0, show (fun j => if N 4 j < 0 then 10 * (N 4 j + 1) else N 3 j) = N 3 from funext fun j => if_neg (by omega)]
    exact mc_0
  obtain ⟨σ1, g1, g2, g3⟩ := c_rnL (z := z) (wt := wt) hK (g := 10) (by decide) (by decide) LF 0 σ (by rw [show sm (fun p => gpN N tx 10 (N 5 p)) 0 = 0 from rfl, z1]; exact hC) (Nat.zero_le _) (by unfold LF; omega)
  rw [sm_p hK (gpN N tx 10)] at g1 g2
  refine ⟨_, σ1, g1, ?_, g3⟩
  obtain ⟨c1, c2, c3, c4, c5, c6, c7, c8⟩ := g2
  refine ⟨c1, c2, c3, c4, c5, c6, fun j hj => ?_, c8⟩
  obtain ⟨d1, d2, d3, d4⟩ := c7 j hj
  refine ⟨d1, d2, d3.trans (congrArg nI ?_), d4⟩
  have hj2 : j < N 0 0 := hj
  show (if N 4 j < N 0 0 then 10 * (N 4 j + 1) else N 3 j) = 10 * (N 4 j + 1)
  rw [if_pos (hK.h hj2).2.2.2.2.1]
theorem m_rw (hK : OKN N tx) {σ : St} (hM : MV 67 σ N z wt tx) : ∃ (r : Int32) (σ1 : St), f_X7_renumbers 10 σ = some (r, σ1) ∧ MV 67 σ1 (rwN N tx) z wt tx ∧ ∀ q, q ≠ 67 → q ≠ 71 → q ≠ 72 → σ1 q = σ q := by
  have h10 := hK.n
  have hd := hK.d
  have d0 : dnN (N 0 2) 0 = N 0 2 := by unfold dnN; split <;> omega
  have z2 : mcN N (fun j => if j < 0 then 10 * (N 4 j + 1) else N 3 j) (dnN (N 0 2) 0) = N := by
    rw [d0, show (fun j => if j < 0 then 10 * (N 4 j + 1) else N 3 j) = N 3 from funext fun j => if_neg (by omega)]
    exact mc_0
  obtain ⟨σ2, f1, f2, f3⟩ := m_rnL (z := z) (wt := wt) hK (g := 10) (by decide) (by decide) LF 0 σ (by rw [show sm (gpN N tx 10) 0 = 0 from rfl, z2]; exact hM) (Nat.zero_le _) (by unfold LF; omega)
  refine ⟨_, σ2, f1, ?_, f3⟩
  obtain ⟨c1, c2, c3, c4, c5, c6, c7, c8⟩ := f2
  refine ⟨c1, c2, c3, c4, c5, c6, fun j hj => ?_, c8⟩
  obtain ⟨d1, d2, d3, d4⟩ := c7 j hj
  refine ⟨d1, d2, d3.trans (congrArg nI ?_), d4⟩
  have hj2 : j < N 0 0 := hj
  show (if j < N 0 0 then 10 * (N 4 j + 1) else N 3 j) = 10 * (N 4 j + 1)
  rw [if_pos hj2]
theorem btw_rw (hK : OKN N tx) {p : Nat} (hp : p ≤ N 0 0) : btwN (rwN N tx) p ≠ -1 := by
  have h10 := hK.n
  have e1 : lowN (rwN N tx) p = 10 * p := by
    by_cases h0 : p = 0
    · rw [h0]; rfl
    · rw [show lowN (rwN N tx) p = 10 * (N 4 (N 5 (p - 1)) + 1) from if_neg h0, (hK.h (j := p - 1) (by omega)).2.2.2.2.2.2.2]
      omega
  have e2 : 10 * p + 2 ≤ hghN (rwN N tx) p := by
    by_cases h0 : p = N 0 0
    · rw [show hghN (rwN N tx) p = 1000 from if_pos h0]; omega
    · rw [show hghN (rwN N tx) p = 10 * (N 4 (N 5 p) + 1) from if_neg h0, (hK.h (j := p) (by omega)).2.2.2.2.2.2.2]
      omega
  have hb := hghN_b hK.rw10 (p := p) hp
  unfold btwN
  rw [if_pos (by rw [e1]; exact e2)]
  intro q
  refine neg1_ne ?_ q.symm
  split <;> omega
theorem c_b53 {p k v : Nat} {σ : St} (hC : CV 0 σ N z wt tx) (hK : OKN N tx) (hn : N 0 0 < 10) (hp : p ≤ N 0 0) (hb : btwN N p = nI v) : ∃ σ1, f_X3_passYearByDraws_b53 (nI p) (nI k) (nI (N 0 0)) σ = some (1, σ1) ∧ CV 0 σ1 (yrN (bdN N p k 0 v) (N 0 1 + 1)) z wt tx ∧ ∀ q, q ≠ 12 → q ≠ 1 → q ≠ 9 → q ≠ 10 → q ≠ 11 → σ1 q = σ q := by
  obtain ⟨σ1, g1, g2, -, g4⟩ := c_add (k := k) (m := 0) (v := v) hC hK hn hp
  have e1 : σ1 1 1 = nI (N 0 0 + 1) := g2.n
  have e2 : σ1 1 2 = nI (N 0 1) := g2.y
  have e3' : σ1 1 3 = nI (N 0 2) := g2.d
  have e4 : σ1 1 4 = z := g2.z
  refine ⟨st σ1 1 2 (σ1 1 2 + 1), ob_i (c_between hC hK hp) ?_, ?_, fun q q1 q2 q3 q4 q5 => by rw [st_c q2, g4 q q1 q2 q3 q4 q5]⟩
  · rw [hb]
    refine ob_i g1 (ol_i ?_)
    rw [st_k (by decide), e1, pk_sub (by omega), show N 0 0 + 1 - N 0 0 = 1 by omega]
    rfl
  · exact g2.sc (y := N 0 1 + 1) (d := N 0 2) (fun q q1 q2 q3 => st_c (by omega)) (st_k (by decide)) (st_k (by decide)) (by rw [st_s, e2, nI_1]) (by rw [st_k (by decide), e3']) (by rw [st_k (by decide), e4])
theorem m_b60' {p k v : Nat} {σ : St} (hM : MV 67 σ N z wt tx) (hK : OKN N tx) (hn : N 0 0 < 10) (hp : p ≤ N 0 0) (hk : k < 7) (hb : btwN N p = nI v) : ∃ σ1, f_X7_buildsOne_b60 (nI p) (nI k) 1 σ = some (1, σ1) ∧ MV 67 σ1 (yrN (bdN N p k 0 v) (N 0 1 + 1)) z wt tx ∧ ∀ q, q ≠ 67 → σ1 q = σ q := by
  have ex : (10 * nI k : Int32) = nI (10 * k) := pk_mul 10 k
  obtain ⟨σ1, g1, g2, g3⟩ := m_comes (k := k) (m := 0) (v := v) (x := 10 * nI k) hM hK hn (by rw [ex, show nI (10 * k) / 10 = nI (10 * k / 10) from pk_div (d := 10) (by omega) (by decide) (by decide), show 10 * k / 10 = k by omega]) (by rw [ex, show irm (nI (10 * k)) 10 = nI (10 * k % 10) from irm_nI (d := 10) (by omega) (by decide) (by decide), show 10 * k % 10 = 0 by omega]) hp
  have e2 : σ1 67 0 = nI (N 0 1) := g2.y
  have e3' : σ1 67 1 = nI (N 0 2) := g2.d
  have e4 : σ1 67 2 = z := g2.z
  refine ⟨st σ1 67 0 (σ1 67 0 + 1), ite_n (by decide) (ob_i (m_between hM hK hp) ?_), ?_, fun q q1 => by rw [st_c q1, g3 q q1]⟩
  · rw [hb]
    exact ob_i g1 (ite_p (inb_l (by decide) (by decide)) (ite_p (inb_l (by decide) (by decide)) (ol_i (ite_p (Or.inr rfl) rfl))))
  · exact g2.sc (y := N 0 1 + 1) (d := N 0 2) (fun q q1 => st_k (by omega)) (by rw [st_s, e2, nI_1]) (by rw [st_k (by decide), e3']) (by rw [st_k (by decide), e4])
theorem OKN.yr (hK : OKN N tx) {y : Nat} (hy : y ≤ 9999) : OKN (yrN N y) tx := hK.sc hy hK.d
/-- a year by draws, on both sides -/
theorem yr_both (hK : OKN N tx) (hy : N 0 1 < 9999) (z : Int32) (wt : Nat → Int32) : ∃ (N' : Nat → Nat → Nat) (z' : Int32) (b : Nat), b ≤ 1 ∧ OKN N' tx ∧ N' 0 1 = N 0 1 + 1 ∧ (∀ σ, CV 0 σ N z wt tx → ∃ σ1, f_X3_passYearByDraws σ = some (nI b, σ1) ∧ CV 0 σ1 N' z' wt tx ∧ ∀ q, q ≠ 8 → q ≠ 12 → q ≠ 1 → q ≠ 9 → q ≠ 10 → q ≠ 11 → σ1 q = σ q) ∧ (∀ σ, MV 67 σ N z wt tx → ∃ σ1, f_X7_buildsOne σ = some (nI b, σ1) ∧ MV 67 σ1 N' z' wt tx ∧ ∀ q, q ≠ 67 → q ≠ 71 → q ≠ 72 → σ1 q = σ q) := by
  have h10 := hK.n
  obtain ⟨a1, ha1, ea1⟩ := ushr8 (z * 1103515245 + 12345)
  obtain ⟨a2, ha2, ea2⟩ := ushr8 ((z * 1103515245 + 12345) * 1103515245 + 12345)
  have hp : a1 % (1 + N 0 0) ≤ N 0 0 := by have := Nat.mod_lt a1 (show 0 < 1 + N 0 0 by omega); omega
  have hk : a2 % 7 < 7 := Nat.mod_lt _ (by decide)
  have er1 : irm (nI a1) (nI (1 + N 0 0)) = nI (a1 % (1 + N 0 0)) := irm_nI (by omega) (by omega) (by omega)
  have er2 : irm (nI a2) 7 = nI (a2 % 7) := irm_nI (d := 7) (by omega) (by decide) (by decide)
  -- both draws
  have cd : ∀ σ, CV 0 σ N z wt tx → ∃ σ4, CV 0 σ4 N ((z * 1103515245 + 12345) * 1103515245 + 12345) wt tx ∧ (∀ q, q ≠ 1 → σ4 q = σ q) ∧ ∀ {y : Rs}, (if (10 : Int32) ≤ nI (N 0 0) then (ol (st σ4 1 2 ((σ4 1 2) + 1)) fun σ5 => some (((σ5 1 1) - nI (N 0 0)), σ5)) else (ob (f_X3_numberBetween (nI (a1 % (1 + N 0 0))) σ4) fun r6 σ6 => if 0 ≤ r6 then f_X3_passYearByDraws_b53 (nI (a1 % (1 + N 0 0))) (nI (a2 % 7)) (nI (N 0 0)) σ6 else (ob (f_X3_renumberBy 10 σ6) fun r7 σ7 => f_X3_passYearByDraws_b53 (nI (a1 % (1 + N 0 0))) (nI (a2 % 7)) (nI (N 0 0)) σ7))) = y → f_X3_passYearByDraws σ = y := by
    intro σ hC
    have step : ∀ {s : St} {w : Int32}, CV 0 s N w wt tx → CV 0 (st s 1 4 (w * 1103515245 + 12345)) N (w * 1103515245 + 12345) wt tx ∧ ∀ {y : Rs} {K : Int32 → St → Rs}, K (iushr (w * 1103515245 + 12345) 8) (st s 1 4 (w * 1103515245 + 12345)) = y → ob (f_X3_draw s) K = y := by
      intro s w hs
      constructor
      · have := hs.sc (σ1 := st s 1 4 (w * 1103515245 + 12345)) (y := N 0 1) (d := N 0 2) (z2 := w * 1103515245 + 12345) (fun q q1 q2 q3 => st_c (by omega)) (st_k (by decide)) (st_k (by decide)) (by rw [st_k (by decide), hs.y]) (by rw [st_k (by decide), hs.d]) st_s
        rw [uN_id, uN_id] at this
        exact this
      · intro y K hy
        refine ob_i (r := iushr (w * 1103515245 + 12345) 8) (σ := st s 1 4 (w * 1103515245 + 12345)) ?_ hy
        show ol (st s 1 4 (((s 1 4) * 1103515245) + 12345)) (fun σ1 => some ((iushr (σ1 1 4) 8), σ1)) = _
        rw [hs.z]
        refine ol_i ?_
        rw [st_s]
    obtain ⟨h1, k1⟩ := step hC
    obtain ⟨h2, k2⟩ := step h1
    refine ⟨_, h2, fun q hq => by rw [st_c hq, st_c hq], fun {y} hy => k1 ?_⟩
    rw [ea1, h1.n, show (1 + nI (N 0 0) : Int32) = nI (1 + N 0 0) from nI_add 1 _]
    refine ob_i (r := nI (a1 % (1 + N 0 0))) (σ := st σ 1 4 (z * 1103515245 + 12345)) (ite_n (nI_ne0 (by omega) (by omega)) (ite_p (nI_ne0 (by omega) (by omega)) (by rw [er1]))) (k2 ?_)
    rw [ea2]
    refine ob_i (r := nI (a2 % 7)) (ite_n (by decide) (ite_p (by decide) (by rw [er2]))) ?_
    rw [h2.n]
    exact hy
  have md : ∀ σ, MV 67 σ N z wt tx → ∃ σ4, MV 67 σ4 N ((z * 1103515245 + 12345) * 1103515245 + 12345) wt tx ∧ (∀ q, q ≠ 67 → σ4 q = σ q) ∧ ∀ {y : Rs}, (if (10 : Int32) ≤ nI (N 0 0) then f_X7_buildsOne_b38 (nI (a1 % (1 + N 0 0))) (nI (a2 % 7)) 0 σ4 else f_X7_buildsOne_b38 (nI (a1 % (1 + N 0 0))) (nI (a2 % 7)) 1 σ4) = y → f_X7_buildsOne σ = y := by
    intro σ hM
    have step : ∀ {s : St} {w : Int32}, MV 67 s N w wt tx → MV 67 (st s 67 2 (w * 1103515245 + 12345)) N (w * 1103515245 + 12345) wt tx ∧ ∀ {y : Rs} {K : Int32 → St → Rs}, K (iushr (w * 1103515245 + 12345) 8) (st s 67 2 (w * 1103515245 + 12345)) = y → ob (f_X7_draw s) K = y := by
      intro s w hs
      constructor
      · have := hs.sc (σ1 := st s 67 2 (w * 1103515245 + 12345)) (y := N 0 1) (d := N 0 2) (z2 := w * 1103515245 + 12345) (fun q q1 => st_k (by omega)) (by rw [st_k (by decide), hs.y]) (by rw [st_k (by decide), hs.d]) st_s
        rw [uN_id, uN_id] at this
        exact this
      · intro y K hy
        refine ob_i (r := iushr (w * 1103515245 + 12345) 8) (σ := st s 67 2 (w * 1103515245 + 12345)) ?_ hy
        refine ite_p (inb_l (by decide) (by decide)) (ite_p (inb_l (by decide) (by decide)) ?_)
        rw [show s 67 (Int32.toNatClampNeg 2) = w from hs.z]
        refine ol_i (ite_p (inb_l (by decide) (by decide)) ?_)
        rw [show Int32.toNatClampNeg 2 = 2 from rfl, st_s]
    obtain ⟨h1, k1⟩ := step hM
    obtain ⟨h2, k2⟩ := step h1
    refine ⟨_, h2, fun q hq => by rw [st_c hq, st_c hq], fun {y} hy => k1 ?_⟩
    have n1 : st σ 67 2 (z * 1103515245 + 12345) 67 (Int32.toNatClampNeg 5) = nI (N 0 0) := h1.n
    have n2 : st (st σ 67 2 (z * 1103515245 + 12345)) 67 2 ((z * 1103515245 + 12345) * 1103515245 + 12345) 67 (Int32.toNatClampNeg 5) = nI (N 0 0) := h2.n
    rw [ea1]
    refine ite_p (inb_l (by decide) (by decide)) ?_
    rw [n1, show (1 + nI (N 0 0) : Int32) = nI (1 + N 0 0) from nI_add 1 _]
    refine ite_p (nI_ne0 (by omega) (by omega)) (k2 (ite_p (inb_l (by decide) (by decide)) ?_))
    rw [ea2, er1, er2, n2]
    exact hy
  by_cases hn : N 0 0 < 10
  · -- one is built
    obtain ⟨N1, v, hN1, hK1, h1a, h1b, cs, ms⟩ : ∃ (N1 : Nat → Nat → Nat) (v : Nat), btwN N1 (a1 % (1 + N 0 0)) = nI v ∧ OKN N1 tx ∧ N1 0 0 = N 0 0 ∧ (N1 0 1 = N 0 1 ∧ 1 ≤ v ∧ v ≤ 999) ∧ (∀ (σ : St) (w : Int32), CV 0 σ N w wt tx → ∃ σ1, CV 0 σ1 N1 w wt tx ∧ (∀ q, q ≠ 1 → q ≠ 8 → q ≠ 11 → σ1 q = σ q) ∧ ∀ {y : Rs}, f_X3_passYearByDraws_b53 (nI (a1 % (1 + N 0 0))) (nI (a2 % 7)) (nI (N 0 0)) σ1 = y → (ob (f_X3_numberBetween (nI (a1 % (1 + N 0 0))) σ) fun r6 σ6 => if 0 ≤ r6 then f_X3_passYearByDraws_b53 (nI (a1 % (1 + N 0 0))) (nI (a2 % 7)) (nI (N 0 0)) σ6 else (ob (f_X3_renumberBy 10 σ6) fun r7 σ7 => f_X3_passYearByDraws_b53 (nI (a1 % (1 + N 0 0))) (nI (a2 % 7)) (nI (N 0 0)) σ7)) = y) ∧ (∀ (σ : St) (w : Int32), MV 67 σ N w wt tx → ∃ σ1, MV 67 σ1 N1 w wt tx ∧ (∀ q, q ≠ 67 → q ≠ 71 → q ≠ 72 → σ1 q = σ q) ∧ ∀ {y : Rs}, f_X7_buildsOne_b60 (nI (a1 % (1 + N 0 0))) (nI (a2 % 7)) 1 σ1 = y → f_X7_buildsOne_b38 (nI (a1 % (1 + N 0 0))) (nI (a2 % 7)) 1 σ = y) := by
      rcases btwN_b hK hp with e | ⟨v, v1, v2, e⟩
      · rcases btwN_b hK.rw10 (p := a1 % (1 + N 0 0)) hp with e2 | ⟨v, v1, v2, e2⟩
        · exact absurd e2 (btw_rw hK hp)
        · refine ⟨rwN N tx, v, e2, hK.rw10, rfl, ⟨rfl, v1, v2⟩, fun σ w h => ?_, fun σ w h => ?_⟩
          · obtain ⟨r, σ1, g1, g2, g3⟩ := c_rw hK h
            refine ⟨σ1, g2, g3, fun {y} hy => ob_i (c_between h hK hp) ?_⟩
            rw [e]
            exact ite_n (by decide) (ob_i g1 hy)
          · obtain ⟨r, σ1, g1, g2, g3⟩ := m_rw hK h
            refine ⟨σ1, g2, g3, fun {y} hy => ite_n (by decide) (ob_i (m_between h hK hp) ?_)⟩
            rw [e]
            exact ite_p rfl (ob_i g1 hy)
      · refine ⟨N, v, e, hK, rfl, ⟨rfl, v1, v2⟩, fun σ w h => ?_, fun σ w h => ?_⟩
        · refine ⟨σ, h, fun q _ _ _ => rfl, fun {y} hy => ob_i (c_between h hK hp) ?_⟩
          rw [e]
          exact ite_p (nI_pos' (by omega)) hy
        · refine ⟨σ, h, fun q _ _ _ => rfl, fun {y} hy => ite_n (by decide) (ob_i (m_between h hK hp) ?_)⟩
          rw [e]
          exact ite_n (fun q => neg1_ne (n := v) (by omega) q.symm) hy
    obtain ⟨h1c, v1, v2⟩ := h1b
    refine ⟨yrN (bdN N1 (a1 % (1 + N 0 0)) (a2 % 7) 0 v) (N1 0 1 + 1), (z * 1103515245 + 12345) * 1103515245 + 12345, 1, Nat.le_refl _, (hK1.bd (by omega) (by omega) hk (by decide) ⟨v1, v2⟩).yr (by omega), ?_, fun σ hC => ?_, fun σ hM => ?_⟩
    · rw [← h1c]; rfl
    · obtain ⟨σ4, g1, g2, g3⟩ := cd σ hC
      obtain ⟨σ5, f1, f2, f3⟩ := cs σ4 _ g1
      obtain ⟨σ6, e1, e2, e3'⟩ := c_b53 (k := a2 % 7) f1 hK1 (by omega) (show a1 % (1 + N 0 0) ≤ N1 0 0 by omega) hN1
      rw [h1a] at e1
      exact ⟨σ6, g3 (ite_n (nI_ge (b := 10) hn (by decide)) (f3 e1)), e2, fun q q1 q2 q3 q4 q5 q6 => by rw [e3' q q2 q3 q4 q5 q6, f2 q q3 q1 q6, g2 q q3]⟩
    · obtain ⟨σ4, g1, g2, g3⟩ := md σ hM
      obtain ⟨σ5, f1, f2, f3⟩ := ms σ4 _ g1
      obtain ⟨σ6, e1, e2, e3'⟩ := m_b60' f1 hK1 (by omega) (show a1 % (1 + N 0 0) ≤ N1 0 0 by omega) hk hN1
      exact ⟨σ6, g3 (ite_n (nI_ge (b := 10) hn (by decide)) (f3 e1)), e2, fun q q1 q2 q3 => by rw [e3' q q1, f2 q q1 q2 q3, g2 q q1]⟩
  · -- the street is full
    refine ⟨yrN N (N 0 1 + 1), (z * 1103515245 + 12345) * 1103515245 + 12345, 0, by decide, hK.yr (by omega), rfl, fun σ hC => ?_, fun σ hM => ?_⟩
    · obtain ⟨σ4, g1, g2, g3⟩ := cd σ hC
      have e1 : σ4 1 1 = nI (N 0 0) := g1.n
      have e2 : σ4 1 2 = nI (N 0 1) := g1.y
      refine ⟨st σ4 1 2 (σ4 1 2 + 1), g3 (ite_p (nI_le (a := 10) (by omega) (by omega)) (ol_i ?_)), ?_, fun q q1 q2 q3 q4 q5 q6 => by rw [st_c q3, g2 q q3]⟩
      · rw [st_k (by decide), e1, pk_sub (Nat.le_refl _), Nat.sub_self]
      · exact g1.sc (fun q q1 q2 q3 => st_c (by omega)) (st_k (by decide)) (st_k (by decide)) (by rw [st_s, e2, nI_1]) (by rw [st_k (by decide), g1.d]) (by rw [st_k (by decide), g1.z])
    · obtain ⟨σ4, g1, g2, g3⟩ := md σ hM
      have e2 : σ4 67 0 = nI (N 0 1) := g1.y
      refine ⟨st σ4 67 0 (σ4 67 0 + 1), g3 (ite_p (nI_le (a := 10) (by omega) (by omega)) (ite_p rfl (ite_p rfl (ite_p (inb_l (by decide) (by decide)) (ite_p (inb_l (by decide) (by decide)) (ol_i (ite_p (Or.inl rfl) rfl))))))), ?_, fun q q1 q2 q3 => by rw [st_c q1, g2 q q1]⟩
      exact g1.sc (fun q q1 => st_k (by omega)) (by rw [st_s, e2, nI_1]) (by rw [st_k (by decide), g1.d]) (by rw [st_k (by decide), g1.z])
/-- the years of a drawing -/
theorem lo_both {x : Nat} {wt : Nat → Int32} (hx : x ≤ 30) : ∀ (k i : Nat), i + k = x → ∀ (N : Nat → Nat → Nat) (z : Int32), OKN N tx → N 0 1 + k ≤ 9999 → ∃ (N' : Nat → Nat → Nat) (z' : Int32) (c : Nat), OKN N' tx ∧ (∀ (F a : Nat) (σ : St), k < F → CV 0 σ N z wt tx → ∃ σ1, f_X6_loose_L42 F (nI x) (nI a) (nI i) σ = some (nI (a + c), σ1) ∧ CV 0 σ1 N' z' wt tx ∧ ∀ q, q ≠ 8 → q ≠ 12 → q ≠ 1 → q ≠ 9 → q ≠ 10 → q ≠ 11 → σ1 q = σ q) ∧ (∀ (F a : Nat) (σ : St), k < F → MV 67 σ N z wt tx → ∃ σ1, f_X7_loose_L40 F (nI x) (nI a) (nI i) σ = some (nI (a + c), σ1) ∧ MV 67 σ1 N' z' wt tx ∧ ∀ q, q ≠ 67 → q ≠ 71 → q ≠ 72 → σ1 q = σ q) := by
  intro k
  induction k with
  | zero =>
    intro i h1 N z hK hy
    refine ⟨N, z, 0, hK, fun F a σ hF hC => ⟨σ, ?_, hC, fun q _ _ _ _ _ _ => rfl⟩, fun F a σ hF hM => ⟨σ, ?_, hM, fun q _ _ _ => rfl⟩⟩
    · obtain ⟨F, rfl⟩ : ∃ F', F = F' + 1 := ⟨F - 1, by omega⟩
      exact ite_p (nI_le (by omega) (by omega)) rfl
    · obtain ⟨F, rfl⟩ : ∃ F', F = F' + 1 := ⟨F - 1, by omega⟩
      exact ite_p (nI_le (by omega) (by omega)) rfl
  | succ k ih =>
    intro i h1 N z hK hy
    obtain ⟨N1, z1, b, hb, hK1, hy1, cs, ms⟩ := yr_both hK (by omega) z wt
    obtain ⟨N2, z2, c, hK2, cl, ml⟩ := ih (i + 1) (by omega) N1 z1 hK1 (by omega)
    refine ⟨N2, z2, b + c, hK2, fun F a σ hF hC => ?_, fun F a σ hF hM => ?_⟩
    · obtain ⟨F, rfl⟩ : ∃ F', F = F' + 1 := ⟨F - 1, by omega⟩
      obtain ⟨σ1, g1, g2, g3⟩ := cs σ hC
      obtain ⟨σ2, f1, f2, f3⟩ := cl F (a + b) σ1 (by omega) g2
      refine ⟨σ2, ?_, f2, fun q q1 q2 q3 q4 q5 q6 => by rw [f3 q q1 q2 q3 q4 q5 q6, g3 q q1 q2 q3 q4 q5 q6]⟩
      show f_X6_loose_b42 (f_X6_loose_L42 F) _ _ _ σ = _
      refine ite_n (nI_ge (by omega) (by omega)) (ob_i g1 ?_)
      rw [nI_add, nI_1, ← Nat.add_assoc]
      exact f1
    · obtain ⟨F, rfl⟩ : ∃ F', F = F' + 1 := ⟨F - 1, by omega⟩
      obtain ⟨σ1, g1, g2, g3⟩ := ms σ hM
      obtain ⟨σ2, f1, f2, f3⟩ := ml F (a + b) σ1 (by omega) g2
      refine ⟨σ2, ?_, f2, fun q q1 q2 q3 => by rw [f3 q q1 q2 q3, g3 q q1 q2 q3]⟩
      show f_X7_loose_b40 (f_X7_loose_L40 F) _ _ _ σ = _
      refine ite_n (nI_ge (by omega) (by omega)) (ob_i g1 ?_)
      rw [← Nat.add_assoc]
      rcases (show b = 0 ∨ b = 1 by omega) with e | e
      · subst e
        refine ite_p rfl ?_
        rw [show (nI a + 0 : Int32) = nI (a + 0) from nI_add a 0, nI_1]
        exact f1
      · subst e
        refine ite_n (by decide) ?_
        rw [nI_1, nI_1]
        exact f1
end LO
theorem P_loose {σ : St} (hI : Inv σ) (x0 : Int32) : ∃ (r : Int32) (σ1 σ2 : St), f_X6_loose x0 σ = some (r, σ1) ∧ f_X7_loose x0 σ1 = some (r, σ2) ∧ Inv σ2 := by
  obtain ⟨⟨N, z, wt, tx, hC, hM, hK⟩, -⟩ := id hI
  have h10 := hK.n
  have hy := hK.y
  by_cases hv : isR 1 31 x0
  · obtain ⟨x, hx1, hx2, rfl⟩ := id hv
    have cb : ∀ {y : Rs}, (if nI (N 0 1 + x) ≤ 9999 then f_X6_loose_L42 LF (nI x) 0 0 σ else (ob (f_X6_failing 3 σ) fun r2 σ2 => some (r2, σ2))) = y → f_X6_loose (nI x) σ = y := by
      intro y h
      refine ite_n (nI_nlt (b := 1) hx1 (by omega)) (ite_p (nI_le (b := 30) (by omega) (by decide)) ?_)
      rw [hC.y, nI_add]
      exact h
    have mb : ∀ (s : St), s 67 0 = nI (N 0 1) → ∀ {y : Rs}, (if nI (N 0 1 + x) ≤ 9999 then f_X7_loose_L40 LF (nI x) 0 0 s else (ob (f_X7_error 3 s) fun r3 σ3 => some (r3, σ3))) = y → f_X7_loose (nI x) s = y := by
      intro s hs y h
      refine ob_i (in_t hv (by decide) rfl rfl) (ite_n (by decide) (ite_p (inb_l (by decide) (by decide)) ?_))
      rw [show s 67 (Int32.toNatClampNeg 0) = nI (N 0 1) from hs, nI_add]
      exact h
    by_cases h : N 0 1 + x ≤ 9999
    · obtain ⟨N', z', c, hK', cl, ml⟩ := lo_both (tx := tx) (wt := wt) (x := x) (by omega) x 0 (by omega) N z hK (by omega)
      obtain ⟨σ1, g1, g2, g3⟩ := cl LF 0 σ (by unfold LF; omega) hC
      have hM1 : MV 67 σ1 N z wt tx := hM.fr (g3 _ (by decide) (by decide) (by decide) (by decide) (by decide) (by decide))
      obtain ⟨σ2, f1, f2, f3⟩ := ml LF 0 σ1 (by unfold LF; omega) hM1
      refine ⟨_, σ1, σ2, cb (ite_p (nI_le (b := 9999) h (by decide)) g1), mb σ1 hM1.y (ite_p (nI_le (b := 9999) h (by decide)) f1), ?_⟩
      refine hI.main (fun q k hq => ?_) ⟨N', z', wt, tx, g2.fr (fun q hq => f3 q (by omega) (by omega) (by omega)), f2, hK'⟩
      rw [f3 q, g3 q] <;> (rintro rfl; revert hq; unfold mnP scr; simp)
    · exact P_err (FC := f_X6_loose (nI x)) (FM := f_X7_loose (nI x)) (k := 3) hI (cb (ite_n (nI_ge (b := N 0 1 + x) (a := 9999) (by omega) (by omega)) (ob_i (p_failing (k := 3) (by decide)) rfl))) (mb _ (by rw [eC_c (by decide)]; exact hM.y) (ite_n (nI_ge (b := N 0 1 + x) (a := 9999) (by omega) (by omega)) (ob_i (p_error (k := 3) (by decide)) rfl)))
  · refine P_err (FC := f_X6_loose x0) (FM := f_X7_loose x0) (k := 1) hI ?_ (ob_i (in_f hv (by decide) rfl rfl) (ite_p rfl (ob_i (p_error (k := 1) (by decide)) rfl)))
    rw [isR_iff (by decide)] at hv
    by_cases h0 : x0 < 1
    · exact ite_p h0 (ob_i (p_failing (k := 1) (by decide)) rfl)
    · refine ite_n h0 (ite_n ?_ (ob_i (p_failing (k := 1) (by decide)) rfl))
      rw [f_lt, show (1 : Int32).toInt = 1 from rfl] at h0
      rw [f_le, show (30 : Int32).toInt = 30 from rfl]
      omega
