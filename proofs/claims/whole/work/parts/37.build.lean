/-! build -/
/-- a house more: kind k, m, plate v, at place p -/
def bdN (N : Nat → Nat → Nat) (p k m v : Nat) : Nat → Nat → Nat
  | 0, b => if b = 0 then N 0 0 + 1 else N 0 b
  | 1, b => if b = N 0 0 then k else N 1 b
  | 2, b => if b = N 0 0 then m else N 2 b
  | 3, b => if b = N 0 0 then v else N 3 b
  | 4, b => if b = N 0 0 then p else if p ≤ N 4 b then N 4 b + 1 else N 4 b
  | 5, b => if b < p then N 5 b else if b = p then N 0 0 else N 5 (b - 1)
  | a, b => N a b
theorem OKN.bd {N : Nat → Nat → Nat} {tx : Nat → Nat → Int32} (h : OKN N tx) {p k m v : Nat} (hn : N 0 0 < 10) (hp : p ≤ N 0 0) (hk : k < 7) (hm : m < 10) (hv : 1 ≤ v ∧ v ≤ 999) : OKN (bdN N p k m v) tx := by
  obtain ⟨a1, a2, a3, a4, a5, a6, a7, a8⟩ := h
  refine ⟨(show N 0 0 + 1 ≤ 10 by omega), a2, a3, a4, a5, fun j hj => ?_, a7, a8⟩
  have hj2 : j < N 0 0 + 1 := hj
  show (if j = N 0 0 then k else N 1 j) < 7 ∧ (if j = N 0 0 then m else N 2 j) < 10 ∧ 1 ≤ (if j = N 0 0 then v else N 3 j) ∧ (if j = N 0 0 then v else N 3 j) ≤ 999 ∧ (if j = N 0 0 then p else if p ≤ N 4 j then N 4 j + 1 else N 4 j) < N 0 0 + 1 ∧ (if j < p then N 5 j else if j = p then N 0 0 else N 5 (j - 1)) < N 0 0 + 1 ∧ bdN N p k m v 5 (if j = N 0 0 then p else if p ≤ N 4 j then N 4 j + 1 else N 4 j) = j ∧ bdN N p k m v 4 (if j < p then N 5 j else if j = p then N 0 0 else N 5 (j - 1)) = j
  refine ⟨?_, ?_, ?_, ?_, ?_, ?_, ?_, ?_⟩
  · by_cases e : j = N 0 0
    · rw [if_pos e]; exact hk
    · rw [if_neg e]; exact (a6 j (by omega)).1
  · by_cases e : j = N 0 0
    · rw [if_pos e]; exact hm
    · rw [if_neg e]; exact (a6 j (by omega)).2.1
  · by_cases e : j = N 0 0
    · rw [if_pos e]; exact hv.1
    · rw [if_neg e]; exact (a6 j (by omega)).2.2.1
  · by_cases e : j = N 0 0
    · rw [if_pos e]; exact hv.2
    · rw [if_neg e]; exact (a6 j (by omega)).2.2.2.1
  · by_cases e : j = N 0 0
    · rw [if_pos e]; omega
    · rw [if_neg e]
      have := (a6 j (by omega)).2.2.2.2.1
      split <;> omega
  · by_cases e : j < p
    · rw [if_pos e]
      have := (a6 j (by omega)).2.2.2.2.2.1
      omega
    · rw [if_neg e]
      by_cases e2 : j = p
      · rw [if_pos e2]; omega
      · rw [if_neg e2]
        have := (a6 (j - 1) (by omega)).2.2.2.2.2.1
        omega
  · by_cases e : j = N 0 0
    · rw [if_pos e]
      show (if p < p then _ else if p = p then N 0 0 else _) = j
      rw [if_neg (by omega), if_pos rfl, e]
    · rw [if_neg e]
      obtain ⟨-, -, -, -, g1, g2, g3, g4⟩ := a6 j (by omega)
      by_cases e2 : p ≤ N 4 j
      · rw [if_pos e2]
        show (if N 4 j + 1 < p then _ else if N 4 j + 1 = p then N 0 0 else N 5 (N 4 j + 1 - 1)) = j
        rw [if_neg (by omega), if_neg (by omega), Nat.add_sub_cancel, g3]
      · rw [if_neg e2]
        show (if N 4 j < p then N 5 (N 4 j) else _) = j
        rw [if_pos (by omega), g3]
  · by_cases e : j < p
    · rw [if_pos e]
      obtain ⟨-, -, -, -, g1, g2, g3, g4⟩ := a6 j (by omega)
      show (if N 5 j = N 0 0 then _ else if p ≤ N 4 (N 5 j) then _ else N 4 (N 5 j)) = j
      rw [if_neg (by omega), g4, if_neg (by omega)]
    · rw [if_neg e]
      by_cases e2 : j = p
      · rw [if_pos e2]
        show (if N 0 0 = N 0 0 then p else _) = j
        rw [if_pos rfl, e2]
      · rw [if_neg e2]
        obtain ⟨-, -, -, -, g1, g2, g3, g4⟩ := a6 (j - 1) (by omega)
        show (if N 5 (j - 1) = N 0 0 then _ else if p ≤ N 4 (N 5 (j - 1)) then N 4 (N 5 (j - 1)) + 1 else _) = j
        rw [if_neg (by omega), g4, if_pos (by omega)]
        omega
theorem c_add {σ : St} {N : Nat → Nat → Nat} {z : Int32} {wt : Nat → Int32} {tx : Nat → Nat → Int32} (hC : CV 0 σ N z wt tx) (hK : OKN N tx) {p k m v : Nat} (hn : N 0 0 < 10) (hp : p ≤ N 0 0) : ∃ σ1, f_X3_addHouse (nI k) (nI m) (nI p) (nI v) σ = some (nI (N 0 0), σ1) ∧ CV 0 σ1 (bdN N p k m v) z wt tx ∧ Eqo mnP σ σ1 ∧ ∀ q, q ≠ 12 → q ≠ 1 → q ≠ 9 → q ≠ 10 → q ≠ 11 → σ1 q = σ q := by
  let sa : St := sR σ 12 (va_cpy (σ 12) (σ 12) p (p + 1) (N 0 0 - p))
  let sb : St := st sa 12 p (nI (N 0 0))
  let sc : St := st sb 1 1 (nI (N 0 0 + 1))
  let sd : St := st (st sc 9 (N 0 0) (nI k)) 10 (N 0 0) (nI m)
  have hc : sc 1 1 = nI (N 0 0 + 1) := st_s
  have hd : sd 1 1 = nI (N 0 0 + 1) := by
    show st (st sc 9 (N 0 0) (nI k)) 10 (N 0 0) (nI m) 1 1 = _
    rw [st_c (by decide), st_c (by decide), hc]
  refine ⟨st sd 11 (N 0 0) (nI v), ?_, ?_, ?_, ?_⟩
  · unfold f_X3_addHouse
    rw [hC.n]
    have hs : (nI (N 0 0) - nI p : Int32) = nI (N 0 0 - p) := pk_sub hp
    simp only [hs, nI_1]
    simp (disch := omega) only [nI_clamp]
    refine ite_n (nI_nn (by omega)) (ite_n (nI_ge (b := 10) (by omega) (by decide)) (ite_n (nI_nn (by omega)) (ite_p (nI_le hp (by omega)) (ite_p ?_ (ol_i (ite_p (inb_i (by omega) (by decide)) (ol_i (ol_i ?_))))))))
    · exact ⟨nI_nn (by omega), nI_nn (by omega), nI_nn (by omega), by omega, by omega⟩
    · exact ob_i (c_setKind (n := N 0 0 + 1) hc (by omega) (by omega)) (ob_i (c_setPlate (n := N 0 0 + 1) hd (by omega) (by omega)) rfl)
  · have ra : ∀ q, q ≠ 12 → sa q = σ q := fun q h => sR_c h
    have rb : ∀ q, q ≠ 12 → q ≠ 1 → q ≠ 9 → q ≠ 10 → q ≠ 11 → st sd 11 (N 0 0) (nI v) q = σ q := fun q h h1 h2 h3 h4 => by
      rw [st_c h4]
      show st (st sc 9 (N 0 0) (nI k)) 10 (N 0 0) (nI m) q = _
      rw [st_c h3, st_c h2]
      show st sb 1 1 (nI (N 0 0 + 1)) q = _
      rw [st_c h1]
      show st sa 12 p (nI (N 0 0)) q = _
      rw [st_c h, ra q h]
    have r1 : ∀ j, j ≠ 1 → st sd 11 (N 0 0) (nI v) 1 j = σ 1 j := fun j h => by
      show st (st (st (st (st sa 12 p (nI (N 0 0))) 1 1 (nI (N 0 0 + 1))) 9 (N 0 0) (nI k)) 10 (N 0 0) (nI m)) 11 (N 0 0) (nI v) 1 j = _
      rw [st_c (by decide), st_c (by decide), st_c (by decide), st_k h, st_c (by decide), ra 1 (by decide)]
    obtain ⟨c1, c2, c3, c4, c5, c6, c7, c8, c9, c10⟩ := hC
    refine ⟨?_, ?_, ?_, ?_, ?_, ?_, fun j hj => ?_, fun j hj => ?_, fun j hj => ?_, fun u hu => ⟨?_, fun j hj => ?_⟩⟩
    · show st (st (st (st (st sa 12 p (nI (N 0 0))) 1 1 (nI (N 0 0 + 1))) 9 (N 0 0) (nI k)) 10 (N 0 0) (nI m)) 11 (N 0 0) (nI v) 1 1 = _
      rw [st_c (by decide), st_c (by decide), st_c (by decide), st_s]; rfl
    · exact (r1 2 (by decide)).trans c2
    · exact (r1 3 (by decide)).trans c3
    · exact (r1 4 (by decide)).trans c4
    · exact (r1 5 (by decide)).trans c5
    · rw [rb _ (by omega) (by omega) (by omega) (by omega) (by omega)]; exact c6
    · have hj2 : j < N 0 0 + 1 := hj
      show st (st (st (st (st sa 12 p (nI (N 0 0))) 1 1 (nI (N 0 0 + 1))) 9 (N 0 0) (nI k)) 10 (N 0 0) (nI m)) 11 (N 0 0) (nI v) 9 j = nI (if j = N 0 0 then k else N 1 j) ∧ st (st (st (st (st sa 12 p (nI (N 0 0))) 1 1 (nI (N 0 0 + 1))) 9 (N 0 0) (nI k)) 10 (N 0 0) (nI m)) 11 (N 0 0) (nI v) 10 j = nI (if j = N 0 0 then m else N 2 j) ∧ st (st (st (st (st sa 12 p (nI (N 0 0))) 1 1 (nI (N 0 0 + 1))) 9 (N 0 0) (nI k)) 10 (N 0 0) (nI m)) 11 (N 0 0) (nI v) 11 j = nI (if j = N 0 0 then v else N 3 j) ∧ st (st (st (st (st sa 12 p (nI (N 0 0))) 1 1 (nI (N 0 0 + 1))) 9 (N 0 0) (nI k)) 10 (N 0 0) (nI m)) 11 (N 0 0) (nI v) 12 j = nI (if j < p then N 5 j else if j = p then N 0 0 else N 5 (j - 1))
      refine ⟨?_, ?_, ?_, ?_⟩
      · rw [st_c (by decide), st_c (by decide)]
        by_cases e : j = N 0 0
        · rw [if_pos e, e, st_s]
        · rw [if_neg e, st_k e, st_c (by decide), st_c (by decide), ra _ (by decide)]
          exact (c7 j (by omega)).1
      · rw [st_c (by decide)]
        by_cases e : j = N 0 0
        · rw [if_pos e, e, st_s]
        · rw [if_neg e, st_k e, st_c (by decide), st_c (by decide), st_c (by decide), ra _ (by decide)]
          exact (c7 j (by omega)).2.1
      · by_cases e : j = N 0 0
        · rw [if_pos e, e, st_s]
        · rw [if_neg e, st_k e, st_c (by decide), st_c (by decide), st_c (by decide), st_c (by decide), ra _ (by decide)]
          exact (c7 j (by omega)).2.2.1
      · rw [st_c (by decide), st_c (by decide), st_c (by decide), st_c (by decide)]
        by_cases e : j < p
        · rw [if_pos e, st_k (by omega)]
          show sR σ 12 _ 12 j = _
          rw [sR_s, pk_cpy_out (by omega)]
          exact (c7 j (by omega)).2.2.2
        · rw [if_neg e]
          by_cases e2 : j = p
          · rw [if_pos e2, e2, st_s]
          · rw [if_neg e2, st_k e2]
            show sR σ 12 _ 12 j = _
            rw [sR_s, pk_cpy_in (by omega) (by omega), show p + (j - (p + 1)) = j - 1 by omega]
            exact (c7 (j - 1) (by omega)).2.2.2
    · rw [rb _ (by omega) (by omega) (by omega) (by omega) (by omega)]; exact c8 j hj
    · rw [rb _ (by omega) (by omega) (by omega) (by omega) (by omega)]; exact c9 j hj
    · rw [rb _ (by omega) (by omega) (by omega) (by omega) (by omega)]; exact (c10 u hu).1
    · rw [rb _ (by omega) (by omega) (by omega) (by omega) (by omega)]; exact (c10 u hu).2 j hj
  · refine eqm (eqm (eqm (eqm (eqm (fun q k hq => ?_) (by omega)) (by omega)) (by omega)) (by omega)) (by omega)
    refine congrFun (sR_c ?_) k
    rintro rfl
    revert hq
    unfold mnP
    simp
  · intro q h h1 h2 h3 h4
    rw [st_c h4]
    show st (st sc 9 (N 0 0) (nI k)) 10 (N 0 0) (nI m) q = _
    rw [st_c h3, st_c h2]
    show st sb 1 1 (nI (N 0 0 + 1)) q = _
    rw [st_c h1]
    show st sa 12 p (nI (N 0 0)) q = _
    rw [st_c h]
    exact sR_c h
theorem m_comesL {N : Nat → Nat → Nat} {p k m v : Nat} {x : Int32} (hn : N 0 0 < 10) (hx1 : x / 10 = nI k) (hx2 : irm x 10 = nI m) (hp : p ≤ N 0 0) (hb : ∀ j, j < N 0 0 → N 4 j < N 0 0) : ∀ (f i : Nat) (σ : St), σ 67 5 = nI (N 0 0) → (∀ j, i ≤ j → j < N 0 0 → σ 67 (11 + 4 * j) = nI (N 4 j)) → i ≤ N 0 0 → N 0 0 < f + i → ∃ σ1, f_X7_comes_L3 f x (nI p) (nI v) (nI i) σ = some (0, σ1) ∧ (∀ q, q ≠ 67 → σ1 q = σ q) ∧ (∀ j, j ≠ 5 → (j < 11 + 4 * i ∨ 12 + 4 * N 0 0 ≤ j ∨ j % 4 ≠ 3) → (j < 8 + 4 * N 0 0 ∨ 12 + 4 * N 0 0 ≤ j) → σ1 67 j = σ 67 j) ∧ σ1 67 5 = nI (N 0 0 + 1) ∧ σ1 67 (8 + 4 * N 0 0) = nI k ∧ σ1 67 (9 + 4 * N 0 0) = nI m ∧ σ1 67 (10 + 4 * N 0 0) = nI v ∧ σ1 67 (11 + 4 * N 0 0) = nI p ∧ ∀ j, i ≤ j → j < N 0 0 → σ1 67 (11 + 4 * j) = nI (if p ≤ N 4 j then N 4 j + 1 else N 4 j) := by
  intro f
  induction f with
  | zero => intro i σ h1 h2 h3 h4; omega
  | succ f ih =>
    intro i σ h1 h2 h3 h4
    have h1' : σ 67 (Int32.toNatClampNeg 5) = nI (N 0 0) := h1
    by_cases e : i = N 0 0
    · refine ⟨st (st (st (st (st σ 67 (8 + 4 * N 0 0 + 0) (nI k)) 67 (8 + 4 * N 0 0 + 1) (nI m)) 67 (8 + 4 * N 0 0 + 2) (nI v)) 67 (8 + 4 * N 0 0 + 3) (nI p)) 67 5 (nI (N 0 0 + 1)), ?_, fun q hq => ?_, fun j hj1 hj2 hj3 => ?_, st_s, ?_, ?_, ?_, ?_, fun j hj1 hj2 => by omega⟩
      · show f_X7_comes_b3 _ _ _ _ _ _ = _
        unfold f_X7_comes_b3
        simp only [h1', hx1, hx2]
        refine ite_p (inb_l (by decide) (by decide)) (ite_p (nI_le (by omega) (by omega)) (ite_p (inb_l (by decide) (by decide)) (ob_i (m_lays1 (w := 0) (by omega) (by decide)) (ob_i (m_lays1 (w := 1) (by omega) (by decide)) (ob_i (m_lays1 (w := 2) (by omega) (by decide)) (ob_i (m_lays1 (w := 3) (by omega) (by decide)) (ite_p (inb_l (by decide) (by decide)) (ite_p (inb_l (by decide) (by decide)) (ol_i ?_)))))))))
        rw [cl_lit (by decide), st_k (show 5 ≠ 8 + 4 * N 0 0 + 3 by omega), st_k (show 5 ≠ 8 + 4 * N 0 0 + 2 by omega), st_k (show 5 ≠ 8 + 4 * N 0 0 + 1 by omega), st_k (show 5 ≠ 8 + 4 * N 0 0 + 0 by omega), h1, nI_1]
      · rw [st_c hq, st_c hq, st_c hq, st_c hq, st_c hq]
      · rw [st_k hj1, st_k (by omega), st_k (by omega), st_k (by omega), st_k (by omega)]
      · rw [st_k (by omega), st_k (by omega), st_k (by omega), st_k (by omega)]; exact st_s
      · rw [st_k (by omega), st_k (by omega), st_k (by omega), show 9 + 4 * N 0 0 = 8 + 4 * N 0 0 + 1 by omega]; exact st_s
      · rw [st_k (by omega), st_k (by omega), show 10 + 4 * N 0 0 = 8 + 4 * N 0 0 + 2 by omega]; exact st_s
      · rw [st_k (by omega), show 11 + 4 * N 0 0 = 8 + 4 * N 0 0 + 3 by omega]; exact st_s
    · have hi := hb i (by omega)
      have hits : f_X7_its (nI i) 3 σ = some (nI (N 4 i), σ) := by
        refine (m_its (w := 3) (by omega) (by decide)).trans ?_
        rw [show 8 + 4 * i + 3 = 11 + 4 * i by omega, h2 i (by omega) (by omega)]
      obtain ⟨σ1, g1, g2, g3, g4, g5, g6, g7, g8, g9⟩ := ih (i + 1) (st σ 67 (8 + 4 * i + 3) (nI (if p ≤ N 4 i then N 4 i + 1 else N 4 i))) (by rw [st_k (by omega)]; exact h1) (fun j hj1 hj2 => by rw [st_k (by omega)]; exact h2 j (by omega) hj2) (by omega) (by omega)
      refine ⟨σ1, ?_, fun q hq => ?_, fun j hj1 hj2 hj3 => ?_, g4, g5, g6, g7, g8, fun j hj1 hj2 => ?_⟩
      · show f_X7_comes_b3 _ _ _ _ _ _ = _
        unfold f_X7_comes_b3
        simp only [h1']
        refine ite_p (inb_l (by decide) (by decide)) (ite_n (nI_ge (by omega) (by omega)) (ob_i hits (ob_i hits ?_)))
        by_cases q : p ≤ N 4 i
        · rw [if_pos q] at g1
          refine ite_p (nI_le q (by omega)) (ob_i (m_lays1 (w := 3) (by omega) (by decide)) ?_)
          rw [nI_1, nI_1]
          exact g1
        · rw [if_neg q] at g1
          refine ite_n (nI_ge (by omega) (by omega)) (ob_i (m_lays1 (w := 3) (by omega) (by decide)) ?_)
          rw [nI_1, show (nI (N 4 i) + 0 : Int32) = nI (N 4 i) from nI_add _ 0]
          exact g1
      · rw [g2 q hq, st_c hq]
      · rw [g3 j hj1 (by omega) hj3, st_k (by omega)]
      · by_cases ej : j = i
        · subst ej
          rw [g3 _ (by omega) (by omega) (by omega), show 11 + 4 * j = 8 + 4 * j + 3 by omega, st_s]
        · exact g9 j (by omega) hj2
theorem m_comes {σ : St} {N : Nat → Nat → Nat} {z : Int32} {wt : Nat → Int32} {tx : Nat → Nat → Int32} (hM : MV 67 σ N z wt tx) (hK : OKN N tx) {p k m v : Nat} {x : Int32} (hn : N 0 0 < 10) (hx1 : x / 10 = nI k) (hx2 : irm x 10 = nI m) (hp : p ≤ N 0 0) : ∃ σ1, f_X7_comes x (nI p) (nI v) σ = some (0, σ1) ∧ MV 67 σ1 (bdN N p k m v) z wt tx ∧ ∀ q, q ≠ 67 → σ1 q = σ q := by
  obtain ⟨σ1, g1, g2, g3, g4, g5, g6, g7, g8, g9⟩ := m_comesL (v := v) hn hx1 hx2 hp (fun j hj => (hK.h hj).2.2.2.2.1) LF 0 σ hM.n (fun j _ hj => hM.pc hj) (by omega) (by unfold LF; omega)
  refine ⟨σ1, g1, ?_, g2⟩
  obtain ⟨c1, c2, c3, c4, c5, c6, c7, c8, c9, c10⟩ := hM
  have h60 := hK.t
  refine ⟨?_, ?_, ?_, ?_, ?_, ?_, fun j hj => ?_, fun j hj => ?_, fun j hj => ?_, fun u hu => ⟨?_, fun j hj => ?_⟩⟩
  · exact g4
  · rw [g3 _ (by omega) (by omega) (by omega)]; exact c2
  · rw [g3 _ (by omega) (by omega) (by omega)]; exact c3
  · rw [g3 _ (by omega) (by omega) (by omega)]; exact c4
  · rw [g3 _ (by omega) (by omega) (by omega)]; exact c5
  · rw [g3 _ (by omega) (by omega) (by omega)]; exact c6
  · have hj2 : j < N 0 0 + 1 := hj
    show _ = nI (if j = N 0 0 then k else N 1 j) ∧ _ = nI (if j = N 0 0 then m else N 2 j) ∧ _ = nI (if j = N 0 0 then v else N 3 j) ∧ _ = nI (if j = N 0 0 then p else if p ≤ N 4 j then N 4 j + 1 else N 4 j)
    by_cases e : j = N 0 0
    · rw [if_pos e, if_pos e, if_pos e, if_pos e, e]
      exact ⟨g5, g6, g7, g8⟩
    · rw [if_neg e, if_neg e, if_neg e, if_neg e]
      obtain ⟨d1, d2, d3, -⟩ := c7 j (by omega)
      refine ⟨?_, ?_, ?_, g9 j (by omega) (by omega)⟩
      · rw [g3 _ (by omega) (by omega) (by omega)]; exact d1
      · rw [g3 _ (by omega) (by omega) (by omega)]; exact d2
      · rw [g3 _ (by omega) (by omega) (by omega)]; exact d3
  · rw [g3 _ (by omega) (by omega) (by omega)]; exact c8 j hj
  · rw [g3 _ (by omega) (by omega) (by omega)]; exact c9 j hj
  · rw [g3 _ (by omega) (by omega) (by omega)]; exact (c10 u hu).1
  · have hj2 : j < N 7 u := hj
    have := hK.tn hu
    rw [g3 _ (by omega) (by omega) (by omega), g3 _ (by omega) (by omega) (by omega)]; exact (c10 u hu).2 j hj
theorem P_build {σ : St} (hI : Inv σ) (x0 : Int32) (x1 : Int32) (x2 : Int32) : ∃ (r : Int32) (σ1 σ2 : St), f_X6_build x0 x1 x2 σ = some (r, σ1) ∧ f_X7_build x0 x1 x2 σ1 = some (r, σ2) ∧ Inv σ2 := by
  obtain ⟨⟨N, z, wt, tx, hC, hM, hK⟩, -⟩ := id hI
  have h10 := hK.n
  have hb : f_X6_build_b29 σ = some ((-1000000000) - nI 1, eC 1 σ) := ob_i (p_failing (k := 1) (by decide)) rfl
  have hb2 : f_X7_build_b28 (eC 1 σ) = some ((-1000000000) - nI 1, eM 1 (eC 1 σ)) := ob_i (p_error (k := 1) (by decide)) rfl
  have h5 : eC 1 σ 67 (Int32.toNatClampNeg 5) = nI (N 0 0) := by
    rw [eC_c (by decide)]; exact hM.n
  by_cases hu : isR 0 70 x0
  · obtain ⟨u, -, hu2, rfl⟩ := id hu
    by_cases hv : isR 0 (N 0 0 + 1) x1
    · obtain ⟨p, -, hp, rfl⟩ := id hv
      have hpb : (nI (N 0 0)).toInt = ((N 0 0 + 1 : Nat) : Int) - 1 := by rw [nI_toInt (by omega)]; omega
      have k1 : ¬ σ 1 1 < nI p := by
        rw [hC.n]; exact nI_nlt (by omega) (by omega)
      by_cases hw : isR 1 1000 x2
      · obtain ⟨v, hv1, hv2, rfl⟩ := id hw
        have e1 : (nI u / 10 : Int32) = nI (u / 10) := pk_div (by omega) (by decide) (by decide)
        have e2 : irm (nI u) 10 = nI (u % 10) := irm_nI (by omega) (by decide) (by decide)
        by_cases hn : N 0 0 < 10
        · obtain ⟨σ1, g1, g2, g3, g4⟩ := c_add hC hK (k := u / 10) (m := u % 10) (v := v) hn (show p ≤ N 0 0 by omega)
          have hM1 : MV 67 σ1 N z wt tx := hM.fr (g4 _ (by decide) (by decide) (by decide) (by decide) (by decide))
          obtain ⟨σ2, f1, f2, f3⟩ := m_comes hM1 hK (v := v) hn e1 e2 (show p ≤ N 0 0 by omega)
          refine ⟨nI (N 0 0), σ1, σ2, ?_, ?_, ?_⟩
          · refine ob_i (isKm_t hu) (ite_n (by decide) (ite_n (nI_nn (by omega)) (ite_n k1 (ob_i (isPlate_t hw) (ite_n (by decide) (ite_p ?_ ?_))))))
            · rw [hC.n]; exact nI_lt (b := 10) hn (by decide)
            · rw [e1, e2]; exact ob_i g1 rfl
          · refine ob_i (isKind_t hu) (ite_n (by decide) (ite_p (inb_l (by decide) (by decide)) ?_))
            rw [show σ1 67 (Int32.toNatClampNeg 5) = nI (N 0 0) from hM1.n]
            refine ob_i (in_t hv (by omega) rfl hpb) (ite_n (by decide) (ob_i (isNumber_t hw) (ite_n (by decide) (ite_p (inb_l (by decide) (by decide)) (ite_n ?_ (ob_i f1 (ite_p (inb_l (by decide) (by decide)) ?_)))))))
            · rw [show σ1 67 (Int32.toNatClampNeg 5) = nI (N 0 0) from hM1.n, show (10 : Int32) = nI 10 from rfl, nI_eq (by omega) (by omega)]; omega
            · rw [show σ2 67 (Int32.toNatClampNeg 5) = nI (N 0 0 + 1) from f2.n, nI_pred]
          · exact hI.main (fun q k hq => by
              rw [f3 q (by rintro rfl; revert hq; unfold mnP; simp)]
              exact g3 q k hq) ⟨_, z, wt, tx, g2.fr (fun q hq => f3 q (by omega)), f2, hK.bd hn (by omega) (by omega) (by omega) (by omega)⟩
        · refine P_err (FC := f_X6_build (nI u) (nI p) (nI v)) (FM := f_X7_build (nI u) (nI p) (nI v)) (k := 4) hI ?_ ?_
          · refine ob_i (isKm_t hu) (ite_n (by decide) (ite_n (nI_nn (by omega)) (ite_n k1 (ob_i (isPlate_t hw) (ite_n (by decide) (ite_n ?_ (ob_i (p_failing (k := 4) (by decide)) rfl)))))))
            rw [hC.n]; exact nI_nlt (b := 10) (by omega) (by omega)
          · have h5 : eC 4 σ 67 (Int32.toNatClampNeg 5) = nI (N 0 0) := by
              rw [eC_c (by decide)]; exact hM.n
            refine ob_i (isKind_t hu) (ite_n (by decide) (ite_p (inb_l (by decide) (by decide)) ?_))
            rw [h5]
            refine ob_i (in_t hv (by omega) rfl hpb) (ite_n (by decide) (ob_i (isNumber_t hw) (ite_n (by decide) (ite_p (inb_l (by decide) (by decide)) (ite_p ?_ (ob_i (p_error (k := 4) (by decide)) rfl))))))
            rw [h5, show N 0 0 = 10 by omega]
            rfl
      · refine P_err (FC := f_X6_build (nI u) (nI p) x2) (FM := f_X7_build (nI u) (nI p) x2) (k := 1) hI ?_ ?_
        · exact ob_i (isKm_t hu) (ite_n (by decide) (ite_n (nI_nn (by omega)) (ite_n k1 (ob_i (isPlate_f hw) (ite_p rfl hb)))))
        · refine ob_i (isKind_t hu) (ite_n (by decide) (ite_p (inb_l (by decide) (by decide)) ?_))
          rw [h5]
          exact ob_i (in_t hv (by omega) rfl hpb) (ite_n (by decide) (ob_i (isNumber_f hw) (ite_p rfl hb2)))
    · refine P_err (FC := f_X6_build (nI u) x1 x2) (FM := f_X7_build (nI u) x1 x2) (k := 1) hI ?_ ?_
      · refine ob_i (isKm_t hu) (ite_n (by decide) ?_)
        rw [isR_iff (by omega)] at hv
        by_cases h0 : x1 < 0
        · exact ite_p h0 hb
        · refine ite_n h0 (ite_p ?_ hb)
          rw [f_lt, show (0 : Int32).toInt = 0 from rfl] at h0
          rw [hC.n, f_lt, nI_toInt (by omega)]
          omega
      · refine ob_i (isKind_t hu) (ite_n (by decide) (ite_p (inb_l (by decide) (by decide)) ?_))
        rw [h5]
        exact ob_i (in_f hv (by omega) rfl (by rw [nI_toInt (by omega)]; omega)) (ite_p rfl hb2)
  · exact P_err (FC := f_X6_build x0 x1 x2) (FM := f_X7_build x0 x1 x2) (k := 1) hI (ob_i (isKm_f hu) (ite_p rfl hb)) (ob_i (isKind_f hu) (ite_p rfl hb2))
