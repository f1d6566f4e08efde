/-! order, fewest: the longest rising -/
def lisI (pl L : Nat → Nat) (i : Nat) : Nat → Nat
  | 0 => 1
  | j + 1 => if pl j < pl i then (if lisI pl L i j < L j + 1 then L j + 1 else lisI pl L i j) else lisI pl L i j
theorem lisI_s {pl L : Nat → Nat} {i j : Nat} : lisI pl L i (j + 1) = if pl j < pl i then (if lisI pl L i j < L j + 1 then L j + 1 else lisI pl L i j) else lisI pl L i j := rfl
def lisA (pl : Nat → Nat) : Nat → Nat → Nat
  | 0, _ => 0
  | i + 1, j => if j = i then lisI pl (lisA pl i) i i else lisA pl i j
def lisM (pl : Nat → Nat) : Nat → Nat
  | 0 => 0
  | i + 1 => if lisM pl i < lisI pl (lisA pl i) i i then lisI pl (lisA pl i) i i else lisM pl i
theorem lisI_b {pl L : Nat → Nat} {i : Nat} : ∀ j : Nat, (∀ t, t < j → L t ≤ t + 1) → 1 ≤ lisI pl L i j ∧ lisI pl L i j ≤ j + 1 := by
  intro j
  induction j with
  | zero => intro _; exact ⟨Nat.le_refl _, Nat.le_refl _⟩
  | succ j ih =>
    intro h
    have h1 := ih (fun t ht => h t (by omega))
    have h2 := h j (by omega)
    unfold lisI
    split
    · split <;> omega
    · omega
theorem lisA_b {pl : Nat → Nat} : ∀ i j : Nat, lisA pl i j ≤ j + 1 := by
  intro i
  induction i with
  | zero => intro j; exact Nat.zero_le _
  | succ i ih =>
    intro j
    show (if j = i then lisI pl (lisA pl i) i i else lisA pl i j) ≤ j + 1
    by_cases e : j = i
    · rw [if_pos e, e]
      exact (lisI_b i (fun t _ => ih t)).2
    · rw [if_neg e]; exact ih j
theorem lisM_b {pl : Nat → Nat} : ∀ i : Nat, lisM pl i ≤ i := by
  intro i
  induction i with
  | zero => exact Nat.le_refl _
  | succ i ih =>
    have := (lisI_b (pl := pl) (L := lisA pl i) (i := i) i (fun t _ => lisA_b i t)).2
    unfold lisM
    split <;> omega
theorem imax_nI {a b : Nat} (ha : a < 2 ^ 31) (hb : b < 2 ^ 31) : imax (nI a) (nI b) = nI (if a < b then b else a) := by
  unfold imax
  by_cases h : a < b
  · rw [if_pos h, if_pos (nI_lt h hb)]
  · rw [if_neg h, if_neg (nI_nlt (by omega) ha)]
section LIS
variable {N : Nat → Nat → Nat} {z : Int32} {wt : Nat → Int32} {tx : Nat → Nat → Int32}
theorem c_lisI (hK : OKN N tx) {i : Nat} (hi : i < N 0 0) {b : Nat} (hb : b ≤ 10) (L : Nat → Nat) (hL : ∀ t, L t ≤ t + 1) {K : Int32 → Int32 → St → Rs} : ∀ (f j : Nat) (σ : St), CV 0 σ N z wt tx → (∀ t, t < i → σ 54 t = nI (L t)) → j ≤ i → i < f + j → f_X4_longestRising_L24 K f (nI b) (nI i) (nI (lisI (plN N) L i j)) (nI j) σ = K (nI (if b < lisI (plN N) L i i then lisI (plN N) L i i else b)) (nI (i + 1)) (st σ 54 i (nI (lisI (plN N) L i i))) := by
  have h10 := hK.n
  intro f
  induction f with
  | zero => intro j σ h1 h2 h3 h4; omega
  | succ f ih =>
    intro j σ h1 h2 h3 h4
    have hbd := fun j => (lisI_b (pl := plN N) (L := L) (i := i) j (fun t _ => hL t)).2
    show f_X4_longestRising_b24 K (f_X4_longestRising_L24 K f) _ _ _ _ σ = _
    unfold f_X4_longestRising_b24
    by_cases e : j = i
    · subst e
      refine ite_p (nI_le (by omega) (by omega)) (ite_p (inb_i (by omega) (by decide)) (ol_i ?_))
      have := hbd j
      rw [nI_clamp (by omega), imax_nI (by omega) (by omega), nI_1]
    · refine ite_n (nI_ge (by omega) (by omega)) (ob_i (c_platAt h1 hK (by omega)) (ob_i (c_platAt h1 hK hi) ?_))
      have p1 := plN_b hK (p := j) (by omega)
      have p2 := plN_b hK hi
      have r := ih (j + 1) σ h1 h2 (by omega) (by omega)
      have q1 := hbd j
      have q2 := hL j
      rw [nI_1]
      by_cases q : plN N j < plN N i
      · refine ite_n (nI_ge q (by omega)) (ite_p (inb_i (by omega) (by decide)) ?_)
        rw [nI_clamp (by omega), h2 j (by omega), nI_1, imax_nI (by omega) (by omega)]
        rw [show lisI (plN N) L i (j + 1) = (if lisI (plN N) L i j < L j + 1 then L j + 1 else lisI (plN N) L i j) from if_pos q] at r
        exact r
      · refine ite_p (nI_le (by omega) (by omega)) ?_
        rw [show lisI (plN N) L i (j + 1) = lisI (plN N) L i j from if_neg q] at r
        exact r
theorem c_lisL (hK : OKN N tx) : ∀ (f i : Nat) (σ : St), CV 0 σ N z wt tx → (∀ t, t < i → σ 54 t = nI (lisA (plN N) i t)) → i ≤ N 0 0 → N 0 0 < f + i → ∃ σ1, f_X4_longestRising_L4 f (nI (lisM (plN N) i)) (nI i) σ = some (nI (lisM (plN N) (N 0 0)), σ1) ∧ ∀ q, q ≠ 54 → σ1 q = σ q := by
  have h10 := hK.n
  intro f
  induction f with
  | zero => intro i σ h1 h2 h3 h4; omega
  | succ f ih =>
    intro i σ h1 h2 h3 h4
    by_cases e : i = N 0 0
    · refine ⟨σ, ?_, fun q _ => rfl⟩
      show f_X4_longestRising_b4 (f_X4_longestRising_L4 f) _ _ σ = _
      unfold f_X4_longestRising_b4
      rw [e, h1.n]
      by_cases q : 10 ≤ nI (N 0 0)
      · exact ite_p q rfl
      · exact ite_n q (ite_p (nI_le (by omega) (by omega)) rfl)
    · have hb := lisM_b (pl := plN N) i
      obtain ⟨σ1, g1, g2⟩ := ih (i + 1) (st σ 54 i (nI (lisI (plN N) (lisA (plN N) i) i i))) (h1.fr (fun q hq => st_c (by omega))) (fun t ht => by
        show _ = nI (if t = i then lisI (plN N) (lisA (plN N) i) i i else lisA (plN N) i t)
        by_cases et : t = i
        · rw [if_pos et, et, st_s]
        · rw [if_neg et, st_k et, h2 t (by omega)]) (by omega) (by omega)
      refine ⟨σ1, ?_, fun q hq => by rw [g2 q hq, st_c hq]⟩
      show f_X4_longestRising_b4 (f_X4_longestRising_L4 f) _ _ σ = _
      unfold f_X4_longestRising_b4
      rw [h1.n]
      refine ite_n (nI_ge (b := 10) (by omega) (by decide)) (ite_n (nI_ge (by omega) (by omega)) ?_)
      exact (c_lisI hK (by omega) (by omega) (lisA (plN N) i) (fun t => lisA_b i t) LF 0 σ h1 h2 (by omega) (by unfold LF; omega)).trans g1
theorem m_lisI (hK : OKN N tx) {i : Nat} (hi : i < N 0 0) {b : Nat} (hb : b ≤ 10) (L : Nat → Nat) (hL : ∀ t, L t ≤ t + 1) {K : Int32 → Int32 → St → Rs} : ∀ (f j : Nat) (σ : St), MV 67 σ N z wt tx → (∀ t, t < i → σ 74 t = nI (L t)) → σ 74 i = nI (lisI (plN N) L i j) → j ≤ i → i < f + j → ∃ σ1, f_X7_longest_L23 K f (nI b) (nI i) (nI j) σ = K (nI (if b < lisI (plN N) L i i then lisI (plN N) L i i else b)) (nI (i + 1)) σ1 ∧ (∀ q, q ≠ 74 → σ1 q = σ q) ∧ (∀ t, t < i → σ1 74 t = nI (L t)) ∧ σ1 74 i = nI (lisI (plN N) L i i) := by
  have h10 := hK.n
  intro f
  induction f with
  | zero => intro j σ h1 h2 h2' h3 h4; omega
  | succ f ih =>
    intro j σ h1 h2 h2' h3 h4
    have hbd := fun j => (lisI_b (pl := plN N) (L := L) (i := i) j (fun t _ => hL t)).2
    by_cases e : j = i
    · subst e
      refine ⟨σ, ?_, fun q _ => rfl, h2, h2'⟩
      show f_X7_longest_b23 K (f_X7_longest_L23 K f) _ _ _ σ = _
      unfold f_X7_longest_b23
      simp (disch := omega) only [nI_clamp, h2', nI_1]
      have := hbd j
      refine ite_p (nI_le (by omega) (by omega)) (ite_p (inb_i (by omega) (by decide)) ?_)
      by_cases q : b < lisI (plN N) L j j
      · rw [if_pos q]
        exact ite_n (nI_ge q (by omega)) (ite_p (inb_i (by omega) (by decide)) rfl)
      · rw [if_neg q]
        exact ite_p (nI_le (by omega) (by omega)) rfl
    · have p1 := plN_b hK (p := j) (by omega)
      have p2 := plN_b hK hi
      have q1 := hbd j
      have q2 := hL j
      have aj := (hK.h (j := j) (by omega)).2.2.2.2.2.1
      have ai := (hK.h hi).2.2.2.2.2.1
      have base : ∀ y, (if nI (plN N i) ≤ nI (plN N j) then f_X7_longest_b71 K (f_X7_longest_L23 K f) (nI b) (nI i) (nI j) 0 σ else if nI (L j) < nI (lisI (plN N) L i j) then f_X7_longest_b71 K (f_X7_longest_L23 K f) (nI b) (nI i) (nI j) 0 σ else f_X7_longest_b71 K (f_X7_longest_L23 K f) (nI b) (nI i) (nI j) 1 σ) = y → f_X7_longest_L23 K (f + 1) (nI b) (nI i) (nI j) σ = y := by
        intro y hy
        show f_X7_longest_b23 K (f_X7_longest_L23 K f) _ _ _ σ = _
        refine ite_n (nI_ge (by omega) (by omega)) (ob_i (m_at h1 hK (by omega)) (ob_i (m_plate h1 hK aj) (ob_i (m_at h1 hK hi) (ob_i (m_plate h1 hK ai) ?_))))
        show (if nI (plN N i) ≤ nI (plN N j) then _ else _) = _
        by_cases q : nI (plN N i) ≤ nI (plN N j)
        · rw [if_pos q] at hy ⊢; exact hy
        · rw [if_neg q] at hy ⊢
          refine ite_p (inb_i (by omega) (by decide)) (ite_p (inb_i (by omega) (by decide)) ?_)
          simp (disch := omega) only [nI_clamp, h2', h2 j (by omega)]
          exact hy
      have b0 : f_X7_longest_b71 K (f_X7_longest_L23 K f) (nI b) (nI i) (nI j) 0 σ = f_X7_longest_L23 K f (nI b) (nI i) (nI (j + 1)) (st σ 74 i (nI (lisI (plN N) L i j))) := by
        refine ite_p rfl (ite_p (inb_i (by omega) (by decide)) (ite_p (inb_i (by omega) (by decide)) (ol_i ?_)))
        simp (disch := omega) only [nI_clamp, h2', nI_1]
      have b1 : f_X7_longest_b71 K (f_X7_longest_L23 K f) (nI b) (nI i) (nI j) 1 σ = f_X7_longest_L23 K f (nI b) (nI i) (nI (j + 1)) (st σ 74 i (nI (L j + 1))) := by
        refine ite_n (by decide) (ite_p (inb_i (by omega) (by decide)) (ite_p (inb_i (by omega) (by decide)) (ol_i ?_)))
        simp (disch := omega) only [nI_clamp, h2 j (by omega), nI_1]
      have nx : ∀ v, lisI (plN N) L i (j + 1) = v → ∃ σ1, f_X7_longest_L23 K f (nI b) (nI i) (nI (j + 1)) (st σ 74 i (nI v)) = K (nI (if b < lisI (plN N) L i i then lisI (plN N) L i i else b)) (nI (i + 1)) σ1 ∧ (∀ q, q ≠ 74 → σ1 q = σ q) ∧ (∀ t, t < i → σ1 74 t = nI (L t)) ∧ σ1 74 i = nI (lisI (plN N) L i i) := by
        rintro v rfl
        obtain ⟨σ1, g1, g2, g3⟩ := ih (j + 1) (st σ 74 i (nI (lisI (plN N) L i (j + 1)))) (h1.fr (st_c (by decide))) (fun t ht => by rw [st_k (by omega)]; exact h2 t ht) st_s (by omega) (by omega)
        exact ⟨σ1, g1, fun q hq => by rw [g2 q hq, st_c hq], g3⟩
      by_cases q : plN N j < plN N i
      · by_cases q3 : L j < lisI (plN N) L i j
        · obtain ⟨σ1, g1, g2⟩ := nx (lisI (plN N) L i j) (by rw [lisI_s, if_pos q, if_neg (by omega)])
          exact ⟨σ1, base _ (ite_n (nI_ge q (by omega)) (ite_p (nI_lt q3 (by omega)) (b0.trans g1))), g2⟩
        · obtain ⟨σ1, g1, g2⟩ := nx (L j + 1) (by rw [lisI_s, if_pos q, if_pos (by omega)])
          exact ⟨σ1, base _ (ite_n (nI_ge q (by omega)) (ite_n (nI_nlt (by omega) (by omega)) (b1.trans g1))), g2⟩
      · obtain ⟨σ1, g1, g2⟩ := nx (lisI (plN N) L i j) (if_neg q)
        exact ⟨σ1, base _ (ite_p (nI_le (by omega) (by omega)) (b0.trans g1)), g2⟩
theorem m_lisL (hK : OKN N tx) : ∀ (f i : Nat) (σ : St), MV 67 σ N z wt tx → (∀ t, t < i → σ 74 t = nI (lisA (plN N) i t)) → i ≤ N 0 0 → N 0 0 < f + i → ∃ σ1, f_X7_longest_L4 f (nI (lisM (plN N) i)) (nI i) σ = some (nI (lisM (plN N) (N 0 0)), σ1) ∧ ∀ q, q ≠ 74 → σ1 q = σ q := by
  have h10 := hK.n
  intro f
  induction f with
  | zero => intro i σ h1 h2 h3 h4; omega
  | succ f ih =>
    intro i σ h1 h2 h3 h4
    have h5 : σ 67 (Int32.toNatClampNeg 5) = nI (N 0 0) := h1.n
    by_cases e : i = N 0 0
    · refine ⟨σ, ?_, fun q _ => rfl⟩
      show f_X7_longest_b4 (f_X7_longest_L4 f) _ _ σ = _
      refine ite_p (inb_l (by decide) (by decide)) ?_
      rw [e, h5]
      exact ite_p (nI_le (by omega) (by omega)) rfl
    · have hb := lisM_b (pl := plN N) i
      obtain ⟨σ1, g1, g2, g3, g4⟩ := m_lisI hK (K := f_X7_longest_L4 f) (show i < N 0 0 by omega) (b := lisM (plN N) i) (by omega) (lisA (plN N) i) (fun t => lisA_b i t) LF 0 (st σ 74 i 1) (h1.fr (st_c (by decide))) (fun t ht => by rw [st_k (by omega)]; exact h2 t ht) st_s (by omega) (by unfold LF; omega)
      obtain ⟨σ2, f1, f2⟩ := ih (i + 1) σ1 (h1.fr (by rw [g2 _ (by decide), st_c (by decide)])) (fun t ht => by
        show _ = nI (if t = i then lisI (plN N) (lisA (plN N) i) i i else lisA (plN N) i t)
        by_cases et : t = i
        · rw [if_pos et, et, g4]
        · rw [if_neg et, g3 t (by omega)]) (by omega) (by omega)
      refine ⟨σ2, ?_, fun q hq => by rw [f2 q hq, g2 q hq, st_c hq]⟩
      show f_X7_longest_b4 (f_X7_longest_L4 f) _ _ σ = _
      refine ite_p (inb_l (by decide) (by decide)) ?_
      rw [h5]
      refine ite_n (nI_ge (by omega) (by omega)) (ite_p (inb_i (by omega) (by decide)) (ol_i ?_))
      rw [nI_clamp (by omega)]
      exact g1.trans f1
end LIS
theorem scrR {σ σ1 : St} {r : Nat} (hr : r = 54 ∨ r = 74) (h : ∀ q, q ≠ r → σ1 q = σ q) : Eqo scr σ σ1 := fun q k hq => by
  rw [h q]
  rcases hr with rfl | rfl <;> (rintro rfl; revert hq; unfold scr; simp)
theorem P_fewest {σ : St} (hI : Inv σ)  : ∃ (r : Int32) (σ1 σ2 : St), f_X6_fewest  σ = some (r, σ1) ∧ f_X7_fewest  σ1 = some (r, σ2) ∧ Inv σ2 := by
  obtain ⟨⟨N, z, wt, tx, hC, hM, hK⟩, -⟩ := id hI
  have h10 := hK.n
  obtain ⟨σ1, g1, g2⟩ := c_lisL hK LF 0 σ hC (fun t ht => absurd ht (Nat.not_lt_zero _)) (by omega) (by unfold LF; omega)
  have hM1 : MV 67 σ1 N z wt tx := hM.fr (g2 _ (by decide))
  obtain ⟨σ2, f1, f2⟩ := m_lisL hK LF 0 σ1 hM1 (fun t ht => absurd ht (Nat.not_lt_zero _)) (by omega) (by unfold LF; omega)
  refine ⟨nI (N 0 0) - nI (lisM (plN N) (N 0 0)), σ1, σ2, ob_i (show f_X4_longestRising σ = _ from g1) ?_, ite_p (inb_l (by decide) (by decide)) (ob_i (show f_X7_longest σ1 = _ from f1) ?_), (hI.fr (scrR (Or.inl rfl) g2)).fr (scrR (Or.inr rfl) f2)⟩
  · rw [hC.n]
  · rw [cl_lit (by decide), hM1.n]
/-- the longest rising is as long as the street only where all rise -/
theorem lis_up {pl : Nat → Nat} {n : Nat} (h : ∀ p, p + 1 < n → pl p < pl (p + 1)) : lisM pl n = n := by
  have hm : ∀ a d, a + d < n → d ≠ 0 → pl a < pl (a + d) := by
    intro a d
    induction d with
    | zero => intro _ h0; exact absurd rfl h0
    | succ d ih =>
      intro hd _
      have h1 := h (a + d) (by omega)
      rw [show a + (d + 1) = a + d + 1 by omega]
      by_cases e : d = 0
      · subst e; exact h1
      · have := ih (by omega) e; omega
  have key : ∀ i, i ≤ n → (∀ t, t < i → lisA pl i t = t + 1) ∧ lisM pl i = i := by
    intro i
    induction i with
    | zero => intro _; exact ⟨fun t ht => absurd ht (Nat.not_lt_zero _), rfl⟩
    | succ i ih =>
      intro hi
      obtain ⟨a1, a2⟩ := ih (by omega)
      have inn : ∀ j, j ≤ i → lisI pl (lisA pl i) i j = j + 1 := by
        intro j
        induction j with
        | zero => intro _; rfl
        | succ j ihj =>
          intro hj
          have := hm j (i - j) (by omega) (by omega)
          rw [show j + (i - j) = i by omega] at this
          unfold lisI
          rw [if_pos this, ihj (by omega), a1 j (by omega), if_pos (by omega)]
      refine ⟨fun t ht => ?_, ?_⟩
      · show (if t = i then lisI pl (lisA pl i) i i else lisA pl i t) = t + 1
        by_cases e : t = i
        · rw [if_pos e, e, inn i (Nat.le_refl _)]
        · rw [if_neg e, a1 t (by omega)]
      · unfold lisM
        rw [inn i (Nat.le_refl _), a2, if_pos (by omega)]
  exact (key n (Nat.le_refl _)).2
theorem lisI_top {pl L : Nat → Nat} {i : Nat} (hL : ∀ t, L t ≤ t + 1) : ∀ j : Nat, lisI pl L i (j + 1) = j + 2 → pl j < pl i ∧ L j = j + 1 := by
  intro j h
  have hb := (lisI_b (pl := pl) (L := L) (i := i) j (fun t _ => hL t)).2
  have := hL j
  unfold lisI at h
  by_cases q : pl j < pl i
  · rw [if_pos q] at h
    refine ⟨q, ?_⟩
    split at h <;> omega
  · rw [if_neg q] at h; omega
theorem lis_dn {pl : Nat → Nat} : ∀ n, lisM pl n = n → ∀ p, p + 1 < n → pl p < pl (p + 1) := by
  have st1 : ∀ i t, t < i → lisA pl i t = lisA pl (t + 1) t := by
    intro i
    induction i with
    | zero => intro t ht; omega
    | succ i ih =>
      intro t ht
      by_cases e : t = i
      · rw [e]
      · rw [← ih t (by omega)]
        exact if_neg e
  have dn : ∀ i, lisI pl (lisA pl i) i i = i + 1 → ∀ p, p < i → pl p < pl (p + 1) := by
    intro i
    induction i with
    | zero => intro _ p hp; omega
    | succ i ih =>
      intro h p hp
      obtain ⟨g1, g2⟩ := lisI_top (fun t => lisA_b _ t) i h
      by_cases e : p = i
      · rw [e]; exact g1
      · refine ih ?_ p (by omega)
        rw [show lisA pl (i + 1) i = lisI pl (lisA pl i) i i from if_pos rfl] at g2
        exact g2
  intro n h p hp
  cases n with
  | zero => omega
  | succ n =>
    have hb := lisM_b (pl := pl) n
    have : lisI pl (lisA pl n) n n = n + 1 := by
      unfold lisM at h
      split at h <;> omega
    exact dn n this p (by omega)
theorem P_order {σ : St} (hI : Inv σ)  : ∃ (r : Int32) (σ1 σ2 : St), f_X6_order  σ = some (r, σ1) ∧ f_X7_order  σ1 = some (r, σ2) ∧ Inv σ2 := by
  obtain ⟨⟨N, z, wt, tx, hC, hM, hK⟩, -⟩ := id hI
  have h10 := hK.n
  have lp : ∀ (f i : Nat), 1 ≤ i → (∀ p, p + 1 < i → plN N p < plN N (p + 1)) → i ≤ N 0 0 ∨ i = 1 → N 0 0 + 1 < f + i → f_X6_order_L2 f (nI i) σ = some (if lisM (plN N) (N 0 0) = N 0 0 then 1 else 0, σ) := by
    intro f
    induction f with
    | zero => intro i h0 h1 h2 h3; omega
    | succ f ih =>
      intro i h0 h1 h2 h3
      show f_X6_order_b2 (f_X6_order_L2 f) (nI i) σ = _
      unfold f_X6_order_b2
      rw [hC.n]
      by_cases e : N 0 0 ≤ i
      · rw [if_pos (lis_up (fun p hp => h1 p (by omega)))]
        exact ite_p (nI_le e (by omega)) rfl
      · have b1 := plN_b hK (p := i) (by omega)
        have b2 := plN_b hK (p := i - 1) (by omega)
        have es : (nI i - 1 : Int32) = nI (i - 1) := pk_sub (b := 1) h0
        rw [es, nI_1]
        refine ite_n (nI_ge (by omega) (by omega)) (ob_i (c_platAt hC hK (by omega)) (ob_i (c_platAt hC hK (by omega)) ?_))
        by_cases q : plN N (i - 1) < plN N i
        · refine ite_p (nI_lt q (by omega)) (ih (i + 1) (by omega) (fun p hp => ?_) (by omega) (by omega))
          by_cases ep : p = i - 1
          · rw [ep, show i - 1 + 1 = i by omega]; exact q
          · exact h1 p (by omega)
        · have hn : ¬ lisM (plN N) (N 0 0) = N 0 0 := fun h => q (by
            have := lis_dn _ h (i - 1) (by omega)
            rwa [show i - 1 + 1 = i by omega] at this)
          rw [if_neg hn]
          exact ite_n (nI_nlt (by omega) (by omega)) rfl
  obtain ⟨σ2, f1, f2⟩ := m_lisL hK LF 0 σ hM (fun t ht => absurd ht (Nat.not_lt_zero _)) (by omega) (by unfold LF; omega)
  refine ⟨_, σ, σ2, lp LF 1 (by omega) (fun p hp => by omega) (Or.inr rfl) (by unfold LF; omega), ob_i (show f_X7_longest σ = _ from f1) (ite_p (inb_l (by decide) (by decide)) ?_), hI.fr (scrR (Or.inr rfl) f2)⟩
  have hb := lisM_b (pl := plN N) (N 0 0)
  rw [cl_lit (by decide), f2 _ (by decide), hM.n]
  by_cases q : lisM (plN N) (N 0 0) = N 0 0
  · rw [if_pos q]
    exact ite_p (by rw [q]) rfl
  · rw [if_neg q]
    exact ite_n (by rw [nI_eq (by omega) (by omega)]; exact q) rfl
