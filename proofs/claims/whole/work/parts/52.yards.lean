/-! yards: houseIs, judge -/
/-- how long the front of a house is -/
def frN (N : Nat → Nat → Nat) (h : Nat) : Nat := if N 1 h = 1 then 2 * (6 + N 2 h) else if N 1 h = 2 then 4 + N 2 h else if N 1 h = 4 then 2 * (6 + N 2 h) + 10 else if N 1 h = 5 then (4 + N 2 h) / 2 else if N 1 h = 6 then 20 + N 0 1 % 5 else 6 + N 2 h
def ydI (N : Nat → Nat → Nat) (tx : Nat → Nat → Int32) (h : Nat) : Int32 := gvI 1 (N 7 1) (tx 1) (e3 (nI (frN N h)) (nI (N 4 h)) (nI (N 0 1 % 7)))
/-- the yards of a house -/
def ydN (N : Nat → Nat → Nat) (tx : Nat → Nat → Int32) (h : Nat) : Nat := (ydI N tx h).toNatClampNeg
theorem cl2_y {y : Int32} : isR 1 100 (cl2 1 99 y) := by
  rw [isR_iff (by decide)]
  unfold cl2
  by_cases h : (1 : Int32) ≤ y
  · rw [if_pos h]
    rw [f_le, show (1 : Int32).toInt = 1 from rfl] at h
    by_cases h2 : y ≤ 99
    · rw [if_pos h2]
      rw [f_le, show (99 : Int32).toInt = 99 from rfl] at h2
      omega
    · rw [if_neg h2, show (99 : Int32).toInt = 99 from rfl]; omega
  · rw [if_neg h, show (1 : Int32).toInt = 1 from rfl]; omega
theorem ydI_n (N : Nat → Nat → Nat) (tx : Nat → Nat → Int32) (h : Nat) : ydI N tx h = nI (ydN N tx h) ∧ ydN N tx h ≤ 99 := by
  have : isR 1 100 (ydI N tx h) := by
    unfold ydI gvI
    rw [if_neg (show ¬ 1 = 0 by decide)]
    exact cl2_y
  obtain ⟨r1, -, r3⟩ := isR_cl this (by decide)
  exact ⟨r1, by unfold ydN; omega⟩
section YD
variable {N : Nat → Nat → Nat} {z : Int32} {wt : Nat → Int32} {tx : Nat → Nat → Int32} {σ : St}
theorem fr_2 {e : Nat} (h : e < 10) : ((6 + nI e) - 2 : Int32) = nI (4 + e) := by
  rw [show (6 + nI e : Int32) = nI (6 + e) from nI_add 6 e, show (nI (6 + e) - 2 : Int32) = nI (6 + e - 2) from pk_sub (b := 2) (by omega), show 6 + e - 2 = 4 + e by omega]
theorem fr_1 {e : Nat} : (2 * (6 + nI e) : Int32) = nI (2 * (6 + e)) := by
  rw [show (6 + nI e : Int32) = nI (6 + e) from nI_add 6 e]
  exact pk_mul 2 _
theorem fr_all {K : Int32 → Rs} {k e y : Nat} (he : e < 10) (hk : k < 7) (hy : y ≤ 9999) : (if nI k = 1 then K (2 * (6 + nI e)) else if nI k = 2 then K ((6 + nI e) - 2) else if nI k = 3 then K (6 + nI e) else if nI k = 4 then K ((2 * (6 + nI e)) + 10) else if nI k = 5 then K (((6 + nI e) - 2) / 2) else if nI k = 6 then K (20 + irm (nI y) 5) else K (6 + nI e)) = K (nI (if k = 1 then 2 * (6 + e) else if k = 2 then 4 + e else if k = 4 then 2 * (6 + e) + 10 else if k = 5 then (4 + e) / 2 else if k = 6 then 20 + y % 5 else 6 + e)) := by
  rw [fr_2 he, fr_1, show (6 + nI e : Int32) = nI (6 + e) from nI_add 6 e, show (nI (2 * (6 + e)) + 10 : Int32) = nI (2 * (6 + e) + 10) from nI_add _ 10, show (nI (4 + e) / 2 : Int32) = nI ((4 + e) / 2) from pk_div (d := 2) (by omega) (by decide) (by decide), show irm (nI y) 5 = nI (y % 5) from irm_nI (d := 5) (by omega) (by decide) (by decide), show (20 + nI (y % 5) : Int32) = nI (20 + y % 5) from nI_add 20 _]
  rcases (show k = 0 ∨ k = 1 ∨ k = 2 ∨ k = 3 ∨ k = 4 ∨ k = 5 ∨ k = 6 by omega) with e | e | e | e | e | e | e <;> subst e <;> rfl
theorem c_front (hC : CV 0 σ N z wt tx) (hK : OKN N tx) {h : Nat} (hh : h < N 0 0) : f_X3_front (nI h) σ = some (nI (frN N h), σ) := by
  have h10 := hK.n
  obtain ⟨k1, k2, -⟩ := hK.h hh
  refine ob_i (c_m hC.n h10 hh) (ob_i (c_kind hC.n h10 hh) ?_)
  rw [hC.kd hh, hC.em hh, hC.y]
  exact fr_all (K := fun x => some (x, σ)) k2 k1 hK.y
theorem m_front (hM : MV 67 σ N z wt tx) (hK : OKN N tx) {h : Nat} (hh : h < N 0 0) : f_X7_frontOf (nI h) σ = some (nI (frN N h), σ) := by
  have h10 := hK.n
  obtain ⟨k1, k2, -⟩ := hK.h hh
  refine ob_i (m_its (w := 1) (by omega) (by decide)) (ob_i (m_its (w := 0) (by omega) (by decide)) ?_)
  rw [show 8 + 4 * h + 1 = 9 + 4 * h by omega, show 8 + 4 * h + 0 = 8 + 4 * h from rfl, hM.kd hh, hM.em hh]
  have e0 : σ 67 (Int32.toNatClampNeg 0) = nI (N 0 1) := hM.y
  have := fr_all (K := fun x => (some (x, σ) : Rs)) k2 k1 hK.y
  rw [e0, if_pos (inb_l (by decide) (by decide))]
  exact this
theorem c_yards (hC : CV 0 σ N z wt tx) (hK : OKN N tx) {p : Nat} (hp : p < N 0 0) : ∃ σ1, f_X3_yardsAt (nI p) σ = some (nI (ydN N tx (N 5 p)), σ1) ∧ ∀ q, q ≠ 8 → σ1 q = σ q := by
  have h10 := hK.n
  obtain ⟨-, -, -, -, -, h5, -, h45⟩ := hK.h hp
  have hy := hK.y
  obtain ⟨σ1, g1, g2⟩ := c_give hC hK (u := 1) (by decide) (e3 (nI (frN N (N 5 p))) (nI (N 4 (N 5 p))) (nI (N 0 1 % 7)))
  refine ⟨σ1, ob_i (c_houseAt hC.n h10 hp) ?_, g2⟩
  rw [hC.rw hp]
  refine ob_i (c_front hC hK h5) ?_
  rw [hC.y, show irm (nI (N 0 1)) 7 = nI (N 0 1 % 7) from irm_nI (d := 7) (by omega) (by decide) (by decide), show nI p = nI (N 4 (N 5 p)) by rw [h45], ← (ydI_n N tx (N 5 p)).1]
  exact ob_i g1 rfl
theorem m_yards (hM : MV 67 σ N z wt tx) (hK : OKN N tx) {h : Nat} (hh : h < N 0 0) : ∃ σ1, f_X7_yardsOf (nI h) σ = some (nI (ydN N tx h), σ1) ∧ ∀ q, q ≠ 71 → q ≠ 72 → σ1 q = σ q := by
  have h10 := hK.n
  have hy := hK.y
  obtain ⟨σ1, g1, g2⟩ := m_told1 hM hK (nI (frN N h)) (nI (N 4 h)) (nI (N 0 1 % 7))
  refine ⟨σ1, ob_i (m_front hM hK hh) (ob_i (m_its (w := 3) (by omega) (by decide)) (ite_p (inb_l (by decide) (by decide)) ?_)), g2⟩
  rw [show σ 67 (Int32.toNatClampNeg 0) = nI (N 0 1) from hM.y, show irm (nI (N 0 1)) 7 = nI (N 0 1 % 7) from irm_nI (d := 7) (by omega) (by decide) (by decide), show 8 + 4 * h + 3 = 11 + 4 * h by omega, hM.pc hh, ← (ydI_n N tx h).1]
  exact ob_i g1 rfl
end YD
section YA
variable {N : Nat → Nat → Nat} {z : Int32} {wt : Nat → Int32} {tx : Nat → Nat → Int32}
/-- the yards of all ahead of a place -/
def yaN (N : Nat → Nat → Nat) (tx : Nat → Nat → Int32) (p : Nat) : Nat := sm (fun q => ydN N tx (N 5 q)) p
theorem ya_b (N : Nat → Nat → Nat) (tx : Nat → Nat → Int32) (p : Nat) : yaN N tx p ≤ 99 * p := sm_b (fun i => (ydI_n N tx (N 5 i)).2) p
theorem c_yaL (hK : OKN N tx) {p : Nat} (hp : p ≤ N 0 0) : ∀ (f i : Nat) (σ : St), CV 0 σ N z wt tx → i ≤ p → p < f + i → ∃ σ1, f_X3_yardsAhead_L4 f (nI p) (nI (yaN N tx i)) (nI i) σ = some (nI (yaN N tx p), σ1) ∧ ∀ q, q ≠ 8 → σ1 q = σ q := by
  have h10 := hK.n
  intro f
  induction f with
  | zero => intro i σ h1 h2 h3; omega
  | succ f ih =>
    intro i σ h1 h2 h3
    by_cases e : i = p
    · refine ⟨σ, ?_, fun q _ => rfl⟩
      show f_X3_yardsAhead_b4 (f_X3_yardsAhead_L4 f) _ _ _ σ = _
      unfold f_X3_yardsAhead_b4
      rw [e]
      exact ite_p (nI_le (by omega) (by omega)) rfl
    · obtain ⟨σ1, g1, g2⟩ := c_yards h1 hK (show i < N 0 0 by omega)
      obtain ⟨σ2, f1, f2⟩ := ih (i + 1) σ1 (h1.fr (fun q hq => g2 _ (by omega))) (by omega) (by omega)
      refine ⟨σ2, ?_, fun q hq => by rw [f2 q hq, g2 q hq]⟩
      show f_X3_yardsAhead_b4 (f_X3_yardsAhead_L4 f) _ _ _ σ = _
      refine ite_n (nI_ge (by omega) (by omega)) (ob_i g1 ?_)
      rw [nI_add, nI_1]
      exact f1
theorem ya_h (hK : OKN N tx) {p : Nat} (hp : p ≤ N 0 0) : sm (fun h => if N 4 h < p then ydN N tx h else 0) (N 0 0) = yaN N tx p := by
  rw [← sm_p hK (fun h => if N 4 h < p then ydN N tx h else 0)]
  rw [sm_c (g := fun q => if q < p then ydN N tx (N 5 q) else 0) _ (fun i hi => by
    have := (hK.h hi).2.2.2.2.2.2.2
    rw [this])]
  have e : ∀ n, sm (fun q => if q < p then ydN N tx (N 5 q) else 0) n = yaN N tx (if n ≤ p then n else p) := by
    intro n
    induction n with
    | zero => rw [if_pos (Nat.zero_le _)]; rfl
    | succ n ih =>
      show sm (fun q => if q < p then ydN N tx (N 5 q) else 0) n + (if n < p then ydN N tx (N 5 n) else 0) = _
      rw [ih]
      by_cases q : n < p
      · rw [if_pos (by omega), if_pos q, if_pos (by omega)]; rfl
      · rw [if_neg q, if_neg (show ¬ n + 1 ≤ p by omega)]
        by_cases q2 : n ≤ p
        · rw [if_pos q2, show n = p by omega]; rfl
        · rw [if_neg q2]; rfl
  rw [e]
  by_cases q : N 0 0 ≤ p
  · rw [if_pos q, show N 0 0 = p by omega]
  · rw [if_neg q]
theorem m_yaL (hK : OKN N tx) {p : Nat} (hp : p ≤ N 0 0) : ∀ (f i : Nat) (σ : St), MV 67 σ N z wt tx → i ≤ N 0 0 → N 0 0 < f + i → ∃ σ1, f_X7_yardsAhead_L4 f (nI p) (nI (sm (fun h => if N 4 h < p then ydN N tx h else 0) i)) (nI i) σ = some (nI (sm (fun h => if N 4 h < p then ydN N tx h else 0) (N 0 0)), σ1) ∧ ∀ q, q ≠ 71 → q ≠ 72 → σ1 q = σ q := by
  have h10 := hK.n
  intro f
  induction f with
  | zero => intro i σ h1 h2 h3; omega
  | succ f ih =>
    intro i σ h1 h2 h3
    have c5 : σ 67 (Int32.toNatClampNeg 5) = nI (N 0 0) := h1.n
    by_cases e : i = N 0 0
    · refine ⟨σ, ?_, fun q _ _ => rfl⟩
      show f_X7_yardsAhead_b4 (f_X7_yardsAhead_L4 f) _ _ _ σ = _
      refine ite_p (inb_l (by decide) (by decide)) ?_
      rw [e, c5]
      exact ite_p (nI_le (by omega) (by omega)) rfl
    · have h4 := (hK.h (j := i) (by omega)).2.2.2.2.1
      have base : ∀ {y : Rs}, (if nI p ≤ nI (N 4 i) then f_X7_yardsAhead_L4 f (nI p) (nI (sm (fun h => if N 4 h < p then ydN N tx h else 0) i) + 0) (nI (i + 1)) σ else ob (f_X7_yardsOf (nI i) σ) fun r3 σ3 => f_X7_yardsAhead_L4 f (nI p) (nI (sm (fun h => if N 4 h < p then ydN N tx h else 0) i) + r3) (nI (i + 1)) σ3) = y → f_X7_yardsAhead_L4 (f + 1) (nI p) (nI (sm (fun h => if N 4 h < p then ydN N tx h else 0) i)) (nI i) σ = y := by
        intro y hy
        show f_X7_yardsAhead_b4 (f_X7_yardsAhead_L4 f) _ _ _ σ = _
        refine ite_p (inb_l (by decide) (by decide)) ?_
        rw [c5]
        refine ite_n (nI_ge (by omega) (by omega)) (ob_i (m_its (w := 3) (by omega) (by decide)) ?_)
        rw [show 8 + 4 * i + 3 = 11 + 4 * i by omega, h1.pc (by omega), nI_1]
        exact hy
      have es : ∀ v, (if N 4 i < p then ydN N tx i else 0) = v → sm (fun h => if N 4 h < p then ydN N tx h else 0) (i + 1) = sm (fun h => if N 4 h < p then ydN N tx h else 0) i + v := by
        rintro v rfl
        rfl
      by_cases q : N 4 i < p
      · obtain ⟨σ1, g1, g2⟩ := m_yards h1 hK (show i < N 0 0 by omega)
        obtain ⟨σ2, f1, f2⟩ := ih (i + 1) σ1 (h1.fr (g2 _ (by decide) (by decide))) (by omega) (by omega)
        refine ⟨σ2, base (ite_n (nI_ge (by omega) (by omega)) (ob_i g1 ?_)), fun q hq hq2 => by rw [f2 q hq hq2, g2 q hq hq2]⟩
        rw [nI_add, ← es _ (if_pos q)]
        exact f1
      · obtain ⟨σ2, f1, f2⟩ := ih (i + 1) σ h1 (by omega) (by omega)
        refine ⟨σ2, base (ite_p (nI_le (by omega) (by omega)) ?_), f2⟩
        rw [es 0 (if_neg q)] at f1
        rw [show (nI (sm (fun h => if N 4 h < p then ydN N tx h else 0) i) + 0 : Int32) = nI (sm (fun h => if N 4 h < p then ydN N tx h else 0) i + 0) from nI_add _ 0]
        exact f1
theorem c_ya (hK : OKN N tx) {p : Nat} (hp : p ≤ N 0 0) {σ : St} (h : CV 0 σ N z wt tx) : ∃ σ1, f_X3_yardsAhead (nI p) σ = some (nI (yaN N tx p), σ1) ∧ ∀ q, q ≠ 8 → σ1 q = σ q := by
  have h10 := hK.n
  exact c_yaL hK hp LF 0 σ h (Nat.zero_le _) (by unfold LF; omega)
theorem m_ya (hK : OKN N tx) {p : Nat} (hp : p ≤ N 0 0) {σ : St} (h : MV 67 σ N z wt tx) : ∃ σ1, f_X7_yardsAhead (nI p) σ = some (nI (yaN N tx p), σ1) ∧ ∀ q, q ≠ 71 → q ≠ 72 → σ1 q = σ q := by
  have h10 := hK.n
  obtain ⟨σ1, g1, g2⟩ := m_yaL hK hp LF 0 σ h (Nat.zero_le _) (by unfold LF; omega)
  rw [ya_h hK hp] at g1
  exact ⟨σ1, g1, g2⟩
/-- the place of a house, asked of the class -/
theorem c_placeL (hK : OKN N tx) {h : Nat} (hh : h < N 0 0) {σ : St} (hC : CV 0 σ N z wt tx) : ∀ (f i : Nat), i ≤ N 4 h → N 4 h < f + i → f_X3_placeOf_L2 f (nI h) (nI i) σ = some (nI (N 4 h), σ) := by
  have h10 := hK.n
  obtain ⟨-, -, -, -, h4, -, h54, -⟩ := hK.h hh
  intro f
  induction f with
  | zero => intro i h1 h2; omega
  | succ f ih =>
    intro i h1 h2
    show f_X3_placeOf_b2 (f_X3_placeOf_L2 f) _ _ σ = _
    unfold f_X3_placeOf_b2
    rw [hC.n]
    refine ite_n (nI_ge (b := 10) (by omega) (by decide)) (ite_n (nI_ge (by omega) (by omega)) (ite_p (inb_i (by omega) (by decide)) ?_))
    rw [nI_clamp (by omega), hC.rw (by omega)]
    by_cases e : i = N 4 h
    · rw [e, h54]
      exact ite_p rfl rfl
    · have h5i := (hK.h (j := i) (by omega)).2.2.2.2.2.1
      have h45 := (hK.h (j := i) (by omega)).2.2.2.2.2.2.2
      refine ite_n (fun q => ?_) ?_
      · rw [nI_eq (by omega) (by omega)] at q
        rw [q] at h45
        omega
      · rw [nI_1]
        exact ih (i + 1) (by omega) (by omega)
theorem c_placeOf (hK : OKN N tx) {h : Nat} (hh : h < N 0 0) {σ : St} (hC : CV 0 σ N z wt tx) : f_X3_placeOf (nI h) σ = some (nI (N 4 h), σ) := by
  have h10 := hK.n
  have h4 := (hK.h hh).2.2.2.2.1
  exact c_placeL hK hh hC LF 0 (Nat.zero_le _) (by unfold LF; omega)
end YA
theorem P_houseIs {σ : St} (hI : Inv σ) (x0 : Int32) (x1 : Int32) : ∃ (r : Int32) (σ1 σ2 : St), f_X6_houseIs x0 x1 σ = some (r, σ1) ∧ f_X7_houseIs x0 x1 σ1 = some (r, σ2) ∧ Inv σ2 := by
  obtain ⟨⟨N, z, wt, tx, hC, hM, hK⟩, -⟩ := id hI
  have h10 := hK.n
  by_cases hv : isR 0 (N 0 0) x0
  · obtain ⟨h, -, hh, rfl⟩ := id hv
    have h4 := (hK.h hh).2.2.2.2.1
    have h54 := (hK.h hh).2.2.2.2.2.2.1
    by_cases hw : isR 0 6 x1
    · obtain ⟨w, -, hw2, rfl⟩ := id hw
      have cb : ∀ {y : Rs}, (if nI w = 0 then (ob (f_X3_kind (nI h) σ) fun r σ => some (r, σ)) else if nI w = 1 then (ob (f_X3_m (nI h) σ) fun r σ => some (r, σ)) else if nI w = 2 then (ob (f_X3_plate (nI h) σ) fun r σ => some (r, σ)) else if nI w = 3 then (ob (f_X3_placeOf (nI h) σ) fun r σ => some (r, σ)) else if nI w = 4 then (ob (f_X3_placeOf (nI h) σ) fun r σ => ob (f_X3_yardsAt r σ) fun r σ => some (r, σ)) else if nI w = 5 then (ob (f_X3_placeOf (nI h) σ) fun r σ => ob (f_X3_yardsAhead r σ) fun r σ => some (r, σ)) else (ob (f_X6_failing 1 σ) fun r σ => some (r, σ))) = y → f_X6_houseIs (nI h) (nI w) σ = y := fun hy => ob_i (hasHouse_t hC.n h10 hv) (ite_n (by decide) hy)
      have mb : ∀ (s : St), MV 67 s N z wt tx → ∀ {y : Rs}, (if (4 : Int32) ≤ nI w then (if nI w = 4 then (ob (f_X7_yardsOf (nI h) s) fun r6 σ6 => some (r6, σ6)) else (ob (f_X7_its (nI h) 3 s) fun r4 σ4 => ob (f_X7_yardsAhead r4 σ4) fun r5 σ5 => some (r5, σ5))) else (ob (f_X7_its (nI h) (nI w) s) fun r8 σ8 => some (r8, σ8))) = y → f_X7_houseIs (nI h) (nI w) s = y := fun s hs y hy => ob_i (m_isHouse_t hs.n h10 hv) (ite_n (by decide) (ob_i (in_t hw (by decide) rfl rfl) (ite_n (by decide) hy)))
      rcases (show w = 0 ∨ w = 1 ∨ w = 2 ∨ w = 3 ∨ w = 4 ∨ w = 5 by omega) with e | e | e | e | e | e <;> subst e
      · refine ⟨nI (N 1 h), σ, σ, cb (ob_i (c_kind hC.n h10 hh) ?_), mb σ hM (ob_i (m_its (w := 0) (by omega) (by decide)) ?_), hI⟩
        · rw [hC.kd hh]
        · rw [show 8 + 4 * h + 0 = 8 + 4 * h from rfl, hM.kd hh]
      · refine ⟨nI (N 2 h), σ, σ, cb (ob_i (c_m hC.n h10 hh) ?_), mb σ hM (ob_i (m_its (w := 1) (by omega) (by decide)) ?_), hI⟩
        · rw [hC.em hh]
        · rw [show 8 + 4 * h + 1 = 9 + 4 * h by omega, hM.em hh]
      · refine ⟨nI (N 3 h), σ, σ, cb (ob_i (c_plate hC.n h10 hh) ?_), mb σ hM (ob_i (m_its (w := 2) (by omega) (by decide)) ?_), hI⟩
        · rw [hC.pl hh]
        · rw [show 8 + 4 * h + 2 = 10 + 4 * h by omega, hM.pl hh]
      · refine ⟨nI (N 4 h), σ, σ, cb (ob_i (c_placeOf hK hh hC) rfl), mb σ hM (ob_i (m_its (w := 3) (by omega) (by decide)) ?_), hI⟩
        rw [show 8 + 4 * h + 3 = 11 + 4 * h by omega, hM.pc hh]
      · obtain ⟨σ1, g1, g2⟩ := c_yards hC hK h4
        rw [h54] at g1
        have hM1 : MV 67 σ1 N z wt tx := hM.fr (g2 _ (by decide))
        obtain ⟨σ2, f1, f2⟩ := m_yards hM1 hK hh
        exact ⟨_, σ1, σ2, cb (ob_i (c_placeOf hK hh hC) (ob_i g1 rfl)), mb σ1 hM1 (ob_i f1 rfl), (hI.fr (scr8 g2)).fr (scr7172 f2)⟩
      · obtain ⟨σ1, g1, g2⟩ := c_ya hK (show N 4 h ≤ N 0 0 by omega) hC
        have hM1 : MV 67 σ1 N z wt tx := hM.fr (g2 _ (by decide))
        obtain ⟨σ2, f1, f2⟩ := m_ya hK (show N 4 h ≤ N 0 0 by omega) hM1
        refine ⟨_, σ1, σ2, cb (ob_i (c_placeOf hK hh hC) (ob_i g1 rfl)), mb σ1 hM1 (ob_i (m_its (w := 3) (by omega) (by decide)) ?_), (hI.fr (scr8 g2)).fr (scr7172 f2)⟩
        rw [show 8 + 4 * h + 3 = 11 + 4 * h by omega, hM1.pc hh]
        exact ob_i f1 rfl
    · refine P_err (FC := f_X6_houseIs (nI h) x1) (FM := f_X7_houseIs (nI h) x1) (k := 1) hI (ob_i (hasHouse_t hC.n h10 hv) (ite_n (by decide) ?_)) (ob_i (m_isHouse_t (by rw [eC_c (by decide)]; exact hM.n) h10 hv) (ite_n (by decide) (ob_i (in_f hw (by decide) rfl rfl) (ite_p rfl (ob_i (p_error (k := 1) (by decide)) rfl)))))
      have nq : ∀ w : Nat, w < 6 → ¬ x1 = nI w := fun w hw3 q => hw ⟨w, Nat.zero_le _, hw3, q⟩
      exact ite_n (nq 0 (by decide)) (ite_n (nq 1 (by decide)) (ite_n (nq 2 (by decide)) (ite_n (nq 3 (by decide)) (ite_n (nq 4 (by decide)) (ite_n (nq 5 (by decide)) (ob_i (p_failing (k := 1) (by decide)) rfl))))))
  · exact P_err (FC := f_X6_houseIs x0 x1) (FM := f_X7_houseIs x0 x1) (k := 1) hI (ob_i (hasHouse_f hC.n h10 hv) (ite_p rfl (ob_i (p_failing (k := 1) (by decide)) rfl))) (ob_i (m_isHouse_f (by rw [eC_c (by decide)]; exact hM.n) h10 hv) (ite_p rfl (ob_i (p_error (k := 1) (by decide)) rfl)))
