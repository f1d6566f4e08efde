/-! sums over places and over houses; odds -/
def sm (f : Nat → Nat) : Nat → Nat
  | 0 => 0
  | n + 1 => sm f n + f n
theorem sm_c {f g : Nat → Nat} : ∀ n : Nat, (∀ i, i < n → f i = g i) → sm f n = sm g n := by
  intro n
  induction n with
  | zero => intro _; rfl
  | succ n ih =>
    intro h
    show sm f n + f n = sm g n + g n
    rw [ih (fun i hi => h i (by omega)), h n (by omega)]
theorem sm_a {f g : Nat → Nat} : ∀ n : Nat, sm (fun i => f i + g i) n = sm f n + sm g n := by
  intro n
  induction n with
  | zero => rfl
  | succ n ih =>
    show sm (fun i => f i + g i) n + (f n + g n) = sm f n + f n + (sm g n + g n)
    rw [ih]
    omega
theorem sm_0 : ∀ n : Nat, sm (fun _ => 0) n = 0 := by
  intro n
  induction n with
  | zero => rfl
  | succ n ih => exact ih
theorem sm_w {g : Nat → Nat → Nat} {m : Nat} : ∀ n : Nat, sm (fun p => sm (fun h => g p h) m) n = sm (fun h => sm (fun p => g p h) n) m := by
  intro n
  induction n with
  | zero => exact (sm_0 m).symm
  | succ n ih =>
    show sm (fun p => sm (fun h => g p h) m) n + sm (fun h => g n h) m = sm (fun h => sm (fun p => g p h) n + g n h) m
    rw [ih, sm_a]
theorem sm_1 {v a : Nat} : ∀ n : Nat, sm (fun h => if h = a then v else 0) n = if a < n then v else 0 := by
  intro n
  induction n with
  | zero => rfl
  | succ n ih =>
    show sm (fun h => if h = a then v else 0) n + (if n = a then v else 0) = _
    rw [ih]
    by_cases h1 : a < n
    · rw [if_pos h1, if_neg (by omega), if_pos (by omega)]; rfl
    · rw [if_neg h1]
      by_cases h2 : n = a
      · rw [if_pos h2, if_pos (by omega), Nat.zero_add]
      · rw [if_neg h2, if_neg (by omega)]
/-- a sum over the places is the sum over the houses -/
theorem sm_p {N : Nat → Nat → Nat} {tx : Nat → Nat → Int32} (hK : OKN N tx) (f : Nat → Nat) : sm (fun p => f (N 5 p)) (N 0 0) = sm f (N 0 0) := by
  have e1 : sm (fun p => f (N 5 p)) (N 0 0) = sm (fun p => sm (fun h => if h = N 5 p then f (N 5 p) else 0) (N 0 0)) (N 0 0) := sm_c _ (fun p hp => by rw [sm_1, if_pos (hK.h hp).2.2.2.2.2.1])
  have e2 : sm f (N 0 0) = sm (fun h => sm (fun p => if h = N 5 p then f (N 5 p) else 0) (N 0 0)) (N 0 0) := sm_c _ (fun h hh => by
    have e3 : sm (fun p => if h = N 5 p then f (N 5 p) else 0) (N 0 0) = sm (fun p => if p = N 4 h then f h else 0) (N 0 0) := sm_c _ (fun p hp => by
      have g1 := (hK.h hp).2.2.2.2.2.2.2
      have g2 := (hK.h hh).2.2.2.2.2.2.1
      by_cases q : h = N 5 p
      · rw [if_pos q, ← q, if_pos (by rw [q, g1])]
      · rw [if_neg q, if_neg (fun q2 => q (by rw [q2, g2]))])
    rw [e3, sm_1, if_pos (hK.h hh).2.2.2.2.1])
  rw [e1, e2, sm_w]
def wfP (N : Nat → Nat → Nat) (p : Nat) : Nat := if opI id (fndN N (plN N p)).1 = nI p then 1 else 0
def wfH (N : Nat → Nat → Nat) (h : Nat) : Nat := if opI (N 5) (fndN N (N 3 h)).1 = nI h then 1 else 0
theorem neg1_ne {n : Nat} (h : n < 2 ^ 31) : ¬ (-1 : Int32) = nI n := by
  rw [f_eq, nI_toInt h, show ((-1 : Int32)).toInt = -1 from rfl]
  omega
theorem wf_e {N : Nat → Nat → Nat} {tx : Nat → Nat → Int32} (hK : OKN N tx) {p : Nat} (hp : p < N 0 0) : wfP N p = wfH N (N 5 p) := by
  have h10 := hK.n
  unfold wfP wfH
  show (if opI id (fndN N (plN N p)).1 = nI p then 1 else 0) = if opI (N 5) (fndN N (plN N p)).1 = nI (N 5 p) then 1 else 0
  have h5 := (hK.h hp).2.2.2.2.2.1
  cases hf : (fndN N (plN N p)).1 with
  | none =>
    rw [if_neg (show ¬ opI id none = nI p from neg1_ne (by omega)), if_neg (show ¬ opI (N 5) none = nI (N 5 p) from neg1_ne (by omega))]
  | some q =>
    have hq : q < N 0 0 := bs_l _ _ _ _ _ hf
    have hq5 := (hK.h hq).2.2.2.2.2.1
    have g1 := (hK.h hp).2.2.2.2.2.2.2
    have g2 := (hK.h hq).2.2.2.2.2.2.2
    by_cases e : q = p
    · rw [e, if_pos (show opI id (some p) = nI p from rfl), if_pos (show opI (N 5) (some p) = nI (N 5 p) from rfl)]
    · rw [if_neg (show ¬ opI id (some q) = nI p by show ¬ nI q = nI p; rw [nI_eq (by omega) (by omega)]; exact e), if_neg (show ¬ opI (N 5) (some q) = nI (N 5 p) by
        show ¬ nI (N 5 q) = nI (N 5 p)
        rw [nI_eq (by omega) (by omega)]
        intro h
        rw [h] at g2
        omega)]
theorem wf_le {N : Nat → Nat → Nat} (n : Nat) : sm (wfP N) n ≤ n := by
  induction n with
  | zero => exact Nat.le_refl _
  | succ n ih =>
    show sm (wfP N) n + wfP N n ≤ n + 1
    have : wfP N n ≤ 1 := by unfold wfP; split <;> omega
    omega
theorem c_gcd {a n : Nat} (hn : 0 < n) (hn2 : n ≤ 10) (ha : a ≤ 10) {σ : St} : ∀ (x k : Nat), Nat.gcd a n ≤ x → x ≤ 10 → x < k → f_X4_commonDivisor_L2 k (nI a) (nI n) (nI x) σ = some (nI (Nat.gcd a n), σ) := by
  have g1 : 0 < Nat.gcd a n := Nat.gcd_pos_of_pos_right _ hn
  intro x
  induction x with
  | zero => intro k h; omega
  | succ x ih =>
    intro k h1 h2 h3
    obtain ⟨k, rfl⟩ : ∃ k', k = k' + 1 := ⟨k - 1, by omega⟩
    show f_X4_commonDivisor_b2 (f_X4_commonDivisor_L2 k) _ _ _ σ = _
    unfold f_X4_commonDivisor_b2
    by_cases e : x = 0
    · refine ite_p ?_ ?_
      · rw [e]; decide
      · rw [show Nat.gcd a n = 1 by omega]; rfl
    · have nz : ¬ nI (x + 1) = 0 := nI_ne0 (by omega) (by omega)
      have nx : ∀ {y : Rs}, (¬ Nat.gcd a n = x + 1 → f_X4_commonDivisor_L2 k (nI a) (nI n) (nI x) σ = y) → ¬ Nat.gcd a n = x + 1 → f_X4_commonDivisor_L2 k (nI a) (nI n) (nI x) σ = y := fun h => h
      rw [show (nI (x + 1) + (-1) : Int32) = nI x from pk_m1 x]
      rw [irm_nI (by omega) (by omega) (by omega), irm_nI (by omega) (by omega) (by omega)]
      refine ite_n (fun q => ?_) (ite_p nz ?_)
      · rw [show (1 : Int32) = nI 1 from rfl, nI_leI (by omega) (by omega)] at q; omega
      · by_cases d1 : a % (x + 1) = 0
        · refine ite_p (by rw [d1]; rfl) (ite_p nz ?_)
          by_cases d2 : n % (x + 1) = 0
          · refine ite_p (by rw [d2]; rfl) ?_
            have hd : (x + 1) ∣ Nat.gcd a n := Nat.dvd_gcd (Nat.dvd_of_mod_eq_zero d1) (Nat.dvd_of_mod_eq_zero d2)
            have := Nat.le_of_dvd g1 hd
            rw [show x + 1 = Nat.gcd a n by omega]
          · have hb := Nat.mod_lt n (show x + 1 > 0 by omega)
            refine ite_n (nI_ne0 (by omega) (by omega)) (ih k ?_ (by omega) (by omega))
            have : ¬ Nat.gcd a n = x + 1 := fun q => d2 (Nat.mod_eq_zero_of_dvd (q ▸ Nat.gcd_dvd_right a n))
            omega
        · have hb := Nat.mod_lt a (show x + 1 > 0 by omega)
          refine ite_n (nI_ne0 (by omega) (by omega)) (ih k ?_ (by omega) (by omega))
          have : ¬ Nat.gcd a n = x + 1 := fun q => d1 (Nat.mod_eq_zero_of_dvd (q ▸ Nat.gcd_dvd_left a n))
          omega
theorem m_gcd {σ : St} : ∀ (k b a : Nat), a ≤ 10 → b ≤ 10 → b < k → f_X7_divisor_L4 k (nI a) (nI b) σ = some (nI (Nat.gcd a b), σ) := by
  intro k
  induction k with
  | zero => intro b a _ _ h; omega
  | succ k ih =>
    intro b a ha hb h
    show f_X7_divisor_b4 (f_X7_divisor_L4 k) _ _ σ = _
    unfold f_X7_divisor_b4
    by_cases e : b = 0
    · subst e
      rw [Nat.gcd_zero_right]
      exact ite_p rfl rfl
    · have nz : ¬ nI b = 0 := nI_ne0 (by omega) (by omega)
      have hm := Nat.mod_lt a (show b > 0 by omega)
      refine ite_n nz (ite_p nz ?_)
      rw [irm_nI (by omega) (by omega) (by omega), ih (a % b) b hb (by omega) (by omega), Nat.gcd_comm a b, Nat.gcd_rec b a, Nat.gcd_comm]
section OD
variable {N : Nat → Nat → Nat} {z : Int32} {wt : Nat → Int32} {tx : Nat → Nat → Int32}
theorem c_oddsL (hK : OKN N tx) : ∀ (f i : Nat) (σ : St), CV 0 σ N z wt tx → i ≤ N 0 0 → N 0 0 < f + i → ∃ σ1, f_X4_housesFound_L4 f (nI (sm (wfP N) i)) (nI i) σ = some (nI (sm (wfP N) (N 0 0)), σ1) ∧ ∀ q, q ≠ 30 → σ1 q = σ q := by
  have h10 := hK.n
  intro f
  induction f with
  | zero => intro i σ h1 h2 h3; omega
  | succ f ih =>
    intro i σ h1 h2 h3
    by_cases e : i = N 0 0
    · refine ⟨σ, ?_, fun q _ => rfl⟩
      show f_X4_housesFound_b4 (f_X4_housesFound_L4 f) _ _ σ = _
      unfold f_X4_housesFound_b4
      rw [e, h1.n]
      exact ite_p (nI_le (by omega) (by omega)) rfl
    · obtain ⟨σ1, g1, g2, g3⟩ := c_place hK (plN_b hK (p := i) (by omega)) h1
      obtain ⟨σ2, f1, f2⟩ := ih (i + 1) σ1 (h1.fr (fun q hq => g3 _ (by omega))) (by omega) (by omega)
      refine ⟨σ2, ?_, fun q hq => by rw [f2 q hq, g3 q hq]⟩
      show f_X4_housesFound_b4 (f_X4_housesFound_L4 f) _ _ σ = _
      unfold f_X4_housesFound_b4
      rw [h1.n]
      refine ite_n (nI_ge (by omega) (by omega)) (ob_i (c_platAt h1 hK (by omega)) (ob_i g1 ?_))
      rw [show sm (wfP N) (i + 1) = sm (wfP N) i + wfP N i from rfl] at f1
      by_cases q : opI id (fndN N (plN N i)).1 = nI i
      · rw [show wfP N i = 1 from if_pos q] at f1
        rw [nI_1, nI_1]
        exact ite_p q f1
      · rw [show wfP N i = 0 from if_neg q, Nat.add_zero] at f1
        refine ite_n q ?_
        rw [nI_1]
        exact f1
theorem m_oddsL (hK : OKN N tx) {x : Int32} : ∀ (f i : Nat) (σ : St), MV 67 σ N z wt tx → i ≤ N 0 0 → N 0 0 < f + i → ∃ (σ1 : St) (f' : Nat), f_X7_odds_L34 f x (nI (sm (wfH N) i)) (nI i) σ = f_X7_odds_b34 (f_X7_odds_L34 f') x (nI (sm (wfH N) (N 0 0))) (nI (N 0 0)) σ1 ∧ ∀ q k, ¬ (q = 66 ∧ k = 13) → σ1 q k = σ q k := by
  have h10 := hK.n
  intro f
  induction f with
  | zero => intro i σ h1 h2 h3; omega
  | succ f ih =>
    intro i σ h1 h2 h3
    by_cases e : i = N 0 0
    · refine ⟨σ, f, ?_, fun q k _ => rfl⟩
      rw [e]
      rfl
    · have h3b := (hK.h (j := i) (by omega)).2.2.2.1
      obtain ⟨σ1, g1, g2, g3⟩ := m_finds hK h3b h1
      obtain ⟨σ2, f', f1, f2⟩ := ih (i + 1) σ1 (h1.fr (funext fun k => g3 67 k (by omega))) (by omega) (by omega)
      refine ⟨σ2, f', ?_, fun q k hq => by rw [f2 q k hq, g3 q k hq]⟩
      show f_X7_odds_b34 (f_X7_odds_L34 f) _ _ _ σ = _
      rw [← f1]
      conv => lhs; unfold f_X7_odds_b34
      refine ite_p (inb_l (by decide) (by decide)) ?_
      rw [show σ 67 (Int32.toNatClampNeg 5) = nI (N 0 0) from h1.n]
      refine ite_n (nI_ge (by omega) (by omega)) (ob_i (m_plate h1 hK (by omega)) (ob_i g1 ?_))
      rw [show sm (wfH N) (i + 1) = sm (wfH N) i + wfH N i from rfl]
      by_cases q : opI (N 5) (fndN N (N 3 i)).1 = nI i
      · rw [show wfH N i = 1 from if_pos q]
        refine ite_p q ?_
        rw [nI_1, nI_1]
      · rw [show wfH N i = 0 from if_neg q]
        refine ite_n q ?_
        rw [nI_1, show (nI (sm (wfH N) i) + 0 : Int32) = nI (sm (wfH N) i + 0) from nI_add _ 0]
end OD
theorem P_odds {σ : St} (hI : Inv σ) (x0 : Int32) : ∃ (r : Int32) (σ1 σ2 : St), f_X6_odds x0 σ = some (r, σ1) ∧ f_X7_odds x0 σ1 = some (r, σ2) ∧ Inv σ2 := by
  obtain ⟨⟨N, z, wt, tx, hC, hM, hK⟩, -⟩ := id hI
  have h10 := hK.n
  by_cases hv : isR 0 2 x0
  · obtain ⟨w, -, hw, rfl⟩ := id hv
    by_cases h0 : N 0 0 = 0
    · refine P_err (FC := f_X6_odds (nI w)) (FM := f_X7_odds (nI w)) (k := 3) hI ?_ ?_
      · refine ite_n (nI_nn (by omega)) (ite_p (nI_le (b := 1) (by omega) (by decide)) (ite_p ?_ (ob_i (p_failing (k := 3) (by decide)) rfl)))
        rw [hC.n, h0]; rfl
      · refine ob_i (in_t hv (by decide) rfl rfl) (ite_n (by decide) (ite_p (inb_l (by decide) (by decide)) (ite_p ?_ (ob_i (p_error (k := 3) (by decide)) rfl))))
        rw [cl_lit (by decide), eC_c (by decide), hM.n, h0]; rfl
    · obtain ⟨σ1, g1, g2⟩ := c_oddsL hK LF 0 σ hC (by omega) (by unfold LF; omega)
      have hM1 : MV 67 σ1 N z wt tx := hM.fr (g2 _ (by decide))
      have hC1 : CV 0 σ1 N z wt tx := hC.fr (fun q hq => g2 _ (by omega))
      obtain ⟨σ2, f', f1, f2⟩ := m_oddsL hK (x := nI w) LF 0 σ1 hM1 (by omega) (by unfold LF; omega)
      have hM2 : MV 67 σ2 N z wt tx := hM1.fr (funext fun k => f2 67 k (by omega))
      have es : sm (wfH N) (N 0 0) = sm (wfP N) (N 0 0) := by
        rw [← sm_p hK (wfH N)]
        exact (sm_c _ (fun p hp => wf_e hK hp)).symm
      have hle := wf_le (N := N) (N 0 0)
      rw [es] at f1
      generalize sm (wfP N) (N 0 0) = a at *
      have gp : 0 < Nat.gcd a (N 0 0) := Nat.gcd_pos_of_pos_right _ (by omega)
      have gl : Nat.gcd a (N 0 0) ≤ N 0 0 := Nat.gcd_le_right _ (by omega)
      have gz : ¬ nI (Nat.gcd a (N 0 0)) = 0 := nI_ne0 gp (by omega)
      have cg : f_X4_commonDivisor (nI a) (nI (N 0 0)) σ1 = some (nI (Nat.gcd a (N 0 0)), σ1) := c_gcd (by omega) h10 (by omega) (N 0 0) LF gl h10 (by unfold LF; omega)
      have mg : f_X7_divisor (nI a) (nI (N 0 0)) σ2 = some (nI (Nat.gcd a (N 0 0)), σ2) := m_gcd LF (N 0 0) a (by omega) h10 (by unfold LF; omega)
      have h5 : ∀ {s : St}, MV 67 s N z wt tx → s 67 (Int32.toNatClampNeg 5) = nI (N 0 0) := fun h => h.n
      have cc : ∀ y, (if nI w = 0 then ob (f_X6_quotient (nI a) (nI (Nat.gcd a (N 0 0))) σ1) fun r5 σ5 => some (r5, σ5) else ob (f_X6_quotient (nI (N 0 0)) (nI (Nat.gcd a (N 0 0))) σ1) fun r4 σ4 => some (r4, σ4)) = y → f_X6_odds (nI w) σ = y := by
        intro y hy
        refine ite_n (nI_nn (by omega)) (ite_p (nI_le (b := 1) (by omega) (by decide)) (ite_n ?_ (ob_i (show f_X4_housesFound σ = _ from g1) ?_)))
        · rw [hC.n]; exact nI_ne0 (by omega) (by omega)
        · rw [hC1.n]
          refine ob_i cg ?_
          rw [hC1.n]
          exact hy
      have mm : ∀ y, (if nI w = 0 then (if ¬ nI (Nat.gcd a (N 0 0)) = 0 then some ((nI a / nI (Nat.gcd a (N 0 0))), σ2) else none) else (if inb 5 382 then (if ¬ nI (Nat.gcd a (N 0 0)) = 0 then some (((σ2 67 (5 : Int32).toNatClampNeg) / nI (Nat.gcd a (N 0 0))), σ2) else none) else none)) = y → f_X7_odds (nI w) σ1 = y := by
        intro y hy
        refine ob_i (in_t hv (by decide) rfl rfl) (ite_n (by decide) (ite_p (inb_l (by decide) (by decide)) (ite_n ?_ (f1.trans ?_))))
        · rw [h5 hM1]; exact nI_ne0 (by omega) (by omega)
        · refine ite_p (inb_l (by decide) (by decide)) (ite_p ?_ (ite_p (inb_l (by decide) (by decide)) ?_))
          · rw [h5 hM2]; exact nI_le (by omega) (by omega)
          · rw [h5 hM2]
            refine ob_i mg ?_
            exact hy
      rcases (show w = 0 ∨ w = 1 by omega) with rfl | rfl
      · exact ⟨_, σ1, σ2, cc _ (ite_p rfl (ob_i (ite_n gz (ite_p gz rfl)) rfl)), mm _ (ite_p rfl (ite_p gz rfl)), (hI.fr (scr30 g2)).fr (scr6613 f2)⟩
      · refine ⟨_, σ1, σ2, cc _ (ite_n (by decide) (ob_i (ite_n gz (ite_p gz rfl)) rfl)), mm _ (ite_n (by decide) (ite_p (inb_l (by decide) (by decide)) (ite_p gz ?_))), (hI.fr (scr30 g2)).fr (scr6613 f2)⟩
        rw [h5 hM2]
  · refine P_err (FC := f_X6_odds x0) (FM := f_X7_odds x0) (k := 1) hI ?_ (ob_i (in_f hv (by decide) rfl rfl) (ite_p rfl (ob_i (p_error (k := 1) (by decide)) rfl)))
    unfold f_X6_odds
    rw [isR_iff (by decide)] at hv
    by_cases h0 : x0 < 0
    · exact ite_p h0 (ob_i (p_failing (k := 1) (by decide)) rfl)
    · refine ite_n h0 (ite_n ?_ (ob_i (p_failing (k := 1) (by decide)) rfl))
      rw [f_lt, show (0 : Int32).toInt = 0 from rfl] at h0
      rw [f_le, show (1 : Int32).toInt = 1 from rfl]
      omega
