/-! as, between, become, tell, check, untell, feed -/
def und (k t : Nat) : Bool := k == t || t == 0 || (t == 1 && k == 4) || (t == 2 && k == 5)
theorem c_under {k t : Nat} {σ : St} (hk : k < 7) (ht : t < 7) : f_X6_isOrIsUnder (nI k) (nI t) σ = some (if und k t then 1 else 0, σ) := by
  rcases (show k = 0 ∨ k = 1 ∨ k = 2 ∨ k = 3 ∨ k = 4 ∨ k = 5 ∨ k = 6 by omega) with rfl | rfl | rfl | rfl | rfl | rfl | rfl <;> rcases (show t = 0 ∨ t = 1 ∨ t = 2 ∨ t = 3 ∨ t = 4 ∨ t = 5 ∨ t = 6 by omega) with rfl | rfl | rfl | rfl | rfl | rfl | rfl <;> rfl
theorem m_as_s {n : Nat} {h t k : Int32} {σ : St} : f_X7_as_L31 (n + 1) h t k σ = if k = t then f_X7_as_b48 h t k σ else (if k = 0 then f_X7_as_b48 h t k σ else ob (f_X7_above k σ) fun r1 σ1 => f_X7_as_L31 n h t r1 σ1) := rfl
theorem m_above {k : Nat} {σ : St} (hk : k < 7) : f_X7_above (nI k) σ = some (if k = 4 then nI 1 else if k = 5 then nI 2 else nI 0, σ) := by
  rcases (show k = 0 ∨ k = 1 ∨ k = 2 ∨ k = 3 ∨ k = 4 ∨ k = 5 ∨ k = 6 by omega) with rfl | rfl | rfl | rfl | rfl | rfl | rfl <;> rfl
theorem m_as_0 {n t : Nat} {h : Int32} {σ : St} : f_X7_as_L31 (n + 1) h (nI t) (nI 0) σ = f_X7_as_b48 h (nI t) (nI 0) σ := by
  rw [m_as_s]
  by_cases e : nI 0 = nI t
  · rw [if_pos e]
  · rw [if_neg e, if_pos (show nI 0 = (0:Int32) from rfl)]
theorem m_under {k t : Nat} {h : Int32} {σ : St} (hk : k < 7) (ht : t < 7) : f_X7_as_L31 LF h (nI t) (nI k) σ = if und k t then f_X7_as_b48 h (nI t) (nI t) σ else f_X7_as_b48 h (nI t) (nI 0) σ := by
  show f_X7_as_L31 (997 + 1 + 1 + 1) h (nI t) (nI k) σ = _
  unfold und
  by_cases e : k = t
  · subst e
    rw [m_as_s, if_pos rfl]
    simp
  · rw [m_as_s, if_neg (by rw [nI_eq (by omega) (by omega)]; exact e)]
    by_cases e0 : k = 0
    · subst e0
      rw [if_pos (show nI 0 = (0:Int32) from rfl)]
      by_cases h1 : t = 0
      · exact absurd h1.symm e
      · simp [h1, Ne.symm h1]
    · rw [if_neg (by rw [show (0 : Int32) = nI 0 from rfl, nI_eq (by omega) (by omega)]; exact e0), m_above hk, ob_s]
      by_cases e4 : k = 4
      · subst e4
        rw [if_pos rfl, m_as_s]
        by_cases h1 : t = 1
        · subst h1
          rw [if_pos rfl]
          simp
        · rw [if_neg (by rw [nI_eq (by omega) (by omega)]; omega), if_neg (by decide), m_above (by decide), ob_s, if_neg (by decide), if_neg (by decide), m_as_0]
          by_cases h0 : t = 0
          · subst h0; simp
          · simp [h0, h1, e]
      · rw [if_neg e4]
        by_cases e5 : k = 5
        · subst e5
          rw [if_pos rfl, m_as_s]
          by_cases h1 : t = 2
          · subst h1
            rw [if_pos rfl]
            simp
          · rw [if_neg (by rw [nI_eq (by omega) (by omega)]; omega), if_neg (by decide), m_above (by decide), ob_s, if_neg (by decide), if_neg (by decide), m_as_0]
            by_cases h0 : t = 0
            · subst h0; simp
            · simp [h0, h1, e]
        · rw [if_neg e5, m_as_0]
          by_cases h0 : t = 0
          · subst h0; simp
          · simp [h0, e, e4, e5]
theorem P_as {σ : St} (hI : Inv σ) (x0 : Int32) (x1 : Int32) : ∃ (r : Int32) (σ1 σ2 : St), f_X6_as x0 x1 σ = some (r, σ1) ∧ f_X7_as x0 x1 σ1 = some (r, σ2) ∧ Inv σ2 := by
  obtain ⟨⟨N, z, wt, tx, hC, hM, hK⟩, -⟩ := id hI
  have h10 := hK.n
  have hb : ∀ σ, f_X6_as_b21 σ = some ((-1000000000) - nI 1, eC 1 σ) := fun σ => ob_i (p_failing (k := 1) (by decide)) rfl
  by_cases hv : isR 0 (N 0 0) x0
  · obtain ⟨h, -, hh, rfl⟩ := id hv
    obtain ⟨g1, -⟩ := hK.h hh
    by_cases hw : isR 0 7 x1
    · obtain ⟨t, -, ht, rfl⟩ := id hw
      by_cases hu : und (N 1 h) t = true
      · refine ⟨nI (N 2 h), σ, σ, ?_, ?_, hI⟩
        · refine ob_i (hasHouse_t hC.n h10 hv) (ite_n (by decide) (ite_n (nI_nn (by omega)) (ite_p (nI_lt (b := 7) ht (by decide)) (ob_i (c_kind hC.n h10 hh) ?_))))
          rw [hC.kd hh]
          refine ob_i (c_under g1 ht) ?_
          rw [if_pos hu]
          refine ite_n (by decide) (ob_i (c_m hC.n h10 hh) ?_)
          rw [hC.em hh]
        · refine ob_i (m_isHouse_t hM.n h10 hv) (ite_n (by decide) (ob_i (in_t hw (by decide) rfl rfl) (ite_n (by decide) (ob_i (m_its (w := 0) (by omega) (by decide)) ?_))))
          rw [show 8 + 4 * h + 0 = 8 + 4 * h from rfl, hM.kd hh, m_under g1 ht, if_pos hu]
          refine ite_p rfl (ob_i (m_its (w := 1) (by omega) (by decide)) ?_)
          rw [show 8 + 4 * h + 1 = 9 + 4 * h by omega, hM.em hh]
      · refine P_err (FC := f_X6_as (nI h) (nI t)) (FM := f_X7_as (nI h) (nI t)) (k := 5) hI ?_ ?_
        · refine ob_i (hasHouse_t hC.n h10 hv) (ite_n (by decide) (ite_n (nI_nn (by omega)) (ite_p (nI_lt (b := 7) ht (by decide)) (ob_i (c_kind hC.n h10 hh) ?_))))
          rw [hC.kd hh]
          refine ob_i (c_under g1 ht) ?_
          rw [if_neg hu]
          exact ite_p rfl (ob_i (p_failing (k := 5) (by decide)) rfl)
        · refine ob_i (m_isHouse_t (by rw [eC_c (by decide)]; exact hM.n) h10 hv) (ite_n (by decide) (ob_i (in_t hw (by decide) rfl rfl) (ite_n (by decide) (ob_i (m_its (w := 0) (by omega) (by decide)) ?_))))
          rw [show 8 + 4 * h + 0 = 8 + 4 * h from rfl, eC_c (by decide), hM.kd hh, m_under g1 ht, if_neg hu]
          refine ite_n (fun e => hu ?_) (ob_i (p_error (k := 5) (by decide)) rfl)
          rw [nI_eq (by decide) (by omega)] at e
          subst e
          unfold und
          simp
    · refine P_err (FC := f_X6_as (nI h) x1) (FM := f_X7_as (nI h) x1) (k := 1) hI ?_ ?_
      · refine ob_i (hasHouse_t hC.n h10 hv) (ite_n (by decide) ?_)
        rw [isR_iff (by decide)] at hw
        by_cases h0 : x1 < 0
        · exact ite_p h0 (hb _)
        · refine ite_n h0 (ite_n ?_ (hb _))
          rw [f_lt, show (0 : Int32).toInt = 0 from rfl] at h0
          rw [f_lt, show (7 : Int32).toInt = 7 from rfl]
          omega
      · exact ob_i (m_isHouse_t (by rw [eC_c (by decide)]; exact hM.n) h10 hv) (ite_n (by decide) (ob_i (in_f hw (by decide) rfl rfl) (ite_p rfl (ob_i (p_error (k := 1) (by decide)) rfl))))
  · exact P_err (FC := f_X6_as x0 x1) (FM := f_X7_as x0 x1) (k := 1) hI (ob_i (hasHouse_f hC.n h10 hv) (ite_p rfl (hb _))) (ob_i (m_isHouse_f (by rw [eC_c (by decide)]; exact hM.n) h10 hv) (ite_p rfl (ob_i (p_error (k := 1) (by decide)) rfl)))
/-- the numbers on both sides of a place, and the one that goes between -/
def lowN (N : Nat → Nat → Nat) (p : Nat) : Nat := if p = 0 then 0 else N 3 (N 5 (p - 1))
def hghN (N : Nat → Nat → Nat) (p : Nat) : Nat := if p = N 0 0 then 1000 else N 3 (N 5 p)
def btwN (N : Nat → Nat → Nat) (p : Nat) : Int32 := if lowN N p + 2 ≤ hghN N p then nI (if p = N 0 0 then lowN N p + 1 else lowN N p + (hghN N p - lowN N p) / 2) else -1
theorem lowN_b {N : Nat → Nat → Nat} {tx : Nat → Nat → Int32} (hK : OKN N tx) {p : Nat} (hp : p ≤ N 0 0) : lowN N p ≤ 999 := by
  unfold lowN
  by_cases h : p = 0
  · rw [if_pos h]; omega
  · rw [if_neg h]
    exact (hK.h (hK.h (j := p - 1) (by omega)).2.2.2.2.2.1).2.2.2.1
theorem hghN_b {N : Nat → Nat → Nat} {tx : Nat → Nat → Int32} (hK : OKN N tx) {p : Nat} (hp : p ≤ N 0 0) : hghN N p ≤ 1000 := by
  unfold hghN
  by_cases h : p = N 0 0
  · rw [if_pos h]; omega
  · rw [if_neg h]
    have := (hK.h (hK.h (j := p) (by omega)).2.2.2.2.2.1).2.2.2.1
    omega
theorem sub_le2 {a b : Nat} (ha : a ≤ 1000) (hb : b ≤ 1000) : (2 : Int32) ≤ nI a - nI b ↔ b + 2 ≤ a := by
  rw [f_le, pk_sub_toInt (by omega) (by omega), show (2 : Int32).toInt = 2 from rfl]
  omega
theorem c_between {σ : St} {N : Nat → Nat → Nat} {z : Int32} {wt : Nat → Int32} {tx : Nat → Nat → Int32} (hC : CV 0 σ N z wt tx) (hK : OKN N tx) {p : Nat} (hp : p ≤ N 0 0) : f_X3_numberBetween (nI p) σ = some (btwN N p, σ) := by
  have h10 := hK.n
  have hl := lowN_b hK hp
  have hh := hghN_b hK hp
  have e3 : ∀ lo hi : Nat, lo = lowN N p → hi = hghN N p → f_X3_numberBetween_b35 (nI p) (nI lo) (nI hi) σ = some (btwN N p, σ) := by
    rintro lo hi rfl rfl
    unfold f_X3_numberBetween_b35 btwN
    by_cases c : lowN N p + 2 ≤ hghN N p
    · rw [if_pos c]
      refine ite_p ((sub_le2 hh (by omega)).mpr c) ?_
      rw [hC.n]
      by_cases q : p = N 0 0
      · rw [if_pos q]
        refine ite_n ?_ ?_
        · rw [nI_ltI (by omega) (by omega)]; omega
        · rw [nI_1]
      · rw [if_neg q]
        refine ite_p ?_ ?_
        · rw [nI_ltI (by omega) (by omega)]; omega
        · rw [pk_sub (by omega), show (2 : Int32) = nI 2 from rfl, pk_div (by omega) (by decide) (by decide), nI_add]
    · rw [if_neg c]
      exact ite_n (fun q => c ((sub_le2 hh (by omega)).mp q)) rfl
  have e2 : ∀ lo : Nat, lo = lowN N p → f_X3_numberBetween_b15 (nI p) (nI lo) σ = some (btwN N p, σ) := by
    intro lo hlo
    unfold f_X3_numberBetween_b15
    rw [hC.n]
    by_cases q : p = N 0 0
    · refine ite_p ?_ (e3 lo 1000 hlo (by unfold hghN; rw [if_pos q]))
      rw [nI_leI (by omega) (by omega)]; omega
    · have h1 := (hK.h (j := p) (by omega)).2.2.2.2.2.1
      refine ite_n ?_ (ob_i (c_plateAt hC.n h10 (by omega) h1 (hC.rw (by omega))) ?_)
      · rw [nI_leI (by omega) (by omega)]; omega
      · rw [hC.pl h1]
        exact e3 lo _ hlo (by unfold hghN; rw [if_neg q])
  unfold f_X3_numberBetween
  by_cases q : p = 0
  · refine ite_p ?_ (e2 0 (by unfold lowN; rw [if_pos q]))
    rw [show (0 : Int32) = nI 0 from rfl, nI_leI (by omega) (by omega)]; omega
  · have h1 := (hK.h (j := p - 1) (by omega)).2.2.2.2.2.1
    refine ite_n ?_ ?_
    · rw [show (0 : Int32) = nI 0 from rfl, nI_leI (by omega) (by omega)]; omega
    · rw [show (1 : Int32) = nI 1 from rfl, pk_sub (by omega)]
      refine ob_i (c_plateAt hC.n h10 (by omega) h1 (hC.rw (by omega))) ?_
      rw [hC.pl h1]
      exact e2 _ (by unfold lowN; rw [if_neg q])
theorem m_between {σ : St} {N : Nat → Nat → Nat} {z : Int32} {wt : Nat → Int32} {tx : Nat → Nat → Int32} (hM : MV 67 σ N z wt tx) (hK : OKN N tx) {p : Nat} (hp : p ≤ N 0 0) : f_X7_goesBetween (nI p) σ = some (btwN N p, σ) := by
  have h10 := hK.n
  have hl := lowN_b hK hp
  have hh := hghN_b hK hp
  have e3 : ∀ lo hi : Nat, lo = lowN N p → hi = hghN N p → f_X7_goesBetween_b47 (nI p) (nI lo) (nI hi) σ = some (btwN N p, σ) := by
    rintro lo hi rfl rfl
    unfold f_X7_goesBetween_b47 btwN
    by_cases c : lowN N p + 2 ≤ hghN N p
    · rw [if_pos c]
      refine ite_p ((sub_le2 hh (by omega)).mpr c) (ite_p (inb_l (by decide) (by decide)) ?_)
      rw [cl_lit (by decide), hM.n]
      by_cases q : p = N 0 0
      · rw [if_pos q]
        refine ite_p ?_ ?_
        · rw [← q]
        · rw [nI_1]
      · rw [if_neg q]
        refine ite_n ?_ ?_
        · rw [nI_eq (by omega) (by omega)]; exact q
        · rw [pk_sub (by omega), show (2 : Int32) = nI 2 from rfl, pk_div (by omega) (by decide) (by decide), nI_add]
    · rw [if_neg c]
      exact ite_n (fun q => c ((sub_le2 hh (by omega)).mp q)) rfl
  have e2 : ∀ lo : Nat, lo = lowN N p → f_X7_goesBetween_b20 (nI p) (nI lo) σ = some (btwN N p, σ) := by
    intro lo hlo
    unfold f_X7_goesBetween_b20
    refine ite_p (inb_l (by decide) (by decide)) ?_
    rw [cl_lit (by decide), hM.n]
    by_cases q : p = N 0 0
    · exact ite_p (by rw [← q]) (e3 lo 1000 hlo (by unfold hghN; rw [if_pos q]))
    · have h1 := (hK.h (j := p) (by omega)).2.2.2.2.2.1
      refine ite_n ?_ (ob_i (m_at hM hK (by omega)) (ob_i (m_its (w := 2) (by omega) (by decide)) ?_))
      · rw [nI_eq (by omega) (by omega)]; exact q
      · rw [show 8 + 4 * N 5 p + 2 = 10 + 4 * N 5 p by omega, hM.pl h1]
        exact e3 lo _ hlo (by unfold hghN; rw [if_neg q])
  unfold f_X7_goesBetween
  by_cases q : p = 0
  · exact ite_p (by rw [q]; rfl) (e2 0 (by unfold lowN; rw [if_pos q]))
  · have h1 := (hK.h (j := p - 1) (by omega)).2.2.2.2.2.1
    refine ite_n ?_ ?_
    · rw [show (0 : Int32) = nI 0 from rfl, nI_eq (by omega) (by omega)]; exact q
    · rw [show (1 : Int32) = nI 1 from rfl, pk_sub (by omega)]
      refine ob_i (m_at hM hK (by omega)) (ob_i (m_its (w := 2) (by omega) (by decide)) ?_)
      rw [show 8 + 4 * N 5 (p - 1) + 2 = 10 + 4 * N 5 (p - 1) by omega, hM.pl h1]
      exact e2 _ (by unfold lowN; rw [if_neg q])
theorem btwN_b {N : Nat → Nat → Nat} {tx : Nat → Nat → Int32} (hK : OKN N tx) {p : Nat} (hp : p ≤ N 0 0) : btwN N p = -1 ∨ ∃ v : Nat, 1 ≤ v ∧ v ≤ 999 ∧ btwN N p = nI v := by
  have hl := lowN_b hK hp
  have hh := hghN_b hK hp
  unfold btwN
  by_cases c : lowN N p + 2 ≤ hghN N p
  · rw [if_pos c]
    refine Or.inr ⟨_, ?_, ?_, rfl⟩ <;> split <;> omega
  · rw [if_neg c]; exact Or.inl rfl
theorem P_between {σ : St} (hI : Inv σ) (x0 : Int32) : ∃ (r : Int32) (σ1 σ2 : St), f_X6_between x0 σ = some (r, σ1) ∧ f_X7_between x0 σ1 = some (r, σ2) ∧ Inv σ2 := by
  obtain ⟨⟨N, z, wt, tx, hC, hM, hK⟩, -⟩ := id hI
  have h10 := hK.n
  have hb : (nI (N 0 0)).toInt = ((N 0 0 + 1 : Nat) : Int) - 1 := by rw [nI_toInt (by omega)]; omega
  by_cases hv : isR 0 (N 0 0 + 1) x0
  · obtain ⟨p, -, hp, rfl⟩ := id hv
    rcases btwN_b hK (p := p) (by omega) with hn | ⟨v, hv1, hv2, hn⟩
    · refine P_err (FC := f_X6_between (nI p)) (FM := f_X7_between (nI p)) (k := 2) hI ?_ ?_
      · refine ite_n (nI_nn (by omega)) (ite_p ?_ (ob_i (c_between hC hK (by omega)) ?_))
        · rw [hC.n]; exact nI_le (by omega) (by omega)
        · rw [hn]
          exact ite_n (by decide) (ob_i (p_failing (k := 2) (by decide)) rfl)
      · refine ite_p (inb_l (by decide) (by decide)) ?_
        rw [cl_lit (by decide), eC_c (by decide), hM.n]
        refine ob_i (in_t hv (by omega) rfl hb) (ite_n (by decide) (ob_i (m_between (hM.fr (eC_c (by decide))) hK (by omega)) ?_))
        rw [hn]
        exact ite_p rfl (ob_i (p_error (k := 2) (by decide)) rfl)
    · refine ⟨nI v, σ, σ, ?_, ?_, hI⟩
      · refine ite_n (nI_nn (by omega)) (ite_p ?_ (ob_i (c_between hC hK (by omega)) ?_))
        · rw [hC.n]; exact nI_le (by omega) (by omega)
        · rw [hn]
          exact ite_p (nI_pos' (by omega)) rfl
      · refine ite_p (inb_l (by decide) (by decide)) ?_
        rw [cl_lit (by decide), hM.n]
        refine ob_i (in_t hv (by omega) rfl hb) (ite_n (by decide) (ob_i (m_between hM hK (by omega)) ?_))
        rw [hn]
        refine ite_n (fun e => ?_) rfl
        rw [f_eq, nI_toInt (by omega), show ((-1 : Int32)).toInt = -1 from rfl] at e
        omega
  · refine P_err (FC := f_X6_between x0) (FM := f_X7_between x0) (k := 1) hI ?_ ?_
    · unfold f_X6_between
      rw [isR_iff (by omega)] at hv
      by_cases h0 : x0 < 0
      · exact ite_p h0 (ob_i (p_failing (k := 1) (by decide)) rfl)
      · refine ite_n h0 (ite_n ?_ (ob_i (p_failing (k := 1) (by decide)) rfl))
        rw [f_lt, show (0 : Int32).toInt = 0 from rfl] at h0
        rw [hC.n, f_le, nI_toInt (by omega)]
        omega
    · refine ite_p (inb_l (by decide) (by decide)) ?_
      rw [cl_lit (by decide), eC_c (by decide), hM.n]
      exact ob_i (in_f hv (by omega) rfl hb) (ite_p rfl (ob_i (p_error (k := 1) (by decide)) rfl))
