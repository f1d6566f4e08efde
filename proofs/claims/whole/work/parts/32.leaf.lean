/-! Leaves: tests of ranges, reads and writes of single numbers -/
/-- x is one of lo, .., hi - 1 -/
def isR (lo hi : Nat) (x : Int32) : Prop := ∃ j : Nat, lo ≤ j ∧ j < hi ∧ x = nI j
theorem isR_iff {lo hi : Nat} {x : Int32} (h : hi ≤ 2 ^ 31) : isR lo hi x ↔ (lo : Int) ≤ x.toInt ∧ x.toInt < hi := by
  constructor
  · rintro ⟨j, h1, h2, rfl⟩
    rw [nI_toInt (by omega)]
    omega
  · intro ⟨h1, h2⟩
    have hx : ¬ x < 0 := by
      rw [Int32.lt_iff_toInt_lt]
      show ¬ x.toInt < (0 : Int32).toInt
      rw [show (0 : Int32).toInt = 0 from rfl]
      omega
    obtain ⟨j, hj, rfl⟩ := nI_of hx
    rw [nI_toInt hj] at h1 h2
    exact ⟨j, by omega, by omega, rfl⟩
theorem f_lt (a b : Int32) : a < b ↔ a.toInt < b.toInt := Int32.lt_iff_toInt_lt
theorem f_le (a b : Int32) : a ≤ b ↔ a.toInt ≤ b.toInt := Int32.le_iff_toInt_le
theorem f_eq (a b : Int32) : a = b ↔ a.toInt = b.toInt := Int32.toInt_inj.symm
theorem t_neg {n : Nat} (h : n < 2 ^ 31) : (-(OfNat.ofNat n : Int32)).toInt = -(n : Int) := by
  show (-nI n).toInt = _
  exact sb_negT h
theorem in_t {lo hi : Nat} {x a b : Int32} {σ : St} (h : isR lo hi x) (hh : hi ≤ 2 ^ 31) (ha : a.toInt = lo) (hb : b.toInt = (hi : Int) - 1) : f_X7_in x a b σ = some (1, σ) := by
  rw [isR_iff hh] at h
  unfold f_X7_in
  refine ite_n ?_ (ite_n ?_ rfl)
  · rw [f_lt]; omega
  · rw [f_lt]; omega
theorem in_f {lo hi : Nat} {x a b : Int32} {σ : St} (h : ¬ isR lo hi x) (hh : hi ≤ 2 ^ 31) (ha : a.toInt = lo) (hb : b.toInt = (hi : Int) - 1) : f_X7_in x a b σ = some (0, σ) := by
  rw [isR_iff hh] at h
  unfold f_X7_in
  by_cases h1 : x < a
  · exact ite_p h1 rfl
  · refine ite_n h1 (ite_p ?_ rfl)
    rw [f_lt] at h1 ⊢
    omega
theorem isNumber_t {x : Int32} {σ : St} (h : isR 1 1000 x) : f_X7_isNumber x σ = some (1, σ) := ob_i (in_t h (by decide) rfl rfl) (ite_p (Or.inr rfl) rfl)
theorem isNumber_f {x : Int32} {σ : St} (h : ¬ isR 1 1000 x) : f_X7_isNumber x σ = some (0, σ) := ob_i (in_f h (by decide) rfl rfl) (ite_p (Or.inl rfl) rfl)
theorem isKind_t {x : Int32} {σ : St} (h : isR 0 70 x) : f_X7_isKind x σ = some (1, σ) := ob_i (in_t h (by decide) rfl rfl) (ite_p (Or.inr rfl) rfl)
theorem isKind_f {x : Int32} {σ : St} (h : ¬ isR 0 70 x) : f_X7_isKind x σ = some (0, σ) := ob_i (in_f h (by decide) rfl rfl) (ite_p (Or.inl rfl) rfl)
theorem isGap_t {x : Int32} {σ : St} (h : isR 1 51 x) : f_X7_isGap x σ = some (1, σ) := ob_i (in_t h (by decide) rfl rfl) (ite_p (Or.inr rfl) rfl)
theorem isGap_f {x : Int32} {σ : St} (h : ¬ isR 1 51 x) : f_X7_isGap x σ = some (0, σ) := ob_i (in_f h (by decide) rfl rfl) (ite_p (Or.inl rfl) rfl)
theorem isSheetM_t {x : Int32} {σ : St} (h : isR 0 4 x) : f_X7_isSheet x σ = some (1, σ) := ob_i (in_t h (by decide) rfl rfl) (ite_p (Or.inr rfl) rfl)
theorem isSheetM_f {x : Int32} {σ : St} (h : ¬ isR 0 4 x) : f_X7_isSheet x σ = some (0, σ) := ob_i (in_f h (by decide) rfl rfl) (ite_p (Or.inl rfl) rfl)
theorem cl_lit {n : Nat} (h : n < 2 ^ 31) : (OfNat.ofNat n : Int32).toNatClampNeg = n := nI_clamp h
theorem inb_l {i n : Nat} (h : i < n) (hn : n < 2 ^ 31) : inb (OfNat.ofNat i : Int32) n := vp_in_nI h hn
theorem m_isHouse_t {x : Int32} {n : Nat} {σ : St} (hn : σ 67 5 = nI n) (h10 : n ≤ 10) (h : isR 0 n x) : f_X7_isHouse x σ = some (1, σ) := by
  refine ite_p (inb_l (by decide) (by decide)) ?_
  rw [cl_lit (by decide), hn]
  refine ob_i (in_t h (by omega) rfl ?_) (ite_p (Or.inr rfl) rfl)
  exact pk_sub_toInt (a := n) (b := 1) (by omega) (by decide)
theorem m_isHouse_f {x : Int32} {n : Nat} {σ : St} (hn : σ 67 5 = nI n) (h10 : n ≤ 10) (h : ¬ isR 0 n x) : f_X7_isHouse x σ = some (0, σ) := by
  refine ite_p (inb_l (by decide) (by decide)) ?_
  rw [cl_lit (by decide), hn]
  refine ob_i (in_f h (by omega) rfl ?_) (ite_p (Or.inl rfl) rfl)
  exact pk_sub_toInt (a := n) (b := 1) (by omega) (by decide)
-- the class's
theorem isPlate_t {x : Int32} {σ : St} (h : isR 1 1000 x) : f_X6_isPlate x σ = some (1, σ) := by
  rw [isR_iff (by decide)] at h
  refine ite_n ?_ (ite_n ?_ rfl)
  · rw [f_lt, show (1 : Int32).toInt = 1 from rfl]; omega
  · rw [f_lt, show (999 : Int32).toInt = 999 from rfl]; omega
theorem isPlate_f {x : Int32} {σ : St} (h : ¬ isR 1 1000 x) : f_X6_isPlate x σ = some (0, σ) := by
  rw [isR_iff (by decide)] at h
  unfold f_X6_isPlate
  by_cases h1 : x < 1
  · exact ite_p h1 rfl
  · refine ite_n h1 (ite_p ?_ rfl)
    rw [f_lt, show (1 : Int32).toInt = 1 from rfl] at h1
    rw [f_lt, show (999 : Int32).toInt = 999 from rfl]
    omega
theorem r4_t {lo hi : Nat} {x a b : Int32} {σ : St} (h : isR lo hi x) (hh : hi ≤ 2 ^ 31) (ha : a.toInt = lo) (hb : b.toInt = hi) : (if x < a then some ((0 : Int32), σ) else (if b ≤ x then some (0, σ) else some (1, σ))) = some (1, σ) := by
  rw [isR_iff hh] at h
  refine ite_n ?_ (ite_n ?_ rfl)
  · rw [f_lt]; omega
  · rw [f_le]; omega
theorem r4_f {lo hi : Nat} {x a b : Int32} {σ : St} (h : ¬ isR lo hi x) (hh : hi ≤ 2 ^ 31) (ha : a.toInt = lo) (hb : b.toInt = hi) : (if x < a then some ((0 : Int32), σ) else (if b ≤ x then some (0, σ) else some (1, σ))) = some (0, σ) := by
  rw [isR_iff hh] at h
  by_cases h1 : x < a
  · exact ite_p h1 rfl
  · refine ite_n h1 (ite_p ?_ rfl)
    rw [f_lt] at h1
    rw [f_le]
    omega
theorem isKm_t {x : Int32} {σ : St} (h : isR 0 70 x) : f_X6_isKindWithM x σ = some (1, σ) := r4_t h (by decide) rfl rfl
theorem isKm_f {x : Int32} {σ : St} (h : ¬ isR 0 70 x) : f_X6_isKindWithM x σ = some (0, σ) := r4_f h (by decide) rfl rfl
theorem isUse_t {x : Int32} {σ : St} (h : isR 0 2 x) : f_X6_isUse x σ = some (1, σ) := r4_t h (by decide) rfl rfl
theorem isUse_f {x : Int32} {σ : St} (h : ¬ isR 0 2 x) : f_X6_isUse x σ = some (0, σ) := r4_f h (by decide) rfl rfl
theorem isSheet_t {x : Int32} {σ : St} (h : isR 0 4 x) : f_X6_isSheet x σ = some (1, σ) := r4_t h (by decide) rfl rfl
theorem isSheet_f {x : Int32} {σ : St} (h : ¬ isR 0 4 x) : f_X6_isSheet x σ = some (0, σ) := r4_f h (by decide) rfl rfl
theorem hasHouse_t {x : Int32} {n : Nat} {σ : St} (hn : σ 1 1 = nI n) (h10 : n ≤ 10) (h : isR 0 n x) : f_X3_hasHouse x σ = some (1, σ) := by
  rw [isR_iff (by omega)] at h
  unfold f_X3_hasHouse
  rw [hn]
  refine ite_n ?_ (ite_n ?_ (ite_n ?_ rfl))
  · rw [f_lt, show (0 : Int32).toInt = 0 from rfl]; omega
  · rw [f_le, nI_toInt (by omega)]; omega
  · rw [f_le, show (10 : Int32).toInt = 10 from rfl]; omega
theorem hasHouse_f {x : Int32} {n : Nat} {σ : St} (hn : σ 1 1 = nI n) (h10 : n ≤ 10) (h : ¬ isR 0 n x) : f_X3_hasHouse x σ = some (0, σ) := by
  rw [isR_iff (by omega)] at h
  unfold f_X3_hasHouse
  rw [hn]
  by_cases h1 : x < 0
  · exact ite_p h1 rfl
  · refine ite_n h1 (ite_p ?_ rfl)
    rw [f_lt, show (0 : Int32).toInt = 0 from rfl] at h1
    rw [f_le, nI_toInt (by omega)]
    omega
theorem isR_n {j n : Nat} (h : j < n) : isR 0 n (nI j) := ⟨j, Nat.zero_le _, h, rfl⟩
theorem c_kind {n h : Nat} {σ : St} (hn : σ 1 1 = nI n) (h10 : n ≤ 10) (hh : h < n) : f_X3_kind (nI h) σ = some (σ 9 h, σ) := by
  refine ob_i (hasHouse_t hn h10 (isR_n hh)) (ite_n (by decide) (ite_p (inb_i (by omega) (by decide)) ?_))
  rw [nI_clamp (by omega)]
theorem c_m {n h : Nat} {σ : St} (hn : σ 1 1 = nI n) (h10 : n ≤ 10) (hh : h < n) : f_X3_m (nI h) σ = some (σ 10 h, σ) := by
  refine ob_i (hasHouse_t hn h10 (isR_n hh)) (ite_n (by decide) (ite_p (inb_i (by omega) (by decide)) ?_))
  rw [nI_clamp (by omega)]
theorem c_plate {n h : Nat} {σ : St} (hn : σ 1 1 = nI n) (h10 : n ≤ 10) (hh : h < n) : f_X3_plate (nI h) σ = some (σ 11 h, σ) := by
  refine ob_i (hasHouse_t hn h10 (isR_n hh)) (ite_n (by decide) (ite_p (inb_i (by omega) (by decide)) ?_))
  rw [nI_clamp (by omega)]
theorem c_houseAt {n h : Nat} {σ : St} (hn : σ 1 1 = nI n) (h10 : n ≤ 10) (hh : h < n) : f_X3_houseAt (nI h) σ = some (σ 12 h, σ) := by
  refine ob_i (hasHouse_t hn h10 (isR_n hh)) (ite_n (by decide) (ite_p (inb_i (by omega) (by decide)) ?_))
  rw [nI_clamp (by omega)]
theorem c_plateAt {n p h : Nat} {σ : St} (hn : σ 1 1 = nI n) (h10 : n ≤ 10) (hp : p < n) (hh : h < n) (hr : σ 12 p = nI h) : f_X3_plateAt (nI p) σ = some (σ 11 h, σ) := by
  refine ob_i (c_houseAt hn h10 hp) ?_
  rw [hr]
  exact ob_i (c_plate hn h10 hh) rfl
theorem c_setKind {n h : Nat} {σ : St} {k m : Int32} (hn : σ 1 1 = nI n) (h10 : n ≤ 10) (hh : h < n) : f_X3_setKind (nI h) k m σ = some (0, st (st σ 9 h k) 10 h m) := by
  refine ob_i (hasHouse_t hn h10 (isR_n hh)) (ite_n (by decide) (ite_p (inb_i (by omega) (by decide)) ?_))
  simp (disch := omega) only [nI_clamp]
  exact ol_i (ite_p (inb_i (by omega) (by decide)) (ol_i rfl))
theorem c_setPlate {n h : Nat} {σ : St} {v : Int32} (hn : σ 1 1 = nI n) (h10 : n ≤ 10) (hh : h < n) : f_X3_setPlate (nI h) v σ = some (0, st σ 11 h v) := by
  refine ob_i (hasHouse_t hn h10 (isR_n hh)) (ite_n (by decide) (ite_p (inb_i (by omega) (by decide)) ?_))
  rw [nI_clamp (by omega)]
  exact ol_i rfl
-- the reference's
theorem ix4 {h w : Nat} (hh : h < 10) (hw : w < 4) : (8 + 4 * nI h + nI w : Int32) = nI (8 + 4 * h + w) := by
  show nI 8 + nI 4 * nI h + nI w = _
  rw [pk_mul, nI_add, nI_add]
theorem m_its {h w : Nat} {σ : St} (hh : h < 10) (hw : w < 4) : f_X7_its (nI h) (nI w) σ = some (σ 67 (8 + 4 * h + w), σ) := by
  unfold f_X7_its
  rw [ix4 hh hw]
  simp (disch := omega) only [nI_clamp]
  exact ite_p (inb_i (by omega) (by decide)) rfl
theorem m_lays1 {h w : Nat} {v : Int32} {σ : St} (hh : h < 10) (hw : w < 4) : f_X7_lays1 (nI h) (nI w) v σ = some (0, st σ 67 (8 + 4 * h + w) v) := by
  unfold f_X7_lays1
  rw [ix4 hh hw]
  simp (disch := omega) only [nI_clamp]
  exact ite_p (inb_i (by omega) (by decide)) (ol_i rfl)
theorem m_change1 {i : Nat} {v : Int32} {σ : St} (hi : i < 382) : f_X7_change1 (nI i) v σ = some (σ 67 i, st σ 67 i v) := by
  unfold f_X7_change1
  simp (disch := omega) only [nI_clamp]
  exact ite_p (inb_i (by omega) (by decide)) (ite_p (inb_i (by omega) (by decide)) (ol_i rfl))
theorem m_at1_L {n p h : Nat} {σ : St} {pc : Nat → Nat} (h10 : n ≤ 10) (hp : ∀ j, j < n → σ 67 (11 + 4 * j) = nI (pc j)) (hb : ∀ j, j < n → pc j < n) (hh : h < n) (hpc : pc h = p) (hu : ∀ j, j < h → pc j ≠ p) : ∀ (k j : Nat), j ≤ h → h < k + j → f_X7_at1_L2 k (nI p) (nI j) σ = some (nI h, σ) := by
  intro k
  induction k with
  | zero => intro j h1 h2; omega
  | succ k ih =>
    intro j h1 h2
    show f_X7_at1_b2 (f_X7_at1_L2 k) (nI p) (nI j) σ = _
    refine ob_i (m_its (w := 3) (by omega) (by decide)) ?_
    rw [show 8 + 4 * j + 3 = 11 + 4 * j by omega, hp j (by omega)]
    have hpp := hb h hh
    have hpj := hb j (by omega)
    by_cases e : j = h
    · subst e
      exact ite_p (by rw [hpc]) rfl
    · refine ite_n (fun q => ?_) ?_
      · rw [nI_eq (by omega) (by omega)] at q
        exact hu j (by omega) q
      · rw [nI_1]
        exact ih (j + 1) (by omega) (by omega)
theorem m_at1 {n p h : Nat} {σ : St} {pc rw' : Nat → Nat} (h10 : n ≤ 10) (hp : ∀ j, j < n → σ 67 (11 + 4 * j) = nI (pc j)) (hb : ∀ j, j < n → pc j < n ∧ rw' (pc j) = j) (hh : h < n) (hpc : pc h = p) : f_X7_at1 (nI p) σ = some (nI h, σ) :=
  m_at1_L h10 hp (fun j hj => (hb j hj).1) hh hpc (fun j hj e => by
    have a := (hb j (by omega)).2
    have b := (hb h hh).2
    rw [e] at a
    rw [hpc] at b
    omega) LF 0 (Nat.zero_le _) (by unfold LF; omega)
