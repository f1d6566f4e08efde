/-! search, order, fewest -/
/-- the number on the plate at place p -/
def plN (N : Nat → Nat → Nat) (p : Nat) : Nat := N 3 (N 5 p)
theorem plN_b {N : Nat → Nat → Nat} {tx : Nat → Nat → Int32} (hK : OKN N tx) {p : Nat} (hp : p < N 0 0) : plN N p ≤ 999 := (hK.h (hK.h hp).2.2.2.2.2.1).2.2.2.1
section AT
variable {σ : St} {N : Nat → Nat → Nat} {zz : Int32} {ww : Nat → Int32} {xx : Nat → Nat → Int32}
theorem c_platAt (hC : CV 0 σ N zz ww xx) (hK : OKN N xx) {p : Nat} (hp : p < N 0 0) : f_X3_plateAt (nI p) σ = some (nI (plN N p), σ) := by
  have h1 := (hK.h hp).2.2.2.2.2.1
  rw [c_plateAt hC.n hK.n hp h1 (hC.rw hp), hC.pl h1]
  rfl
theorem m_plate (hM : MV 67 σ N zz ww xx) (hK : OKN N xx) {h : Nat} (hh : h < N 0 0) : f_X7_its (nI h) 2 σ = some (nI (N 3 h), σ) := by
  have := hK.n
  refine (m_its (w := 2) (by omega) (by decide)).trans ?_
  rw [show 8 + 4 * h + 2 = 10 + 4 * h by omega, hM.pl hh]
end AT
def bs (pl : Nat → Nat) (v : Nat) : Nat → Nat → Nat → Nat → Option Nat × Nat
  | 0, _, _, c => (none, c)
  | k + 1, lo, H, c => if H ≤ lo then (none, c) else if pl ((lo + H - 1) / 2) = v then (some ((lo + H - 1) / 2), c + 1) else if v ≤ pl ((lo + H - 1) / 2) then bs pl v k lo ((lo + H - 1) / 2) (c + 1) else bs pl v k ((lo + H - 1) / 2 + 1) H (c + 1)
theorem bs_l {pl : Nat → Nat} {v : Nat} : ∀ (k lo H c p : Nat), (bs pl v k lo H c).1 = some p → p < H := by
  intro k
  induction k with
  | zero => intro lo H c p h; cases h
  | succ k ih =>
    intro lo H c p h
    unfold bs at h
    by_cases e : H ≤ lo
    · rw [if_pos e] at h; cases h
    · rw [if_neg e] at h
      by_cases e2 : pl ((lo + H - 1) / 2) = v
      · rw [if_pos e2] at h
        cases h
        omega
      · rw [if_neg e2] at h
        by_cases e3 : v ≤ pl ((lo + H - 1) / 2)
        · rw [if_pos e3] at h
          have := ih _ _ _ _ h
          omega
        · rw [if_neg e3] at h
          exact ih _ _ _ _ h
def opI (f : Nat → Nat) : Option Nat → Int32
  | none => -1
  | some p => nI (f p)
theorem mid_e {lo H : Nat} (h : lo < H) (h2 : H ≤ 10) : ((nI lo + (nI H - 1)) / 2 : Int32) = nI ((lo + H - 1) / 2) := by
  rw [show (1 : Int32) = nI 1 from rfl, pk_sub (by omega), nI_add, show (2 : Int32) = nI 2 from rfl, pk_div (by omega) (by decide) (by decide), show lo + (H - 1) = lo + H - 1 by omega]
theorem hi_lt {lo H : Nat} (h2 : H ≤ 10) (h3 : lo ≤ 10) : (nI H - 1 : Int32) < nI lo ↔ H ≤ lo := by
  have e : (nI H - 1 : Int32).toInt = (H : Int) - 1 := pk_sub_toInt (a := H) (b := 1) (by omega) (by decide)
  rw [f_lt, e, nI_toInt (by omega)]
  omega
theorem c_found {N : Nat → Nat → Nat} {z : Int32} {wt : Nat → Int32} {tx : Nat → Nat → Int32} (hK : OKN N tx) {v : Nat} (hv : v ≤ 999) : ∀ (j k i lo H c : Nat) (σ : St), CV 0 σ N z wt tx → H - lo ≤ j → j < k → i + j ≤ 10 → H ≤ N 0 0 → lo ≤ N 0 0 → σ 30 0 = nI c → ∃ σ1, f_X4_placeFound_L18 k (nI v) (nI lo) (nI H - 1) (nI i) σ = some (opI id (bs (plN N) v j lo H c).1, σ1) ∧ σ1 30 0 = nI (bs (plN N) v j lo H c).2 ∧ ∀ q, q ≠ 30 → σ1 q = σ q := by
  have h10 := hK.n
  intro j
  induction j with
  | zero =>
    intro k i lo H c σ hC h1 h2 h3 h4 h5 h6
    obtain ⟨k, rfl⟩ : ∃ k', k = k' + 1 := ⟨k - 1, by omega⟩
    refine ⟨σ, ?_, h6, fun q _ => rfl⟩
    show f_X4_placeFound_b18 _ _ _ _ _ _ = some (-1, σ)
    unfold f_X4_placeFound_b18
    by_cases e : 10 ≤ nI i
    · exact ite_p e rfl
    · exact ite_n e (ite_p ((hi_lt (by omega) (by omega)).mpr (by omega)) rfl)
  | succ j ih =>
    intro k i lo H c σ hC h1 h2 h3 h4 h5 h6
    obtain ⟨k, rfl⟩ : ∃ k', k = k' + 1 := ⟨k - 1, by omega⟩
    have g10 : ¬ (10 : Int32) ≤ nI i := nI_ge (b := 10) (by omega) (by decide)
    by_cases e : H ≤ lo
    · unfold bs
      rw [if_pos e]
      exact ⟨σ, ite_n g10 (ite_p ((hi_lt (by omega) (by omega)).mpr e) rfl), h6, fun q _ => rfl⟩
    · unfold bs
      rw [if_neg e]
      have hp := c_platAt hC hK (p := (lo + H - 1) / 2) (by omega)
      have hb := plN_b hK (p := (lo + H - 1) / 2) (by omega)
      have hC2 : CV 0 (st σ 30 0 (nI (c + 1))) N z wt tx := hC.fr (fun q hq => st_c (by omega))
      have base : ∀ y, (if nI (plN N ((lo + H - 1) / 2)) = nI v then some (nI ((lo + H - 1) / 2), st σ 30 0 (nI (c + 1))) else if nI v ≤ nI (plN N ((lo + H - 1) / 2)) then f_X4_placeFound_L18 k (nI v) (nI lo) (nI ((lo + H - 1) / 2) - 1) (nI (i + 1)) (st σ 30 0 (nI (c + 1))) else f_X4_placeFound_L18 k (nI v) (nI ((lo + H - 1) / 2 + 1)) (nI H - 1) (nI (i + 1)) (st σ 30 0 (nI (c + 1)))) = y → f_X4_placeFound_L18 (k + 1) (nI v) (nI lo) (nI H - 1) (nI i) σ = y := by
        intro y hy
        show f_X4_placeFound_b18 _ _ _ _ _ _ = _
        unfold f_X4_placeFound_b18
        rw [mid_e (by omega) (by omega)]
        refine ite_n g10 (ite_n (fun q => e ((hi_lt (by omega) (by omega)).mp q)) (ob_i hp (ol_i ?_)))
        rw [h6, nI_1, nI_1, nI_1]
        exact hy
      by_cases e2 : plN N ((lo + H - 1) / 2) = v
      · rw [if_pos e2]
        refine ⟨_, base _ (ite_p (by rw [e2]) rfl), st_s, fun q hq => st_c hq⟩
      · rw [if_neg e2]
        have n2 : ¬ nI (plN N ((lo + H - 1) / 2)) = nI v := by rw [nI_eq (by omega) (by omega)]; exact e2
        by_cases e3 : v ≤ plN N ((lo + H - 1) / 2)
        · rw [if_pos e3]
          obtain ⟨σ1, g1, g2, g3⟩ := ih k (i + 1) lo ((lo + H - 1) / 2) (c + 1) _ hC2 (by omega) (by omega) (by omega) (by omega) (by omega) st_s
          exact ⟨σ1, base _ (ite_n n2 (ite_p (nI_le e3 (by omega)) g1)), g2, fun q hq => by rw [g3 q hq, st_c hq]⟩
        · rw [if_neg e3]
          obtain ⟨σ1, g1, g2, g3⟩ := ih k (i + 1) ((lo + H - 1) / 2 + 1) H (c + 1) _ hC2 (by omega) (by omega) (by omega) (by omega) (by omega) st_s
          exact ⟨σ1, base _ (ite_n n2 (ite_n (nI_ge (by omega) (by omega)) g1)), g2, fun q hq => by rw [g3 q hq, st_c hq]⟩
theorem m_found {N : Nat → Nat → Nat} {z : Int32} {wt : Nat → Int32} {tx : Nat → Nat → Int32} (hK : OKN N tx) {v : Nat} (hv : v ≤ 999) : ∀ (j k lo H c : Nat) (σ : St), MV 67 σ N z wt tx → H - lo ≤ j → j < k → H ≤ N 0 0 → lo ≤ N 0 0 → σ 66 13 = nI c → ∃ σ1, f_X7_finds1_L16 k (nI v) (nI lo) (nI H - 1) σ = some (opI (N 5) (bs (plN N) v j lo H c).1, σ1) ∧ σ1 66 13 = nI (bs (plN N) v j lo H c).2 ∧ ∀ q k, ¬ (q = 66 ∧ k = 13) → σ1 q k = σ q k := by
  have h10 := hK.n
  intro j
  induction j with
  | zero =>
    intro k lo H c σ hM h1 h2 h4 h5 h6
    obtain ⟨k, rfl⟩ : ∃ k', k = k' + 1 := ⟨k - 1, by omega⟩
    refine ⟨σ, ?_, h6, fun q k _ => rfl⟩
    show f_X7_finds1_b16 _ _ _ _ _ = some (-1, σ)
    exact ite_p ((hi_lt (by omega) (by omega)).mpr (by omega)) rfl
  | succ j ih =>
    intro k lo H c σ hM h1 h2 h4 h5 h6
    obtain ⟨k, rfl⟩ : ∃ k', k = k' + 1 := ⟨k - 1, by omega⟩
    by_cases e : H ≤ lo
    · unfold bs
      rw [if_pos e]
      exact ⟨σ, ite_p ((hi_lt (by omega) (by omega)).mpr e) rfl, h6, fun q k _ => rfl⟩
    · unfold bs
      rw [if_neg e]
      have hm : (lo + H - 1) / 2 < N 0 0 := by omega
      have ha := m_at hM hK hm
      have hb := plN_b hK hm
      have hM2 : MV 67 (st σ 66 13 (nI (c + 1))) N z wt tx := hM.fr (st_c (by decide))
      have hp := m_plate hM2 hK (hK.h hm).2.2.2.2.2.1
      have frm : ∀ {σ1 : St}, (∀ q k, ¬ (q = 66 ∧ k = 13) → σ1 q k = st σ 66 13 (nI (c + 1)) q k) → ∀ q k, ¬ (q = 66 ∧ k = 13) → σ1 q k = σ q k := fun g q k hq => by rw [g q k hq, st_e, if_neg hq]
      have base : ∀ y, (if nI (plN N ((lo + H - 1) / 2)) = nI v then some (nI (N 5 ((lo + H - 1) / 2)), st σ 66 13 (nI (c + 1))) else if nI v ≤ nI (plN N ((lo + H - 1) / 2)) then f_X7_finds1_L16 k (nI v) (nI lo) (nI ((lo + H - 1) / 2) - 1) (st σ 66 13 (nI (c + 1))) else f_X7_finds1_L16 k (nI v) (nI ((lo + H - 1) / 2 + 1)) (nI H - 1) (st σ 66 13 (nI (c + 1)))) = y → f_X7_finds1_L16 (k + 1) (nI v) (nI lo) (nI H - 1) σ = y := by
        intro y hy
        show f_X7_finds1_b16 _ _ _ _ _ = _
        unfold f_X7_finds1_b16
        rw [mid_e (by omega) (by omega)]
        refine ite_n (fun q => e ((hi_lt (by omega) (by omega)).mp q)) (ob_i ha (ol_i ?_))
        rw [h6, nI_1]
        refine ob_i hp ?_
        show (if nI (plN N ((lo + H - 1) / 2)) = nI v then _ else _) = _
        by_cases e2 : nI (plN N ((lo + H - 1) / 2)) = nI v
        · rw [if_pos e2] at hy ⊢; exact hy
        · rw [if_neg e2] at hy ⊢
          refine ob_i hp ?_
          show (if nI v ≤ nI (plN N ((lo + H - 1) / 2)) then _ else _) = _
          by_cases e3 : nI v ≤ nI (plN N ((lo + H - 1) / 2))
          · rw [if_pos e3] at hy ⊢
            exact ob_i hp (ite_p e3 hy)
          · rw [if_neg e3] at hy ⊢
            rw [nI_1]
            exact ob_i hp (ite_n e3 hy)
      by_cases e2 : plN N ((lo + H - 1) / 2) = v
      · rw [if_pos e2]
        exact ⟨_, base _ (ite_p (by rw [e2]) rfl), st_s, frm fun q k _ => rfl⟩
      · rw [if_neg e2]
        have n2 : ¬ nI (plN N ((lo + H - 1) / 2)) = nI v := by rw [nI_eq (by omega) (by omega)]; exact e2
        by_cases e3 : v ≤ plN N ((lo + H - 1) / 2)
        · rw [if_pos e3]
          obtain ⟨σ1, g1, g2, g3⟩ := ih k lo ((lo + H - 1) / 2) (c + 1) _ hM2 (by omega) (by omega) (by omega) (by omega) st_s
          exact ⟨σ1, base _ (ite_n n2 (ite_p (nI_le e3 (by omega)) g1)), g2, frm g3⟩
        · rw [if_neg e3]
          obtain ⟨σ1, g1, g2, g3⟩ := ih k ((lo + H - 1) / 2 + 1) H (c + 1) _ hM2 (by omega) (by omega) (by omega) (by omega) st_s
          exact ⟨σ1, base _ (ite_n n2 (ite_n (nI_ge (by omega) (by omega)) g1)), g2, frm g3⟩
/-- what a search for v gives: the place, and how many plates were looked at -/
def fndN (N : Nat → Nat → Nat) (v : Nat) : Option Nat × Nat := bs (plN N) v 10 0 (N 0 0) 0
theorem c_place {N : Nat → Nat → Nat} {z : Int32} {wt : Nat → Int32} {tx : Nat → Nat → Int32} (hK : OKN N tx) {v : Nat} (hv : v ≤ 999) {σ : St} (hC : CV 0 σ N z wt tx) : ∃ σ1, f_X4_placeFound (nI v) σ = some (opI id (fndN N v).1, σ1) ∧ σ1 30 0 = nI (fndN N v).2 ∧ ∀ q, q ≠ 30 → σ1 q = σ q := by
  have h10 := hK.n
  obtain ⟨σ1, g1, g2, g3⟩ := c_found hK hv 10 LF 0 0 (N 0 0) 0 (st σ 30 0 0) (hC.fr (fun q hq => st_c (by omega))) (by omega) (by decide) (by decide) (Nat.le_refl _) (Nat.zero_le _) st_s
  refine ⟨σ1, ol_i ?_, g2, fun q hq => by rw [g3 q hq, st_c hq]⟩
  rw [hC.n]
  exact g1
theorem m_finds {N : Nat → Nat → Nat} {z : Int32} {wt : Nat → Int32} {tx : Nat → Nat → Int32} (hK : OKN N tx) {v : Nat} (hv : v ≤ 999) {σ : St} (hM : MV 67 σ N z wt tx) : ∃ σ1, f_X7_finds1 (nI v) σ = some (opI (N 5) (fndN N v).1, σ1) ∧ σ1 66 13 = nI (fndN N v).2 ∧ ∀ q k, ¬ (q = 66 ∧ k = 13) → σ1 q k = σ q k := by
  have h10 := hK.n
  obtain ⟨σ1, g1, g2, g3⟩ := m_found hK hv 10 LF 0 (N 0 0) 0 (st σ 66 13 0) (hM.fr (st_c (by decide))) (by omega) (by decide) (Nat.le_refl _) (Nat.zero_le _) st_s
  refine ⟨σ1, ite_p (inb_l (by decide) (by decide)) (ol_i ?_), g2, fun q k hq => by rw [g3 q k hq, st_e, if_neg hq]⟩
  rw [cl_lit (by decide), hM.n]
  exact g1
theorem scr30 {σ σ1 : St} (h : ∀ q, q ≠ 30 → σ1 q = σ q) : Eqo scr σ σ1 := fun q k hq => by
  rw [h q]
  rintro rfl
  revert hq
  unfold scr
  simp
theorem scr6613 {σ σ1 : St} (h : ∀ q k, ¬ (q = 66 ∧ k = 13) → σ1 q k = σ q k) : Eqo scr σ σ1 := fun q k hq => h q k (by
  rintro ⟨rfl, rfl⟩
  revert hq
  unfold scr
  simp)
theorem P_search {σ : St} (hI : Inv σ) (x0 : Int32) (x1 : Int32) : ∃ (r : Int32) (σ1 σ2 : St), f_X6_search x0 x1 σ = some (r, σ1) ∧ f_X7_search x0 x1 σ1 = some (r, σ2) ∧ Inv σ2 := by
  obtain ⟨⟨N, z, wt, tx, hC, hM, hK⟩, -⟩ := id hI
  have h10 := hK.n
  have hb : ∀ s, f_X6_search_b16 s = some ((-1000000000) - nI 1, eC 1 s) := fun s => ob_i (p_failing (k := 1) (by decide)) rfl
  by_cases hv : isR 1 1000 x0
  · obtain ⟨v, hv1, hv2, rfl⟩ := id hv
    by_cases hw : isR 0 2 x1
    · obtain ⟨w, -, hw2, rfl⟩ := id hw
      obtain ⟨σ1, g1, g2, g3⟩ := c_place hK (show v ≤ 999 by omega) hC
      have i1 : Inv σ1 := hI.fr (scr30 g3)
      have hM1 : MV 67 σ1 N z wt tx := hM.fr (g3 _ (by decide))
      have hC1 : CV 0 σ1 N z wt tx := hC.fr (fun q hq => g3 _ (by omega))
      rcases (show w = 0 ∨ w = 1 by omega) with rfl | rfl
      · cases hf : (fndN N v).1 with
        | none =>
          rw [hf] at g1
          obtain ⟨σ2, f1, f2, f3⟩ := m_finds hK (show v ≤ 999 by omega) (σ := eC 2 σ1) (hM1.fr (eC_c (by decide)))
          rw [hf] at f1
          refine ⟨_, eC 2 σ1, eM 2 σ2, ob_i (isPlate_t hv) (ite_n (by decide) (ite_n (by decide) (ite_p (by decide) (ob_i g1 (ite_n (by decide) (ite_n (by show ¬ (0 : Int32) ≤ -1; decide) (ob_i (p_failing (k := 2) (by decide)) rfl))))))), ob_i (isNumber_t hv) (ite_n (by decide) (ob_i (in_t hw (by decide) rfl rfl) (ite_n (by decide) (ob_i f1 (ite_n (by decide) (ite_p rfl (ob_i (p_error (k := 2) (by decide)) rfl))))))), ?_⟩
          refine i1.err Eqo.rf (k := 2) (σ1 := eC 2 σ1) (fun q k hq => ?_)
          unfold eM
          rw [st_e, st_e, scr6613 f3 _ _ (show scr 69 2 = false from rfl), scr6613 f3 _ _ hq]
        | some p =>
          have hp : p < N 0 0 := bs_l _ _ _ _ _ hf
          rw [hf] at g1
          obtain ⟨σ2, f1, f2, f3⟩ := m_finds hK (show v ≤ 999 by omega) hM1
          rw [hf] at f1
          have h5 := (hK.h hp).2.2.2.2.2.1
          refine ⟨nI (N 5 p), σ1, σ2, ob_i (isPlate_t hv) (ite_n (by decide) (ite_n (by decide) (ite_p (by decide) (ob_i g1 (ite_n (by decide) (ite_p (nI_pos' (by show p < _; omega)) (ob_i (c_houseAt hC1.n h10 hp) ?_))))))), ob_i (isNumber_t hv) (ite_n (by decide) (ob_i (in_t hw (by decide) rfl rfl) (ite_n (by decide) (ob_i f1 (ite_n (by decide) (ite_n ?_ rfl)))))), i1.fr (scr6613 f3)⟩
          · rw [show id p = p from rfl, hC1.rw hp]
          · show ¬ nI (N 5 p) = -1
            rw [f_eq, nI_toInt (by omega), show ((-1 : Int32)).toInt = -1 from rfl]
            omega
      · obtain ⟨σ2, f1, f2, f3⟩ := m_finds hK (show v ≤ 999 by omega) hM1
        refine ⟨nI (fndN N v).2, σ1, σ2, ob_i (isPlate_t hv) (ite_n (by decide) (ite_n (by decide) (ite_p (by decide) (ob_i g1 (ite_p rfl (by rw [g2])))))), ob_i (isNumber_t hv) (ite_n (by decide) (ob_i (in_t hw (by decide) rfl rfl) (ite_n (by decide) (ob_i f1 (ite_p rfl (by rw [f2])))))), i1.fr (scr6613 f3)⟩
    · refine P_err (FC := f_X6_search (nI v) x1) (FM := f_X7_search (nI v) x1) (k := 1) hI ?_ (ob_i (isNumber_t hv) (ite_n (by decide) (ob_i (in_f hw (by decide) rfl rfl) (ite_p rfl (ob_i (p_error (k := 1) (by decide)) rfl)))))
      refine ob_i (isPlate_t hv) (ite_n (by decide) ?_)
      rw [isR_iff (by decide)] at hw
      by_cases h0 : x1 < 0
      · exact ite_p h0 (hb _)
      · refine ite_n h0 (ite_n ?_ (hb _))
        rw [f_lt, show (0 : Int32).toInt = 0 from rfl] at h0
        rw [f_le, show (1 : Int32).toInt = 1 from rfl]
        omega
  · exact P_err (FC := f_X6_search x0 x1) (FM := f_X7_search x0 x1) (k := 1) hI (ob_i (isPlate_f hv) (ite_p rfl (hb _))) (ob_i (isNumber_f hv) (ite_p rfl (ob_i (p_error (k := 1) (by decide)) rfl)))
