/-! harm -/
def dsN (p v : Nat) : Nat := if p ≤ v then v - p else p - v
def vlN (p v : Nat) : Nat := if v % 100 = 13 then dsN p v + 50 else dsN p v
def spN (p v : Nat) : Nat := if v % 10 = 8 then 0 else dsN p v / 2
/-- what a house of kind k with m, plate p, minds of the number v -/
def mdN (k m p v : Nat) : Nat := if k = 1 then vlN p v else if k = 2 then spN p v else if k = 3 then (if v % 2 = 0 then dsN p v else dsN p v + m) else if k = 4 then 3 * vlN p v else if k = 5 then (if v % 10 = 4 then spN p v + 20 else spN p v) else if k = 6 then 0 else dsN p v
theorem abs_ds {p v : Nat} (hp : p ≤ 999) (hv : v ≤ 999) : iabs (nI v - nI p) = nI (dsN p v) := by
  unfold iabs dsN
  by_cases h : p ≤ v
  · rw [if_pos h, pk_sub h, if_pos (nI_pos' (by omega))]
  · rw [if_neg h]
    have hn := pk_sneg (a := v) (b := p) (by omega) (by omega)
    have : ¬ (0 : Int32) ≤ nI v - nI p := by
      rw [f_lt] at hn
      rw [f_le]
      omega
    rw [if_neg this, Int32.zero_sub, Int32.neg_sub, pk_sub (by omega)]
theorem rem_e {v d c : Nat} (hv : v ≤ 999) (hd : 0 < d) (hd2 : d ≤ 100) (hc : c < 100) : irm (nI v) (nI d) = nI c ↔ v % d = c := by
  have := Nat.mod_lt v hd
  rw [irm_nI (by omega) hd (by omega), nI_eq (by omega) (by omega)]
section HM
variable {N : Nat → Nat → Nat} {z : Int32} {wt : Nat → Int32} {tx : Nat → Nat → Int32} {σ : St}
theorem c_villa {p v : Nat} (hv : v ≤ 999) (s : St) : f_X3_villaMinds (nI (dsN p v)) (nI v) s = some (nI (vlN p v), s) := by
  unfold f_X3_villaMinds vlN
  have r := rem_e (d := 100) (c := 13) hv (by decide) (by decide) (by decide)
  by_cases h : v % 100 = 13
  · rw [if_pos h]
    exact ite_p (r.mpr h) (by rw [show (50 : Int32) = nI 50 from rfl, nI_add])
  · rw [if_neg h]
    exact ite_n (fun q => h (r.mp q)) rfl
theorem c_shop {p v : Nat} (hp : p ≤ 999) (hv : v ≤ 999) (s : St) : f_X3_shopMinds (nI (dsN p v)) (nI v) s = some (nI (spN p v), s) := by
  unfold f_X3_shopMinds spN
  have r := rem_e (d := 10) (c := 8) hv (by decide) (by decide) (by decide)
  have hb : dsN p v ≤ 999 := by unfold dsN; split <;> omega
  by_cases h : v % 10 = 8
  · rw [if_pos h]
    exact ite_p (r.mpr h) rfl
  · rw [if_neg h]
    exact ite_n (fun q => h (r.mp q)) (by rw [show (2 : Int32) = nI 2 from rfl, pk_div (by omega) (by decide) (by decide)])
theorem c_minds (hC : CV 0 σ N z wt tx) (hK : OKN N tx) {h v : Nat} (hh : h < N 0 0) (hv : v ≤ 999) : f_X3_minds (nI h) (nI v) σ = some (nI (mdN (N 1 h) (N 2 h) (N 3 h) v), σ) := by
  have h10 := hK.n
  obtain ⟨k1, k2, k3, k4, -⟩ := hK.h hh
  have r10 := rem_e (d := 10) (c := 4) hv (by decide) (by decide) (by decide)
  have r2 := rem_e (d := 2) (c := 0) hv (by decide) (by decide) (by decide)
  refine ob_i (c_plate hC.n h10 hh) (ob_i (c_kind hC.n h10 hh) ?_)
  rw [hC.pl hh, hC.kd hh, abs_ds k4 hv]
  rcases (show N 1 h = 0 ∨ N 1 h = 1 ∨ N 1 h = 2 ∨ N 1 h = 3 ∨ N 1 h = 4 ∨ N 1 h = 5 ∨ N 1 h = 6 by omega) with e | e | e | e | e | e | e <;> rw [e]
  · rfl
  · exact ite_p rfl (ob_i (c_villa hv σ) rfl)
  · exact ite_n (by decide) (ite_p rfl (ob_i (c_shop k4 hv σ) rfl))
  · refine ite_n (by decide) (ite_n (by decide) (ite_p rfl ?_))
    show _ = some (nI (if v % 2 = 0 then dsN (N 3 h) v else dsN (N 3 h) v + N 2 h), σ)
    by_cases q : v % 2 = 0
    · rw [if_pos q]
      exact ite_p (r2.mpr q) rfl
    · rw [if_neg q]
      refine ite_n (fun q2 => q (r2.mp q2)) (ob_i (c_m hC.n h10 hh) ?_)
      rw [hC.em hh, nI_add]
  · refine ite_n (by decide) (ite_n (by decide) (ite_n (by decide) (ite_p rfl (ob_i (c_villa hv σ) ?_))))
    rw [show (3 : Int32) = nI 3 from rfl, pk_mul]
    rfl
  · refine ite_n (by decide) (ite_n (by decide) (ite_n (by decide) (ite_n (by decide) (ite_p rfl (ob_i (c_shop k4 hv σ) ?_)))))
    show _ = some (nI (if v % 10 = 4 then spN (N 3 h) v + 20 else spN (N 3 h) v), σ)
    by_cases q : v % 10 = 4
    · rw [if_pos q]
      exact ite_p (r10.mpr q) (by rw [show (20 : Int32) = nI 20 from rfl, nI_add])
    · rw [if_neg q]
      exact ite_n (fun q2 => q (r10.mp q2)) (by rw [show (0 : Int32) = nI 0 from rfl, nI_add, Nat.add_zero])
  · rfl
theorem m_b60 (hM : MV 67 σ N z wt tx) (hK : OKN N tx) {h v : Nat} (hh : h < N 0 0) (hv : v ≤ 999) : f_X7_mindsOf_b60 (nI h) (nI v) (nI (dsN (N 3 h) v)) (nI (vlN (N 3 h) v)) (nI (spN (N 3 h) v)) σ = some (nI (mdN (N 1 h) (N 2 h) (N 3 h) v), σ) := by
  have h10 := hK.n
  obtain ⟨k1, k2, k3, k4, -⟩ := hK.h hh
  have r10 := rem_e (d := 10) (c := 4) hv (by decide) (by decide) (by decide)
  have r2 := rem_e (d := 2) (c := 1) hv (by decide) (by decide) (by decide)
  refine ob_i (m_its (w := 0) (by omega) (by decide)) ?_
  rw [show 8 + 4 * h + 0 = 8 + 4 * h from rfl, hM.kd hh]
  rcases (show N 1 h = 0 ∨ N 1 h = 1 ∨ N 1 h = 2 ∨ N 1 h = 3 ∨ N 1 h = 4 ∨ N 1 h = 5 ∨ N 1 h = 6 by omega) with e | e | e | e | e | e | e <;> rw [e]
  · rfl
  · rfl
  · rfl
  · refine ite_n (by decide) (ite_n (by decide) (ite_p rfl ?_))
    show _ = some (nI (if v % 2 = 0 then dsN (N 3 h) v else dsN (N 3 h) v + N 2 h), σ)
    by_cases q : v % 2 = 0
    · rw [if_pos q]
      exact ite_n (fun q2 => by have := r2.mp q2; omega) (by rw [show (0 : Int32) = nI 0 from rfl, nI_add, Nat.add_zero])
    · rw [if_neg q]
      refine ite_p (r2.mpr (by omega)) (ob_i (m_its (w := 1) (by omega) (by decide)) ?_)
      rw [show 8 + 4 * h + 1 = 9 + 4 * h by omega, hM.em hh, nI_add]
  · refine ite_n (by decide) (ite_n (by decide) (ite_n (by decide) (ite_p rfl ?_)))
    rw [show (3 : Int32) = nI 3 from rfl, pk_mul]
    rfl
  · refine ite_n (by decide) (ite_n (by decide) (ite_n (by decide) (ite_n (by decide) (ite_p rfl ?_))))
    show _ = some (nI (if v % 10 = 4 then spN (N 3 h) v + 20 else spN (N 3 h) v), σ)
    by_cases q : v % 10 = 4
    · rw [if_pos q]
      exact ite_p (r10.mpr q) (by rw [show (20 : Int32) = nI 20 from rfl, nI_add])
    · rw [if_neg q]
      exact ite_n (fun q2 => q (r10.mp q2)) (by rw [show (0 : Int32) = nI 0 from rfl, nI_add, Nat.add_zero])
  · rfl
theorem m_minds (hM : MV 67 σ N z wt tx) (hK : OKN N tx) {h v : Nat} (hh : h < N 0 0) (hv : v ≤ 999) : f_X7_mindsOf (nI h) (nI v) σ = some (nI (mdN (N 1 h) (N 2 h) (N 3 h) v), σ) := by
  have h10 := hK.n
  obtain ⟨k1, k2, k3, k4, -⟩ := hK.h hh
  have hb : dsN (N 3 h) v ≤ 999 := by unfold dsN; split <;> omega
  have b21 : f_X7_mindsOf_b21 (nI h) (nI v) (nI (dsN (N 3 h) v)) σ = some (nI (mdN (N 1 h) (N 2 h) (N 3 h) v), σ) := by
    have r100 := rem_e (d := 100) (c := 13) hv (by decide) (by decide) (by decide)
    have r10 := rem_e (d := 10) (c := 8) hv (by decide) (by decide) (by decide)
    have b := m_b60 hM hK hh hv
    have e50 : (nI (dsN (N 3 h) v) + 50 : Int32) = nI (dsN (N 3 h) v + 50) := nI_add _ 50
    have e0 : (nI (dsN (N 3 h) v) + 0 : Int32) = nI (dsN (N 3 h) v) := nI_add _ 0
    have e2 : (nI (dsN (N 3 h) v) / 2 : Int32) = nI (dsN (N 3 h) v / 2) := pk_div (d := 2) (by omega) (by decide) (by decide)
    unfold f_X7_mindsOf_b21
    rw [e50, e0, e2]
    unfold vlN spN at b
    by_cases q : v % 100 = 13
    · rw [if_pos q] at b
      refine ite_p (r100.mpr q) ?_
      by_cases q2 : v % 10 = 8
      · rw [if_pos q2] at b
        exact ite_p (r10.mpr q2) b
      · rw [if_neg q2] at b
        exact ite_n (fun q3 => q2 (r10.mp q3)) b
    · rw [if_neg q] at b
      refine ite_n (fun q3 => q (r100.mp q3)) ?_
      by_cases q2 : v % 10 = 8
      · rw [if_pos q2] at b
        exact ite_p (r10.mpr q2) b
      · rw [if_neg q2] at b
        exact ite_n (fun q3 => q2 (r10.mp q3)) b
  refine ob_i (m_plate hM hK hh) ?_
  by_cases q : N 3 h ≤ v
  · refine ite_p (nI_le q (by omega)) ?_
    rw [pk_sub q, show v - N 3 h = dsN (N 3 h) v from (if_pos q).symm]
    exact b21
  · refine ite_n (nI_ge (by omega) (by omega)) ?_
    rw [pk_sub (by omega), show N 3 h - v = dsN (N 3 h) v from (if_neg q).symm]
    exact b21
/-- the harm that the number v does to house h -/
def hmI (N : Nat → Nat → Nat) (tx : Nat → Nat → Int32) (h v : Nat) : Int32 := if v = N 3 h then 0 else gvI 0 (N 7 0) (tx 0) (e3 (nI (mdN (N 1 h) (N 2 h) (N 3 h) v)) (nI (N 0 1 % 7)) (nI (N 3 h)))
theorem c_harm (hC : CV 0 σ N z wt tx) (hK : OKN N tx) {h v : Nat} (hh : h < N 0 0) (hv : v ≤ 999) : ∃ σ1, f_X3_harmTo (nI h) (nI v) σ = some (hmI N tx h v, σ1) ∧ ∀ q, q ≠ 8 → σ1 q = σ q := by
  have h10 := hK.n
  have hy := hK.y
  obtain ⟨k1, k2, k3, k4, -⟩ := hK.h hh
  have hp : f_X3_plate (nI h) σ = some (nI (N 3 h), σ) := by rw [c_plate hC.n h10 hh, hC.pl hh]
  unfold hmI
  by_cases q : v = N 3 h
  · rw [if_pos q]
    exact ⟨σ, ob_i hp (ite_p (by rw [q]) rfl), fun q _ => rfl⟩
  · rw [if_neg q]
    obtain ⟨σ1, g1, g2⟩ := c_give hC hK (u := 0) (by decide) (e3 (nI (mdN (N 1 h) (N 2 h) (N 3 h) v)) (nI (N 0 1 % 7)) (nI (N 3 h)))
    refine ⟨σ1, ob_i hp (ite_n (by rw [nI_eq (by omega) (by omega)]; exact q) (ob_i (c_minds hC hK hh hv) ?_)), g2⟩
    rw [hC.y, show irm (nI (N 0 1)) 7 = nI (N 0 1 % 7) from irm_nI (d := 7) (by omega) (by decide) (by decide)]
    exact ob_i g1 rfl
theorem m_harm (hM : MV 67 σ N z wt tx) (hK : OKN N tx) {h v : Nat} (hh : h < N 0 0) (hv : v ≤ 999) : ∃ σ1, f_X7_harmOf (nI h) (nI v) σ = some (hmI N tx h v, σ1) ∧ ∀ q, q ≠ 71 → q ≠ 72 → σ1 q = σ q := by
  have h10 := hK.n
  have hy := hK.y
  obtain ⟨k1, k2, k3, k4, -⟩ := hK.h hh
  unfold hmI
  by_cases q : v = N 3 h
  · rw [if_pos q]
    exact ⟨σ, ob_i (m_plate hM hK hh) (ite_p (by rw [q]) rfl), fun q _ _ => rfl⟩
  · rw [if_neg q]
    obtain ⟨σ1, g1, g2⟩ := m_told0 hM hK (nI (mdN (N 1 h) (N 2 h) (N 3 h) v)) (nI (N 0 1 % 7)) (nI (N 3 h))
    refine ⟨σ1, ob_i (m_plate hM hK hh) (ite_n (by rw [nI_eq (by omega) (by omega)]; exact q) (ob_i (m_minds hM hK hh hv) (ite_p (inb_l (by decide) (by decide)) (ob_i (m_plate hM hK hh) ?_)))), g2⟩
    rw [show σ 67 (Int32.toNatClampNeg 0) = nI (N 0 1) from hM.y, show irm (nI (N 0 1)) 7 = nI (N 0 1 % 7) from irm_nI (d := 7) (by omega) (by decide) (by decide)]
    exact ob_i g1 rfl
end HM
theorem P_harm {σ : St} (hI : Inv σ) (x0 : Int32) (x1 : Int32) : ∃ (r : Int32) (σ1 σ2 : St), f_X6_harm x0 x1 σ = some (r, σ1) ∧ f_X7_harm x0 x1 σ1 = some (r, σ2) ∧ Inv σ2 := by
  obtain ⟨⟨N, z, wt, tx, hC, hM, hK⟩, -⟩ := id hI
  have h10 := hK.n
  by_cases hv : isR 0 (N 0 0) x0
  · obtain ⟨h, -, hh, rfl⟩ := id hv
    by_cases hw : isR 1 1000 x1
    · obtain ⟨v, hv1, hv2, rfl⟩ := id hw
      obtain ⟨σ1, g1, g2⟩ := c_harm hC hK hh (show v ≤ 999 by omega)
      have hM1 : MV 67 σ1 N z wt tx := hM.fr (g2 _ (by decide))
      obtain ⟨σ2, f1, f2⟩ := m_harm hM1 hK hh (show v ≤ 999 by omega)
      exact ⟨_, σ1, σ2, ob_i (hasHouse_t hC.n h10 hv) (ite_n (by decide) (ob_i (isPlate_t hw) (ite_n (by decide) (ob_i g1 rfl)))), ob_i (m_isHouse_t hM1.n h10 hv) (ite_n (by decide) (ob_i (isNumber_t hw) (ite_n (by decide) (ob_i f1 rfl)))), (hI.fr (scr8 g2)).fr (scr7172 f2)⟩
    · refine P_err (FC := f_X6_harm (nI h) x1) (FM := f_X7_harm (nI h) x1) (k := 1) hI ?_ ?_
      · exact ob_i (hasHouse_t hC.n h10 hv) (ite_n (by decide) (ob_i (isPlate_f hw) (ite_p rfl (ob_i (p_failing (k := 1) (by decide)) rfl))))
      · exact ob_i (m_isHouse_t (by rw [eC_c (by decide)]; exact hM.n) h10 hv) (ite_n (by decide) (ob_i (isNumber_f hw) (ite_p rfl (ob_i (p_error (k := 1) (by decide)) rfl))))
  · exact P_err (FC := f_X6_harm x0 x1) (FM := f_X7_harm x0 x1) (k := 1) hI (ob_i (hasHouse_f hC.n h10 hv) (ite_p rfl (ob_i (p_failing (k := 1) (by decide)) rfl))) (ob_i (m_isHouse_f (by rw [eC_c (by decide)]; exact hM.n) h10 hv) (ite_p rfl (ob_i (p_error (k := 1) (by decide)) rfl)))
