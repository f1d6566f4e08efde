/-! renames; what a gap would do -/
def hmN (N : Nat → Nat → Nat) (tx : Nat → Nat → Int32) (h v : Nat) : Nat := (hmI N tx h v).toNatClampNeg
theorem cl2_b {y : Int32} : isR 0 1000 (cl2 0 999 y) := by
  rw [isR_iff (by decide)]
  unfold cl2
  by_cases h : (0 : Int32) ≤ y
  · rw [if_pos h]
    rw [f_le, show (0 : Int32).toInt = 0 from rfl] at h
    by_cases h2 : y ≤ 999
    · rw [if_pos h2]
      rw [f_le, show (999 : Int32).toInt = 999 from rfl] at h2
      omega
    · rw [if_neg h2, show (999 : Int32).toInt = 999 from rfl]; omega
  · rw [if_neg h, show (0 : Int32).toInt = 0 from rfl]; omega
theorem hmI_n (N : Nat → Nat → Nat) (tx : Nat → Nat → Int32) (h v : Nat) : hmI N tx h v = nI (hmN N tx h v) ∧ hmN N tx h v ≤ 999 := by
  have : isR 0 1000 (hmI N tx h v) := by
    unfold hmI
    by_cases q : v = N 3 h
    · rw [if_pos q]; exact ⟨0, Nat.zero_le _, by decide, rfl⟩
    · rw [if_neg q]
      unfold gvI
      rw [if_pos rfl]
      exact cl2_b
  obtain ⟨r1, -, r3⟩ := isR_cl this (by decide)
  exact ⟨r1, by unfold hmN; omega⟩
/-- DONE with a more -/
def dnN (D a : Nat) : Nat := if D + a < 99999 then D + a else 99999
def gtN (N : Nat → Nat → Nat) (h v d : Nat) : Nat → Nat → Nat := hsN (uN (uN N 0 1 (N 0 1)) 0 2 d) (N 1) (N 2) (fun j => if j = h then v else N 3 j)
theorem OKN.gt {N : Nat → Nat → Nat} {tx : Nat → Nat → Int32} (hK : OKN N tx) {h v D a : Nat} (hv : 1 ≤ v ∧ v ≤ 999) : OKN (gtN N h v (dnN D a)) tx := by
  refine (hK.sc (y := N 0 1) (d := dnN D a) hK.y (by unfold dnN; split <;> omega)).hs (fun j hj => ?_)
  obtain ⟨g1, g2, g3, g4, -⟩ := hK.h (j := j) hj
  refine ⟨g1, g2, ?_⟩
  by_cases e : j = h
  · simp only [if_pos e]; exact hv
  · simp only [if_neg e]; exact ⟨g3, g4⟩
section GT
variable {N : Nat → Nat → Nat} {z : Int32} {wt : Nat → Int32} {tx : Nat → Nat → Int32} {σ : St}
theorem c_gets (hC : CV 0 σ N z wt tx) (hK : OKN N tx) {h v : Nat} (hh : h < N 0 0) (hv : v ≤ 999) : ∃ σ1, f_X3_getsNumber (nI h) (nI v) σ = some (nI (hmN N tx h v), σ1) ∧ CV 0 σ1 (gtN N h v (dnN (N 0 2) (hmN N tx h v))) z wt tx ∧ ∀ q, q ≠ 1 → q ≠ 8 → q ≠ 11 → σ1 q = σ q := by
  have h10 := hK.n
  have hd := hK.d
  obtain ⟨σa, g1, g2⟩ := c_harm hC hK hh hv
  obtain ⟨hm1, hm2⟩ := hmI_n N tx h v
  rw [hm1] at g1
  have hCa : CV 0 σa N z wt tx := hC.fr (fun q hq => g2 q (by omega))
  have em : imin 99999 (σa 1 3 + nI (hmN N tx h v)) = nI (dnN (N 0 2) (hmN N tx h v)) := by
    rw [hCa.d, nI_add]
    unfold imin dnN
    by_cases q : N 0 2 + hmN N tx h v < 99999
    · rw [if_pos q]; exact if_pos (nI_lt (b := 99999) q (by decide))
    · rw [if_neg q]; exact if_neg (nI_nlt (b := 99999) (by omega) (by omega))
  have hCb : CV 0 (st σa 1 3 (nI (dnN (N 0 2) (hmN N tx h v)))) (uN (uN N 0 1 (N 0 1)) 0 2 (dnN (N 0 2) (hmN N tx h v))) z wt tx := hCa.sc (fun q h1 h2 h3 => st_c (by omega)) (by rw [st_k (by decide)]) (by rw [st_k (by decide)]) (by rw [st_k (by decide)]; exact hCa.y) st_s (by rw [st_k (by decide)]; exact hCa.z)
  refine ⟨st (st σa 1 3 (nI (dnN (N 0 2) (hmN N tx h v)))) 11 h (nI v), ?_, ?_, fun q h1 h2 h3 => by rw [st_c h3, st_c h1, g2 q h2]⟩
  · refine ob_i g1 (ol_i ?_)
    rw [em]
    exact ob_i (c_setPlate (n := N 0 0) hCb.n h10 hh) rfl
  · refine hCb.hs (fun q hq => st_c (by omega)) (fun j hj => ?_)
    have hj2 : j < N 0 0 := hj
    refine ⟨?_, ?_, ?_⟩
    · rw [st_c (by decide)]; exact hCb.kd hj
    · rw [st_c (by decide)]; exact hCb.em hj
    · by_cases e : j = h
      · simp only [if_pos e]; rw [e, st_s]
      · simp only [if_neg e]; rw [st_k e]; exact hCb.pl hj
theorem m_gets (hM : MV 67 σ N z wt tx) (hK : OKN N tx) {h v : Nat} (hh : h < N 0 0) (hv : v ≤ 999) : ∃ σ1, f_X7_gets (nI h) (nI v) σ = some (nI (hmN N tx h v), σ1) ∧ MV 67 σ1 (gtN N h v (dnN (N 0 2) (hmN N tx h v))) z wt tx ∧ ∀ q, q ≠ 67 → q ≠ 71 → q ≠ 72 → σ1 q = σ q := by
  have h10 := hK.n
  have hd := hK.d
  obtain ⟨σa, g1, g2⟩ := m_harm hM hK hh hv
  obtain ⟨hm1, hm2⟩ := hmI_n N tx h v
  rw [hm1] at g1
  have hMa : MV 67 σa N z wt tx := hM.fr (g2 _ (by decide) (by decide))
  have em : cl2 0 99999 (nI (N 0 2) + nI (hmN N tx h v)) = nI (dnN (N 0 2) (hmN N tx h v)) := by
    rw [nI_add]
    unfold cl2 dnN
    rw [if_pos (nI_pos' (by omega))]
    by_cases q : N 0 2 + hmN N tx h v < 99999
    · rw [if_pos q]; exact if_pos (nI_le (b := 99999) (by omega) (by decide))
    · rw [if_neg q]
      by_cases q2 : nI (N 0 2 + hmN N tx h v) ≤ 99999
      · rw [if_pos q2]
        rw [show (99999 : Int32) = nI 99999 from rfl, nI_leI (by omega) (by decide)] at q2
        rw [show N 0 2 + hmN N tx h v = 99999 by omega]
      · rw [if_neg q2]; rfl
  have hMb : MV 67 (st σa 67 1 (nI (dnN (N 0 2) (hmN N tx h v)))) (uN (uN N 0 1 (N 0 1)) 0 2 (dnN (N 0 2) (hmN N tx h v))) z wt tx := hMa.sc (fun k hk => st_k (by omega)) (by rw [st_k (by decide)]; exact hMa.y) st_s (by rw [st_k (by decide)]; exact hMa.z)
  refine ⟨st (st σa 67 1 (nI (dnN (N 0 2) (hmN N tx h v)))) 67 (8 + 4 * h + 2) (nI v), ?_, ?_, fun q h1 h2 h3 => by rw [st_c h1, st_c h1, g2 q h2 h3]⟩
  · refine ob_i g1 (ite_p (inb_l (by decide) (by decide)) ?_)
    rw [show σa 67 (Int32.toNatClampNeg 1) = nI (N 0 2) from hMa.d]
    refine ob_i (m_held _ _ _ _) (ite_p (inb_l (by decide) (by decide)) (ol_i ?_))
    rw [em]
    exact ob_i (m_lays1 (w := 2) (by omega) (by decide)) rfl
  · refine hMb.hs h10 (fun k hk => st_k (by omega)) (fun j hj => ?_)
    have hj2 : j < N 0 0 := hj
    refine ⟨?_, ?_, ?_⟩
    · rw [st_k (by omega)]; exact hMb.kd hj
    · rw [st_k (by omega)]; exact hMb.em hj
    · by_cases e : j = h
      · simp only [if_pos e]; rw [e, show 10 + 4 * h = 8 + 4 * h + 2 by omega, st_s]
      · simp only [if_neg e]; rw [st_k (by omega)]; exact hMb.pl hj
end GT
theorem P_renames {σ : St} (hI : Inv σ) (x0 : Int32) (x1 : Int32) : ∃ (r : Int32) (σ1 σ2 : St), f_X6_renames x0 x1 σ = some (r, σ1) ∧ f_X7_renames x0 x1 σ1 = some (r, σ2) ∧ Inv σ2 := by
  obtain ⟨⟨N, z, wt, tx, hC, hM, hK⟩, -⟩ := id hI
  have h10 := hK.n
  by_cases hv : isR 0 (N 0 0) x0
  · obtain ⟨h, -, hh, rfl⟩ := id hv
    by_cases hw : isR 1 1000 x1
    · obtain ⟨v, hv1, hv2, rfl⟩ := id hw
      obtain ⟨σ1, g1, g2, g3⟩ := c_gets hC hK hh (show v ≤ 999 by omega)
      have hM1 : MV 67 σ1 N z wt tx := hM.fr (g3 _ (by decide) (by decide) (by decide))
      obtain ⟨σ2, f1, f2, f3⟩ := m_gets hM1 hK hh (show v ≤ 999 by omega)
      refine ⟨_, σ1, σ2, ob_i (hasHouse_t hC.n h10 hv) (ite_n (by decide) (ob_i (isPlate_t hw) (ite_n (by decide) (ob_i g1 rfl)))), ob_i (m_isHouse_t hM1.n h10 hv) (ite_n (by decide) (ob_i (isNumber_t hw) (ite_n (by decide) (ob_i f1 rfl)))), ?_⟩
      refine hI.main (fun q k hq => ?_) ⟨_, z, wt, tx, g2.fr (fun q hq => f3 q (by omega) (by omega) (by omega)), f2, hK.gt (by omega)⟩
      rw [f3 q, g3 q] <;> (rintro rfl; revert hq; unfold mnP scr; simp)
    · refine P_err (FC := f_X6_renames (nI h) x1) (FM := f_X7_renames (nI h) x1) (k := 1) hI ?_ ?_
      · exact ob_i (hasHouse_t hC.n h10 hv) (ite_n (by decide) (ob_i (isPlate_f hw) (ite_p rfl (ob_i (p_failing (k := 1) (by decide)) rfl))))
      · exact ob_i (m_isHouse_t (by rw [eC_c (by decide)]; exact hM.n) h10 hv) (ite_n (by decide) (ob_i (isNumber_f hw) (ite_p rfl (ob_i (p_error (k := 1) (by decide)) rfl))))
  · exact P_err (FC := f_X6_renames x0 x1) (FM := f_X7_renames x0 x1) (k := 1) hI (ob_i (hasHouse_f hC.n h10 hv) (ite_p rfl (ob_i (p_failing (k := 1) (by decide)) rfl))) (ob_i (m_isHouse_f (by rw [eC_c (by decide)]; exact hM.n) h10 hv) (ite_p rfl (ob_i (p_error (k := 1) (by decide)) rfl)))
section WB
variable {N : Nat → Nat → Nat} {z : Int32} {wt : Nat → Int32} {tx : Nat → Nat → Int32}
/-- the harm that the gap g does to house h -/
def gpN (N : Nat → Nat → Nat) (tx : Nat → Nat → Int32) (g h : Nat) : Nat := hmN N tx h (g * (N 4 h + 1))
theorem c_gapL (hK : OKN N tx) {g : Nat} (hg : g ≤ 50) : ∀ (f i : Nat) (σ : St), CV 0 σ N z wt tx → i ≤ N 0 0 → N 0 0 < f + i → ∃ σ1, f_X3_harmOfGap_L4 f (nI g) (nI (sm (fun p => gpN N tx g (N 5 p)) i)) (nI i) σ = some (nI (sm (fun p => gpN N tx g (N 5 p)) (N 0 0)), σ1) ∧ ∀ q, q ≠ 8 → σ1 q = σ q := by
  have h10 := hK.n
  intro f
  induction f with
  | zero => intro i σ h1 h2 h3; omega
  | succ f ih =>
    intro i σ h1 h2 h3
    by_cases e : i = N 0 0
    · refine ⟨σ, ?_, fun q _ => rfl⟩
      show f_X3_harmOfGap_b4 (f_X3_harmOfGap_L4 f) _ _ _ σ = _
      unfold f_X3_harmOfGap_b4
      rw [e, h1.n]
      exact ite_p (nI_le (by omega) (by omega)) rfl
    · have h5 := (hK.h (j := i) (by omega)).2.2.2.2.2.1
      have h45 := (hK.h (j := i) (by omega)).2.2.2.2.2.2.2
      have hb : g * (i + 1) ≤ 500 := Nat.le_trans (Nat.mul_le_mul hg (show i + 1 ≤ 10 by omega)) (by decide)
      obtain ⟨σ1, g1, g2⟩ := c_harm h1 hK h5 (show g * (i + 1) ≤ 999 by omega)
      rw [(hmI_n N tx (N 5 i) (g * (i + 1))).1] at g1
      obtain ⟨σ2, f1, f2⟩ := ih (i + 1) σ1 (h1.fr (fun q hq => g2 _ (by omega))) (by omega) (by omega)
      refine ⟨σ2, ?_, fun q hq => by rw [f2 q hq, g2 q hq]⟩
      show f_X3_harmOfGap_b4 (f_X3_harmOfGap_L4 f) _ _ _ σ = _
      unfold f_X3_harmOfGap_b4
      rw [h1.n]
      refine ite_n (nI_ge (by omega) (by omega)) (ob_i (c_houseAt h1.n h10 (by omega)) ?_)
      rw [h1.rw (by omega), nI_1, pk_mul]
      refine ob_i g1 ?_
      rw [nI_add, show hmN N tx (N 5 i) (g * (i + 1)) = gpN N tx g (N 5 i) by unfold gpN; rw [h45]]
      exact f1
theorem m_gapL (hK : OKN N tx) {g : Nat} (hg : g ≤ 50) : ∀ (f i : Nat) (σ : St), MV 67 σ N z wt tx → i ≤ N 0 0 → N 0 0 < f + i → ∃ σ1, f_X7_wouldBe_L4 f (nI g) (nI (sm (gpN N tx g) i)) (nI i) σ = some (nI (sm (gpN N tx g) (N 0 0)), σ1) ∧ ∀ q, q ≠ 71 → q ≠ 72 → σ1 q = σ q := by
  have h10 := hK.n
  intro f
  induction f with
  | zero => intro i σ h1 h2 h3; omega
  | succ f ih =>
    intro i σ h1 h2 h3
    have c5 : σ 67 (Int32.toNatClampNeg 5) = nI (N 0 0) := h1.n
    by_cases e : i = N 0 0
    · refine ⟨σ, ?_, fun q _ _ => rfl⟩
      show f_X7_wouldBe_b4 (f_X7_wouldBe_L4 f) _ _ _ σ = _
      refine ite_p (inb_l (by decide) (by decide)) ?_
      rw [e, c5]
      exact ite_p (nI_le (by omega) (by omega)) rfl
    · have h4 := (hK.h (j := i) (by omega)).2.2.2.2.1
      have hb : g * (N 4 i + 1) ≤ 500 := Nat.le_trans (Nat.mul_le_mul hg (show N 4 i + 1 ≤ 10 by omega)) (by decide)
      obtain ⟨σ1, g1, g2⟩ := m_harm h1 hK (show i < N 0 0 by omega) (show g * (N 4 i + 1) ≤ 999 by omega)
      rw [(hmI_n N tx i (g * (N 4 i + 1))).1] at g1
      obtain ⟨σ2, f1, f2⟩ := ih (i + 1) σ1 (h1.fr (g2 _ (by decide) (by decide))) (by omega) (by omega)
      refine ⟨σ2, ?_, fun q hq hq2 => by rw [f2 q hq hq2, g2 q hq hq2]⟩
      show f_X7_wouldBe_b4 (f_X7_wouldBe_L4 f) _ _ _ σ = _
      refine ite_p (inb_l (by decide) (by decide)) ?_
      rw [c5]
      refine ite_n (nI_ge (by omega) (by omega)) (ob_i (m_its (w := 3) (by omega) (by decide)) ?_)
      rw [show 8 + 4 * i + 3 = 11 + 4 * i by omega, h1.pc (by omega), nI_1, pk_mul, nI_1]
      refine ob_i g1 ?_
      rw [nI_add]
      exact f1
/-- what the gap g would do, on both sides -/
theorem c_gap (hK : OKN N tx) {g : Nat} (hg : g ≤ 50) {σ : St} (h : CV 0 σ N z wt tx) : ∃ σ1, f_X3_harmOfGap (nI g) σ = some (nI (sm (gpN N tx g) (N 0 0)), σ1) ∧ ∀ q, q ≠ 8 → σ1 q = σ q := by
  have h10 := hK.n
  obtain ⟨σ1, g1, g2⟩ := c_gapL hK hg LF 0 σ h (Nat.zero_le _) (by unfold LF; omega)
  rw [sm_p hK (gpN N tx g)] at g1
  exact ⟨σ1, g1, g2⟩
theorem m_gap (hK : OKN N tx) {g : Nat} (hg : g ≤ 50) {σ : St} (h : MV 67 σ N z wt tx) : ∃ σ1, f_X7_wouldBe (nI g) σ = some (nI (sm (gpN N tx g) (N 0 0)), σ1) ∧ ∀ q, q ≠ 71 → q ≠ 72 → σ1 q = σ q := by
  have h10 := hK.n
  exact m_gapL hK hg LF 0 σ h (Nat.zero_le _) (by unfold LF; omega)
end WB
theorem P_would {σ : St} (hI : Inv σ) (x0 : Int32) : ∃ (r : Int32) (σ1 σ2 : St), f_X6_would x0 σ = some (r, σ1) ∧ f_X7_would x0 σ1 = some (r, σ2) ∧ Inv σ2 := by
  obtain ⟨⟨N, z, wt, tx, hC, hM, hK⟩, -⟩ := id hI
  by_cases hv : isR 1 51 x0
  · obtain ⟨g, hg1, hg2, rfl⟩ := id hv
    obtain ⟨σ1, g1, g2⟩ := c_gap hK (show g ≤ 50 by omega) hC
    have hM1 : MV 67 σ1 N z wt tx := hM.fr (g2 _ (by decide))
    obtain ⟨σ2, f1, f2⟩ := m_gap hK (show g ≤ 50 by omega) hM1
    exact ⟨_, σ1, σ2, ite_n (nI_nlt (b := 1) hg1 (by omega)) (ite_p (nI_le (b := 50) (by omega) (by decide)) (ob_i g1 rfl)), ob_i (isGap_t hv) (ite_n (by decide) (ob_i f1 rfl)), (hI.fr (scr8 g2)).fr (scr7172 f2)⟩
  · refine P_err (FC := f_X6_would x0) (FM := f_X7_would x0) (k := 1) hI ?_ (ob_i (isGap_f hv) (ite_p rfl (ob_i (p_error (k := 1) (by decide)) rfl)))
    unfold f_X6_would
    rw [isR_iff (by decide)] at hv
    by_cases h0 : x0 < 1
    · exact ite_p h0 (ob_i (p_failing (k := 1) (by decide)) rfl)
    · refine ite_n h0 (ite_n ?_ (ob_i (p_failing (k := 1) (by decide)) rfl))
      rw [f_lt, show (1 : Int32).toInt = 1 from rfl] at h0
      rw [f_le, show (50 : Int32).toInt = 50 from rfl]
      omega
