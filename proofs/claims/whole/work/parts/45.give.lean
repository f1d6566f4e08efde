/-! the reference's side of a text worked out; law -/
theorem mI {u j w : Nat} : ((48 + 125 * nI u) + nI w + 2 * nI j : Int32) = nI (48 + 125 * u + w + 2 * j) := by
  show (nI 48 + nI 125 * nI u) + nI w + nI 2 * nI j = _
  rw [pk_mul, nI_add, nI_add, pk_mul, nI_add]
theorem m_workL {N : Nat → Nat → Nat} {z : Int32} {wt : Nat → Int32} {tx : Nat → Nat → Int32} {e : Nat → Int32} {u : Nat} (hu : u < 2) (hn : N 7 u ≤ 60) (hw : wfT (tx u) (N 7 u)) : ∀ (f j : Nat) (σ : St), MV 67 σ N z wt tx → (∀ i, i < 3 → σ 71 (tNA (3 * u + i)).toNatClampNeg = e i) → (∀ i, i < sdep (tx u) j → σ 72 i = rk (tx u) e j i) → j ≤ N 7 u → N 7 u < f + j → ∃ σ1, f_X7_worked_L13 f (nI (48 + 125 * u)) (nI (sdep (tx u) j)) (nI j) σ = some (rk (tx u) e (N 7 u) 0, σ1) ∧ ∀ q, q ≠ 72 → σ1 q = σ q := by
  intro f
  induction f with
  | zero => intro j σ h1 h2 h3 h4 h5; omega
  | succ f ih =>
    intro j σ hM he h3 h4 h5
    have cn : σ 67 (nI (48 + 125 * u)).toNatClampNeg = nI (N 7 u) := by rw [nI_clamp (by omega)]; exact hM.tn hu
    have i0 : inb (nI (48 + 125 * u)) 382 := inb_i (by omega) (by decide)
    show ∃ σ1, f_X7_worked_b13 (f_X7_worked_L13 f) (nI (48 + 125 * u)) (nI (sdep (tx u) j)) (nI j) σ = some (rk (tx u) e (N 7 u) 0, σ1) ∧ _
    by_cases ej : j = N 7 u
    · refine ⟨σ, ?_, fun q _ => rfl⟩
      refine ite_p i0 (ite_p ?_ (ite_p (inb_l (by decide) (by decide)) ?_))
      · rw [cn]; exact nI_le (by omega) (by omega)
      · show some (σ 72 0, σ) = _
        rw [h3 0 (by rw [ej, hw.2]; decide), ej]
    · have hd := sdep_le (x := tx u) j
      have eW : (nI (48 + 125 * u) + 1 + 2 * nI j : Int32) = nI (49 + 125 * u + 2 * j) := by
        show nI (48 + 125 * u) + nI 1 + nI 2 * nI j = _
        rw [nI_add, pk_mul, nI_add, show 48 + 125 * u + 1 + 2 * j = 49 + 125 * u + 2 * j by omega]
      have eA : (nI (48 + 125 * u) + 2 + 2 * nI j : Int32) = nI (50 + 125 * u + 2 * j) := by
        show nI (48 + 125 * u) + nI 2 + nI 2 * nI j = _
        rw [nI_add, pk_mul, nI_add, show 48 + 125 * u + 2 + 2 * j = 50 + 125 * u + 2 * j by omega]
      have cW : σ 67 (nI (49 + 125 * u + 2 * j)).toNatClampNeg = mW (tx u j) := by rw [nI_clamp (by omega)]; exact hM.tw hu (by omega)
      have cA : σ 67 (nI (50 + 125 * u + 2 * j)).toNatClampNeg = mA u (tx u j) := by rw [nI_clamp (by omega)]; exact hM.ta hu (by omega)
      have c1 : ¬ σ 67 (nI (48 + 125 * u)).toNatClampNeg ≤ nI j := by rw [cn]; exact nI_ge (by omega) (by omega)
      have iW : inb (nI (49 + 125 * u + 2 * j)) 382 := inb_i (by omega) (by decide)
      have iA : inb (nI (50 + 125 * u + 2 * j)) 382 := inb_i (by omega) (by decide)
      unfold f_X7_worked_b13
      rw [eW, eA]
      rcases hw.1 j (by omega) with ⟨v, hv, hvx⟩ | ⟨h33, hd1⟩ | ⟨hsg, hd2⟩
      · have p0 : 0 ≤ tx u j := by rw [hvx]; exact nI_pos' (by omega)
        obtain ⟨r1, r2⟩ := rk_p (e := e) p0
        have nx : ∀ w, w = (if 10000 ≤ tx u j then e (tx u j - 10000).toNatClampNeg else tx u j) → ∃ σ1, f_X7_worked_L13 f (nI (48 + 125 * u)) (nI (sdep (tx u) j + 1)) (nI (j + 1)) (st σ 72 (sdep (tx u) j) w) = some (rk (tx u) e (N 7 u) 0, σ1) ∧ ∀ q, q ≠ 72 → σ1 q = σ q := by
          rintro w rfl
          obtain ⟨σ1, g1, g2⟩ := ih (j + 1) (st σ 72 (sdep (tx u) j) (if 10000 ≤ tx u j then e (tx u j - 10000).toNatClampNeg else tx u j)) (hM.fr (st_c (by decide))) (fun i hi => by rw [st_c (by decide)]; exact he i hi) (fun i hi => by
            rw [r1]
            rw [r2] at hi
            by_cases ei : i = sdep (tx u) j
            · rw [ei, st_s, pk_us]
            · rw [st_k ei, pk_un ei]; exact h3 i (by omega)) (by omega) (by omega)
          rw [r2] at g1
          exact ⟨σ1, g1, fun q hq => by rw [g2 q hq, st_c hq]⟩
        by_cases pn : 10000 ≤ v
        · have pn' : 10000 ≤ tx u j := by rw [hvx]; exact nI_le (a := 10000) pn (by omega)
          have ev : (tx u j - 10000 : Int32) = nI (v - 10000) := by rw [hvx]; exact pk_sub pn
          have hW : mW (tx u j) = 1 := if_pos pn'
          have hA : mA u (tx u j) = tNA (3 * u + (v - 10000)) := by
            unfold mA
            rw [if_pos pn', ev, nI_clamp (by omega)]
          have hin : inb (tNA (3 * u + (v - 10000))) 128 := by
            rcases (show (u = 0 ∨ u = 1) by omega) with rfl | rfl <;> rcases (show v - 10000 = 0 ∨ v - 10000 = 1 ∨ v - 10000 = 2 by omega) with h | h | h <;> rw [h] <;> decide
          obtain ⟨σ1, g1, g2⟩ := nx (e (v - 10000)) (by rw [if_pos pn', ev, nI_clamp (by omega)])
          refine ⟨σ1, ite_p i0 (ite_n c1 (ite_p iW (ite_p iA (ite_n (by rw [cW, hW]; decide) (ite_p (by rw [cW, hW]) (ite_n (by rw [cW, hW]; decide) (ite_p (by rw [cA, hA]; exact hin) (ite_p (inb_i (by omega) (by decide)) (ol_i ?_))))))))), g2⟩
          rw [cA, hA, he _ (by omega), nI_clamp (by omega), nI_1, nI_1]
          exact g1
        · have pn' : ¬ 10000 ≤ tx u j := by rw [hvx]; exact nI_ge (b := 10000) (by omega) (by omega)
          have hW : mW (tx u j) = 0 := by unfold mW; rw [if_neg pn', if_pos p0]
          have hA : mA u (tx u j) = tx u j := by unfold mA; rw [if_neg pn', if_pos p0]
          obtain ⟨σ1, g1, g2⟩ := nx (tx u j) (by rw [if_neg pn'])
          refine ⟨σ1, ite_p i0 (ite_n c1 (ite_p iW (ite_p iA (ite_p (by rw [cW, hW]) (ite_p (by rw [cW, hW]) (ite_p (inb_i (by omega) (by decide)) (ol_i ?_))))))), g2⟩
          rw [cA, hA, nI_clamp (by omega), nI_1, nI_1]
          exact g1
      · obtain ⟨r1, r2⟩ := rk_n (e := e) h33
        have hW : mW (tx u j) = 2 := by rw [h33]; rfl
        have ed : (nI (sdep (tx u) j) - 1 : Int32) = nI (sdep (tx u) j - 1) := pk_sub (b := 1) hd1
        have nx : ∀ w, w = (if rk (tx u) e j (sdep (tx u) j - 1) = 0 then 1 else 0) → ∃ σ1, f_X7_worked_L13 f (nI (48 + 125 * u)) (nI (sdep (tx u) j)) (nI (j + 1)) (st σ 72 (sdep (tx u) j - 1) w) = some (rk (tx u) e (N 7 u) 0, σ1) ∧ ∀ q, q ≠ 72 → σ1 q = σ q := by
          rintro w rfl
          obtain ⟨σ1, g1, g2⟩ := ih (j + 1) (st σ 72 (sdep (tx u) j - 1) (if rk (tx u) e j (sdep (tx u) j - 1) = 0 then 1 else 0)) (hM.fr (st_c (by decide))) (fun i hi => by rw [st_c (by decide)]; exact he i hi) (fun i hi => by
            rw [r1]
            rw [r2] at hi
            by_cases ei : i = sdep (tx u) j - 1
            · rw [ei, st_s, pk_us]
            · rw [st_k ei, pk_un ei]; exact h3 i (by omega)) (by omega) (by omega)
          rw [r2] at g1
          exact ⟨σ1, g1, fun q hq => by rw [g2 q hq, st_c hq]⟩
        rw [ed]
        have h8 : σ 72 (nI (sdep (tx u) j - 1)).toNatClampNeg = rk (tx u) e j (sdep (tx u) j - 1) := by rw [nI_clamp (by omega)]; exact h3 (sdep (tx u) j - 1) (by omega)
        have ii : inb (nI (sdep (tx u) j - 1)) 64 := inb_i (by omega) (by decide)
        by_cases z0 : rk (tx u) e j (sdep (tx u) j - 1) = 0
        · obtain ⟨σ1, g1, g2⟩ := nx 1 (if_pos z0).symm
          refine ⟨σ1, ite_p i0 (ite_n c1 (ite_p iW (ite_p iA (ite_n (by rw [cW, hW]; decide) (ite_n (by rw [cW, hW]; decide) (ite_p (by rw [cW, hW]) (ite_p ii (ite_p (by rw [h8]; exact z0) (ite_p ii (ol_i ?_)))))))))), g2⟩
          rw [nI_clamp (by omega), nI_1]
          exact g1
        · obtain ⟨σ1, g1, g2⟩ := nx 0 (if_neg z0).symm
          refine ⟨σ1, ite_p i0 (ite_n c1 (ite_p iW (ite_p iA (ite_n (by rw [cW, hW]; decide) (ite_n (by rw [cW, hW]; decide) (ite_p (by rw [cW, hW]) (ite_p ii (ite_n (by rw [h8]; exact z0) (ite_p ii (ol_i ?_)))))))))), g2⟩
          rw [nI_clamp (by omega), nI_1]
          exact g1
      · obtain ⟨r1, r2⟩ := rk_s (e := e) hsg
        obtain ⟨s0, s1, s2, s3, s4⟩ := sg_neg hsg
        have hW : mW (tx u j) = 3 := by unfold mW; rw [if_neg s3, if_neg s0, if_neg s2]
        have hA : mA u (tx u j) = -(tx u j) := by unfold mA; rw [if_neg s3, if_neg s0, if_neg s2]
        have ed2 : (nI (sdep (tx u) j) + (-1) : Int32) = nI (sdep (tx u) j - 1) := by
          obtain ⟨d, hdd⟩ : ∃ d, sdep (tx u) j = d + 1 := ⟨sdep (tx u) j - 1, by omega⟩
          rw [hdd]
          exact pk_m1 d
        have ed : (nI (sdep (tx u) j - 1) - 1 : Int32) = nI (sdep (tx u) j - 2) := (pk_sub (b := 1) (by omega)).trans (by rw [Nat.sub_sub])
        obtain ⟨σ1, g1, g2⟩ := ih (j + 1) (st σ 72 (sdep (tx u) j - 2) (jn (-(tx u j)) (rk (tx u) e j (sdep (tx u) j - 2)) (rk (tx u) e j (sdep (tx u) j - 1)))) (hM.fr (st_c (by decide))) (fun i hi => by rw [st_c (by decide)]; exact he i hi) (fun i hi => by
          rw [r1]
          rw [r2] at hi
          by_cases ei : i = sdep (tx u) j - 2
          · rw [ei, st_s, pk_us]
          · rw [st_k ei, pk_un ei]; exact h3 i (by omega)) (by omega) (by omega)
        rw [r2] at g1
        refine ⟨σ1, ?_, fun q hq => by rw [g2 q hq, st_c hq]⟩
        rw [ed2, ed]
        have i1 : inb (nI (sdep (tx u) j - 1)) 64 := inb_i (by omega) (by decide)
        have i2 : inb (nI (sdep (tx u) j - 2)) 64 := inb_i (by omega) (by decide)
        refine ite_p i0 (ite_n c1 (ite_p iW (ite_p iA (ite_n (by rw [cW, hW]; decide) (ite_n (by rw [cW, hW]; decide) (ite_n (by rw [cW, hW]; decide) (ite_p i2 (ite_p i1 (ob_i (m_joined (by rw [cA, hA]; exact s4)) (ite_p i2 (ol_i ?_)))))))))))
        rw [cA, hA, nI_clamp (show sdep (tx u) j - 2 < 2 ^ 31 by omega), nI_clamp (show sdep (tx u) j - 1 < 2 ^ 31 by omega), h3 (sdep (tx u) j - 2) (by omega), h3 (sdep (tx u) j - 1) (by omega), nI_1]
        exact g1
/-- held between lo and hi -/
def cl2 (lo hi y : Int32) : Int32 := if lo ≤ y then (if y ≤ hi then y else hi) else lo
theorem m_held (y lo hi : Int32) (σ : St) : f_X7_held y lo hi σ = some (cl2 lo hi y, σ) := by
  unfold f_X7_held cl2
  by_cases h : lo ≤ y
  · rw [if_pos h, if_pos h]
    by_cases h2 : y ≤ hi
    · rw [if_pos h2, if_pos h2]
    · rw [if_neg h2, if_neg h2]
  · rw [if_neg h, if_neg h]
theorem c_held {y lo hi : Int32} (h : lo < hi) (σ : St) : f_X6_held y lo hi σ = some (cl2 lo hi y, σ) := by
  unfold f_X6_held cl2 imax imin
  rw [f_lt] at h
  by_cases h1 : y < hi
  · rw [if_pos h1]
    rw [f_lt] at h1
    rw [if_pos (show y ≤ hi by rw [f_le]; omega)]
    by_cases h2 : lo < y
    · rw [if_pos h2]
      rw [f_lt] at h2
      rw [if_pos (show lo ≤ y by rw [f_le]; omega)]
    · rw [if_neg h2]
      rw [f_lt] at h2
      by_cases h3 : lo ≤ y
      · rw [if_pos h3]
        rw [f_le] at h3
        rw [show lo = y by rw [f_eq]; omega]
      · rw [if_neg h3]
  · rw [if_neg h1, if_pos (show lo < hi by rw [f_lt]; omega)]
    rw [f_lt] at h1
    rw [if_pos (show lo ≤ y by rw [f_le]; omega)]
    by_cases h2 : y ≤ hi
    · rw [if_pos h2]
      rw [f_le] at h2
      rw [show y = hi by rw [f_eq]; omega]
    · rw [if_neg h2]
/-- what a law gives of three numbers -/
def gvI (u n : Nat) (x e : Nat → Int32) : Int32 := if u = 0 then cl2 0 999 (if n = 0 then e 0 else rk x e n 0) else cl2 1 99 (if n = 0 then e 0 else rk x e n 0)
theorem c_give {N : Nat → Nat → Nat} {z : Int32} {wt : Nat → Int32} {tx : Nat → Nat → Int32} {σ : St} (hC : CV 0 σ N z wt tx) (hK : OKN N tx) {u : Nat} (hu : u < 2) (e : Nat → Int32) : ∃ σ1, f_X0_give (nI u) (e 0) (e 1) (e 2) σ = some (gvI u (N 7 u) (tx u) e, σ1) ∧ ∀ q, q ≠ 8 → σ1 q = σ q := by
  have h60 := hK.tn hu
  have fin : ∀ y s, f_X0_give_b42 (nI u) y s = some (if u = 0 then cl2 0 999 y else cl2 1 99 y, s) := by
    intro y s
    rcases (show u = 0 ∨ u = 1 by omega) with rfl | rfl
    · exact ite_p rfl (ob_i (c_held (by decide) s) rfl)
    · exact ite_n (by decide) (ob_i (c_held (by decide) s) rfl)
  have cn : σ 7 (nI u).toNatClampNeg = nI (N 7 u) := by rw [nI_clamp (by omega)]; exact hC.tn hu
  have iu : inb (nI u) 2 := inb_i hu (by decide)
  unfold gvI
  by_cases h0 : N 7 u = 0
  · rw [if_pos h0]
    exact ⟨σ, ob_i (isUse_t (isR_n hu)) (ite_n (by decide) (ite_p iu (ite_p (by rw [cn, h0]; rfl) (fin _ _)))), fun q _ => rfl⟩
  · rw [if_neg h0]
    obtain ⟨σ1, g1, g2⟩ := c_workL (e := e) hu h60 (hK.wf hu h0) LF 0 σ (fun i hi => hC.tx hu hi) (fun i hi => absurd hi (Nat.not_lt_zero _)) (Nat.zero_le _) (by unfold LF; omega)
    refine ⟨σ1, ob_i (isUse_t (isR_n hu)) (ite_n (by decide) (ite_p iu (ite_n (by rw [cn]; exact nI_ne0 (by omega) (by omega)) (ite_p iu (ite_p iu ?_))))), g2⟩
    rw [cn, nI_clamp (by omega)]
    exact ob_i (show f_X0_workOut _ _ _ _ _ σ = _ from g1) (fin _ _)
theorem m_work {N : Nat → Nat → Nat} {z : Int32} {wt : Nat → Int32} {tx : Nat → Nat → Int32} {σ : St} (hM : MV 67 σ N z wt tx) (hK : OKN N tx) {u : Nat} (hu : u < 2) (h0 : N 7 u ≠ 0) (e : Nat → Int32) (he : ∀ i, i < 3 → σ 71 (tNA (3 * u + i)).toNatClampNeg = e i) : ∃ σ1, f_X7_worked (nI u) σ = some (rk (tx u) e (N 7 u) 0, σ1) ∧ ∀ q, q ≠ 72 → σ1 q = σ q := by
  have h60 := hK.tn hu
  obtain ⟨σ1, g1, g2⟩ := m_workL (e := e) hu h60 (hK.wf hu h0) LF 0 σ hM he (fun i hi => absurd hi (Nat.not_lt_zero _)) (Nat.zero_le _) (by unfold LF; omega)
  refine ⟨σ1, ?_, g2⟩
  unfold f_X7_worked
  rw [show (48 + 125 * nI u : Int32) = nI (48 + 125 * u) by
    show nI 48 + nI 125 * nI u = _
    rw [pk_mul, nI_add]]
  exact g1
