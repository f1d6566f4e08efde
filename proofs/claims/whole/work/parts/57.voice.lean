/-! voice -/
/-- bodies L begin, t having begun: rows T of the trace, cell c of row R their count -/
def wrL (T R c : Nat) : St → Nat → List Int32 → St
  | σ, _, [] => σ
  | σ, t, b :: L => wrL T R c (st (st σ T t b) R c (nI (t + 1))) (t + 1) L
theorem wrL_o {T R c q : Nat} (h1 : q ≠ T) (h2 : q ≠ R) : ∀ (L : List Int32) (t : Nat) (σ : St), wrL T R c σ t L q = σ q := by
  intro L
  induction L with
  | nil => intro t σ; rfl
  | cons b L ih => intro t σ; exact (ih (t + 1) _).trans (by rw [st_c h2, st_c h1])
theorem wrL_k {T R c k : Nat} (h1 : R ≠ T) (h2 : k ≠ c) : ∀ (L : List Int32) (t : Nat) (σ : St), wrL T R c σ t L R k = σ R k := by
  intro L
  induction L with
  | nil => intro t σ; rfl
  | cons b L ih => intro t σ; exact (ih (t + 1) _).trans (by rw [st_k h2, st_c h1])
theorem wrL_n {T R c : Nat} : ∀ (L : List Int32) (t : Nat) (σ : St), σ R c = nI t → wrL T R c σ t L R c = nI (t + L.length) := by
  intro L
  induction L with
  | nil => intro t σ h; exact h
  | cons b L ih =>
    intro t σ h
    refine (ih (t + 1) _ st_s).trans ?_
    rw [List.length_cons, show t + 1 + L.length = t + (L.length + 1) by omega]
theorem wrL_t {T R c T' R' c' : Nat} (h1 : R ≠ T) (h2 : R' ≠ T') : ∀ (L : List Int32) (t : Nat) (σ τ : St), (∀ i, i < t → σ T i = τ T' i) → ∀ i, i < t + L.length → wrL T R c σ t L T i = wrL T' R' c' τ t L T' i := by
  intro L
  induction L with
  | nil => intro t σ τ h i hi; exact h i hi
  | cons b L ih =>
    intro t σ τ h i hi
    refine ih (t + 1) _ _ (fun j hj => ?_) i (by rw [List.length_cons] at hi; omega)
    rw [st_c (Ne.symm h1), st_c (Ne.symm h2)]
    by_cases e : j = t
    · subst e; rw [st_s, st_s]
    · rw [st_k e, st_k e]; exact h j (by omega)
theorem ob_id {x : Rs} {r : Int32} {σ : St} (h : x = some (r, σ)) : (ob x fun r σ => some (r, σ)) = some (r, σ) := by rw [h]; rfl
/-! the class -/
theorem c_ownB {s v : Nat} (hs : s < 7) (hv : v < 4) (σ : St) : f_X5_ownBody (nI s) (nI v) σ = some (tBO (4 * s + v), σ) := by
  have e : (nI s * 4 + nI v : Int32) = nI (4 * s + v) := by
    rw [show (nI s * 4 : Int32) = nI (s * 4) from pk_mul s 4, nI_add, show s * 4 + v = 4 * s + v by omega]
  refine ite_n (nI_nn (by omega)) (ite_n (nI_nn (by omega)) (ite_n (nI_ge (b := 4) hv (by decide)) ?_))
  rw [e]
  refine ite_n (nI_ge (b := 28) (by omega) (by decide)) (ite_p (inb_i (by omega) (by decide)) ?_)
  rw [nI_clamp (by omega)]
theorem c_kA {s : Nat} (hs : s < 7) (σ : St) : f_X6_kindAbove (nI s) σ = some (tKA s, σ) := by
  refine ite_n (nI_nn (by omega)) (ite_n (nI_ge (b := 7) hs (by decide)) (ite_p (inb_i hs (by decide)) ?_))
  rw [nI_clamp (by omega)]
/-- who has a body of its own for voice v, from kind s up -/
def spK (s v : Nat) : Nat := if tBO (4 * s + v) = 0 then (if s = 4 then (if tBO (4 * 1 + v) = 0 then 0 else 1) else if s = 5 then (if tBO (4 * 2 + v) = 0 then 0 else 2) else 0) else s
section VC
variable {rec : Nat → Int32 → Int32 → Int32 → Int32 → St → Rs} {σ : St} {x d : Int32}
theorem c_hop0 {v F i : Nat} (hi : i < 7) : f_X5_speak_L22 rec (F + 1) (nI v) x d (nI 0) (nI i) σ = f_X5_speak_b56 rec (nI v) x d (nI 0) σ :=
  ite_n (nI_ge (b := 7) hi (by decide)) (ite_p (by decide) rfl)
theorem c_hop1 {s v F i : Nat} (hi : i < 7) (h0 : 0 < s) (hs : s < 7) (hv : v < 4) (h : ¬ tBO (4 * s + v) = 0) : f_X5_speak_L22 rec (F + 1) (nI v) x d (nI s) (nI i) σ = f_X5_speak_b56 rec (nI v) x d (nI s) σ :=
  ite_n (nI_ge (b := 7) hi (by decide)) (ite_n (nI_nle h0 (by omega)) (ob_i (c_ownB hs hv σ) (ite_n h rfl)))
theorem c_hop2 {s u v F i : Nat} (hi : i < 7) (h0 : 0 < s) (hs : s < 7) (hv : v < 4) (h : tBO (4 * s + v) = 0) (hu : tKA s = nI u) : f_X5_speak_L22 rec (F + 1) (nI v) x d (nI s) (nI i) σ = f_X5_speak_L22 rec F (nI v) x d (nI u) (nI (i + 1)) σ := by
  refine ite_n (nI_ge (b := 7) hi (by decide)) (ite_n (nI_nle h0 (by omega)) (ob_i (c_ownB hs hv σ) (ite_p h (ob_i (c_kA hs σ) ?_))))
  rw [hu, nI_1]
theorem c_spk {s v F : Nat} (hs : s < 7) (hv : v < 4) : f_X5_speak_L22 rec (F + 3) (nI v) x d (nI s) (nI 0) σ = f_X5_speak_b56 rec (nI v) x d (nI (spK s v)) σ := by
  by_cases h0 : s = 0
  · subst h0
    rw [c_hop0 (F := F + 2) (by decide)]
    rcases (show v = 0 ∨ v = 1 ∨ v = 2 ∨ v = 3 by omega) with e | e | e | e <;> subst e <;> rfl
  · by_cases h : tBO (4 * s + v) = 0
    · unfold spK
      rw [if_pos h]
      by_cases h4 : s = 4
      · subst h4
        rw [if_pos rfl, c_hop2 (F := F + 2) (u := 1) (by decide) (by omega) hs hv h rfl]
        by_cases h1 : tBO (4 * 1 + v) = 0
        · rw [if_pos h1, c_hop2 (F := F + 1) (u := 0) (by decide) (by omega) (by decide) hv h1 rfl, c_hop0 (by decide)]
        · rw [if_neg h1, c_hop1 (F := F + 1) (by decide) (by decide) (by decide) hv h1]
      · rw [if_neg h4]
        by_cases h5 : s = 5
        · subst h5
          rw [if_pos rfl, c_hop2 (F := F + 2) (u := 2) (by decide) (by omega) hs hv h rfl]
          by_cases h1 : tBO (4 * 2 + v) = 0
          · rw [if_pos h1, c_hop2 (F := F + 1) (u := 0) (by decide) (by omega) (by decide) hv h1 rfl, c_hop0 (by decide)]
          · rw [if_neg h1, c_hop1 (F := F + 1) (by decide) (by decide) (by decide) hv h1]
        · rw [if_neg h5, c_hop2 (F := F + 2) (u := 0) (by decide) (by omega) hs hv h (by rcases (show s = 1 ∨ s = 2 ∨ s = 3 ∨ s = 6 by omega) with e | e | e | e <;> subst e <;> rfl), c_hop0 (F := F + 1) (by decide)]
    · rw [c_hop1 (F := F + 2) (by decide) (by omega) hs hv h]
      unfold spK
      rw [if_neg h]
end VC
/-- what the class holds while a voice speaks -/
def VC (σ : St) (kd : Nat) (k m : Int32) (t : Nat) : Prop := σ 55 0 = 0 ∧ σ 55 1 = nI t ∧ σ 55 3 = nI kd ∧ σ 55 4 = k ∧ σ 55 5 = m
theorem VC.b {σ : St} {kd t : Nat} {k m b : Int32} (h : VC σ kd k m t) : VC (st (st σ 56 t b) 55 1 (nI (t + 1))) kd k m (t + 1) := by
  obtain ⟨h0, h1, h3, h4, h5⟩ := h
  refine ⟨?_, st_s, ?_, ?_, ?_⟩ <;> rw [st_k (by decide), st_c (by decide)] <;> assumption
theorem VC.w {kd : Nat} {k m : Int32} : ∀ (L : List Int32) (σ : St) (t : Nat), VC σ kd k m t → VC (wrL 56 55 1 σ t L) kd k m (t + L.length) := by
  intro L
  induction L with
  | nil => intro σ t h; exact h
  | cons b L ih =>
    intro σ t h
    have := ih _ _ (h.b (b := b))
    rw [show t + 1 + L.length = t + (b :: L).length by rw [List.length_cons]; omega] at this
    exact this
theorem c_speak {F s v d t kd : Nat} {k m x b r : Int32} {σ σ1 : St} (h : VC σ kd k m t) (ht : t < 30) (hd : d ≤ 40) (hs : s < 7) (hv : v < 4) (hb : tBO (4 * spK s v + v) = b) (hw : f_X5_work (g_X5_above F) b x (nI (d + 1)) (st (st σ 56 t b) 55 1 (nI (t + 1))) = some (r, σ1)) : g_X5_above (F + 2) 2 (nI s) (nI v) x (nI d) σ = some (r, σ1) := by
  obtain ⟨h0, h1, -⟩ := h
  have hsp : spK s v < 7 := by
    unfold spK
    split
    · split
      · split <;> omega
      · split
        · split <;> omega
        · omega
    · exact hs
  show f_X5_speak (g_X5_above (F + 1)) (nI s) (nI v) x (nI d) σ = _
  refine ite_p h0 (ite_p (nI_le (b := 40) hd (by decide)) ?_)
  show f_X5_speak_L22 (g_X5_above (F + 1)) LF (nI v) x (nI d) (nI s) (nI 0) σ = _
  rw [show LF = (LF - 3) + 3 from rfl, c_spk hs hv]
  refine ob_i (c_ownB hsp hv σ) ?_
  rw [hb]
  refine ob_i (r := 0) (σ := st (st σ 56 t b) 55 1 (nI (t + 1))) ?_ ?_
  · unfold f_X5_begin
    rw [h1]
    refine ite_n (nI_nn (by omega)) (ite_n (nI_ge (b := 30) ht (by decide)) (ite_p (inb_i ht (by decide)) (ol_i ?_)))
    rw [nI_clamp (by omega), st_c (by decide), h1, nI_1]
    rfl
  · rw [nI_1]
    exact ob_id hw
/-- a body b is begun; the rest by its work -/
theorem c_bd {F s v d t kd : Nat} {k m x b r : Int32} {L : List Int32} {σ : St} (h : VC σ kd k m t) (ht : t < 30) (hd : d ≤ 40) (hs : s < 7) (hv : v < 4) (hb : tBO (4 * spK s v + v) = b) (hw : f_X5_work (g_X5_above F) b x (nI (d + 1)) (st (st σ 56 t b) 55 1 (nI (t + 1))) = some (r, wrL 56 55 1 (st (st σ 56 t b) 55 1 (nI (t + 1))) (t + 1) L)) : g_X5_above (F + 2) 2 (nI s) (nI v) x (nI d) σ = some (r, wrL 56 55 1 σ t (b :: L)) := c_speak h ht hd hs hv hb hw
theorem c_abv {F s u : Nat} {v x d r : Int32} {σ σ1 : St} (hs : s < 7) (hu : tKA s = nI u) (h : g_X5_above F 2 (nI u) v x d σ = some (r, σ1)) : g_X5_above (F + 1) 0 (nI s) v x d σ = some (r, σ1) := by
  show f_X5_above (g_X5_above F) (nI s) v x d σ = _
  refine ob_i (c_kA hs σ) ?_
  rw [hu]
  exact ob_id h
theorem c_owns {F kd t : Nat} {k m v x d r : Int32} {σ σ1 : St} (hv : VC σ kd k m t) (h : g_X5_above F 2 (nI kd) v x d σ = some (r, σ1)) : g_X5_above (F + 1) 1 v x d 0 σ = some (r, σ1) := by
  show f_X5_own (g_X5_above F) v x d σ = _
  unfold f_X5_own
  rw [hv.2.2.1]
  exact ob_id h
/-! the answers -/
def rgN (k : Int32) (s : Nat) (x : Int32) : Int32 × List Int32 := if s = 1 then (x + k - 4, [20, 10]) else if s = 4 then ((x + k - 4) * 3, [50, 20, 10]) else if s = 6 then (9, [70]) else (x + k, [10])
def anB (k : Int32) (kd : Nat) (x : Int32) : Int32 × List Int32 := ((rgN k kd x).1 * 2, 11 :: (rgN k kd x).2)
def anN (k m : Int32) (kd s : Nat) (x : Int32) : Int32 × List Int32 := if s = 2 then (0 - (anB k kd x).1, 30 :: (anB k kd x).2) else if s = 5 then (0 - (anB k kd (x + 1)).1, 60 :: 30 :: (anB k kd (x + 1)).2) else if s = 6 then ((anB k kd x).1 + m, 71 :: (anB k kd x).2) else anB k kd x
def waB (k m : Int32) (kd : Nat) (x : Int32) : Int32 × List Int32 := ((anN k m kd kd x).1 - m, 12 :: (anN k m kd kd x).2)
def waN (k m : Int32) (kd s : Nat) (x : Int32) : Int32 × List Int32 := if s = 3 then ((waB k m kd (x / 2)).1, 40 :: (waB k m kd (x / 2)).2) else if s = 4 then ((waB k m kd x).1 ^^^ k, 51 :: (waB k m kd x).2) else waB k m kd x
theorem rg_l (k : Int32) (s : Nat) (x : Int32) : (rgN k s x).2.length ≤ 3 := by
  unfold rgN
  split
  · show 2 ≤ 3; decide
  · split
    · show 3 ≤ 3; decide
    · split
      · show 1 ≤ 3; decide
      · show 1 ≤ 3; decide
theorem anB_l (k : Int32) (s : Nat) (x : Int32) : (anB k s x).2.length ≤ 4 := by
  have := rg_l k s x
  unfold anB
  simp only [List.length_cons]
  omega
theorem an_l (k m : Int32) (kd s : Nat) (x : Int32) : (anN k m kd s x).2.length ≤ 6 := by
  have h1 := anB_l k kd x
  have h2 := anB_l k kd (x + 1)
  unfold anN
  split
  · simp only [List.length_cons]; omega
  · split
    · simp only [List.length_cons]; omega
    · split
      · simp only [List.length_cons]; omega
      · omega
theorem waB_l (k m : Int32) (s : Nat) (x : Int32) : (waB k m s x).2.length ≤ 7 := by
  have := an_l k m s s x
  unfold waB
  simp only [List.length_cons]
  omega
theorem wa_l (k m : Int32) (kd s : Nat) (x : Int32) : (waN k m kd s x).2.length ≤ 8 := by
  have h1 := waB_l k m kd x
  have h2 := waB_l k m kd (x / 2)
  unfold waN
  split
  · simp only [List.length_cons]; omega
  · split
    · simp only [List.length_cons]; omega
    · omega
section VV
variable {kd : Nat} {k m : Int32}
theorem c_rg0 {F s d t : Nat} {x : Int32} {σ : St} (h : VC σ kd k m t) (ht : t < 30) (hd : d ≤ 40) (hs : s = 0 ∨ s = 2 ∨ s = 3 ∨ s = 5) : g_X5_above (F + 2) 2 (nI s) 0 x (nI d) σ = some (x + k, wrL 56 55 1 σ t [10]) := by
  refine c_bd (v := 0) h ht hd (by omega) (by decide) (by rcases hs with e | e | e | e <;> subst e <;> rfl) ?_
  refine ite_p rfl ?_
  rw [(h.b (b := 10)).2.2.2.1]
  rfl
theorem c_rg1 {F d t : Nat} {x : Int32} {σ : St} (h : VC σ kd k m t) (ht : t < 29) (hd : d ≤ 39) : g_X5_above (F + 5) 2 (nI 1) 0 x (nI d) σ = some (x + k - 4, wrL 56 55 1 σ t [20, 10]) := by
  refine c_bd (F := F + 3) (v := 0) (b := 20) h (by omega) (by omega) (by decide) (by decide) rfl ?_
  refine ite_n (by decide) (ite_n (by decide) (ite_n (by decide) (ite_n (by decide) (ite_p rfl ?_))))
  exact ob_i (c_abv (F := F + 2) (s := 1) (u := 0) (by decide) rfl (c_rg0 (s := 0) (h.b (b := 20)) (by omega) (by omega) (Or.inl rfl))) rfl
theorem c_rg {F s d t : Nat} {x : Int32} {σ : St} (h : VC σ kd k m t) (ht : t + 3 ≤ 30) (hd : d + 3 ≤ 40) (hs : s < 7) : g_X5_above (F + 8) 2 (nI s) 0 x (nI d) σ = some ((rgN k s x).1, wrL 56 55 1 σ t (rgN k s x).2) := by
  rcases (show (s = 0 ∨ s = 2 ∨ s = 3 ∨ s = 5) ∨ s = 1 ∨ s = 4 ∨ s = 6 by omega) with e | e | e | e
  · have := c_rg0 (F := F + 6) (x := x) h (by omega) (show d ≤ 40 by omega) e
    rw [show rgN k s x = (x + k, [10]) by rcases e with e | e | e | e <;> subst e <;> rfl]
    exact this
  · subst e
    exact c_rg1 (F := F + 3) h (by omega) (by omega)
  · subst e
    refine c_bd (F := F + 6) (v := 0) (b := 50) h (by omega) (by omega) (by decide) (by decide) rfl ?_
    refine ite_n (by decide) (ite_n (by decide) (ite_n (by decide) (ite_n (by decide) (ite_n (by decide) (ite_n (by decide) (ite_n (by decide) (ite_n (by decide) (ite_p rfl ?_))))))))
    exact ob_i (c_abv (F := F + 5) (s := 4) (u := 1) (by decide) rfl (c_rg1 (h.b (b := 50)) (by omega) (by omega))) rfl
  · subst e
    exact c_bd (F := F + 6) (v := 0) (b := 70) (L := []) h (by omega) (by omega) (by decide) (by decide) rfl rfl
theorem c_an0 {F s d t : Nat} {x : Int32} {σ : St} (h : VC σ kd k m t) (ht : t + 4 ≤ 30) (hd : d + 4 ≤ 40) (hk : kd < 7) (hs : s = 0 ∨ s = 1 ∨ s = 3 ∨ s = 4) : g_X5_above (F + 11) 2 (nI s) 1 x (nI d) σ = some ((anB k kd x).1, wrL 56 55 1 σ t (anB k kd x).2) := by
  refine c_bd (F := F + 9) (v := 1) (b := 11) h (by omega) (by omega) (by omega) (by decide) (by rcases hs with e | e | e | e <;> subst e <;> rfl) ?_
  refine ite_n (by decide) (ite_p rfl ?_)
  exact ob_i (c_owns (F := F + 8) (h.b (b := 11)) (c_rg (h.b (b := 11)) (by omega) (by omega) hk)) rfl
theorem c_an2 {F d t : Nat} {x : Int32} {σ : St} (h : VC σ kd k m t) (ht : t + 5 ≤ 30) (hd : d + 5 ≤ 40) (hk : kd < 7) : g_X5_above (F + 14) 2 (nI 2) 1 x (nI d) σ = some (0 - (anB k kd x).1, wrL 56 55 1 σ t (30 :: (anB k kd x).2)) := by
  refine c_bd (F := F + 12) (v := 1) (b := 30) h (by omega) (by omega) (by omega) (by decide) rfl ?_
  refine ite_n (by decide) (ite_n (by decide) (ite_n (by decide) (ite_n (by decide) (ite_n (by decide) (ite_n (by decide) (ite_p rfl ?_))))))
  exact ob_i (c_abv (F := F + 11) (s := 2) (u := 0) (by decide) rfl (c_an0 (s := 0) (h.b (b := 30)) (by omega) (by omega) hk (Or.inl rfl))) rfl
theorem c_an {F s d t : Nat} {x : Int32} {σ : St} (h : VC σ kd k m t) (ht : t + 6 ≤ 30) (hd : d + 6 ≤ 40) (hk : kd < 7) (hs : s < 7) : g_X5_above (F + 17) 2 (nI s) 1 x (nI d) σ = some ((anN k m kd s x).1, wrL 56 55 1 σ t (anN k m kd s x).2) := by
  rcases (show (s = 0 ∨ s = 1 ∨ s = 3 ∨ s = 4) ∨ s = 2 ∨ s = 5 ∨ s = 6 by omega) with e | e | e | e
  · have := c_an0 (F := F + 6) (x := x) h (by omega) (show d + 4 ≤ 40 by omega) hk e
    rw [show anN k m kd s x = anB k kd x by rcases e with e | e | e | e <;> subst e <;> rfl]
    exact this
  · subst e
    exact c_an2 (F := F + 3) h (by omega) (by omega) hk
  · subst e
    refine c_bd (F := F + 15) (v := 1) (b := 60) h (by omega) (by omega) (by decide) (by decide) rfl ?_
    refine ite_n (by decide) (ite_n (by decide) (ite_n (by decide) (ite_n (by decide) (ite_n (by decide) (ite_n (by decide) (ite_n (by decide) (ite_n (by decide) (ite_n (by decide) (ite_n (by decide) (ite_p rfl ?_))))))))))
    exact ob_id (c_abv (F := F + 14) (s := 5) (u := 2) (by decide) rfl (c_an2 (h.b (b := 60)) (by omega) (by omega) hk))
  · subst e
    refine c_bd (F := F + 15) (v := 1) (b := 71) h (by omega) (by omega) (by decide) (by decide) rfl ?_
    refine ite_n (by decide) (ite_n (by decide) (ite_n (by decide) (ite_n (by decide) (ite_n (by decide) (ite_n (by decide) (ite_n (by decide) (ite_n (by decide) (ite_n (by decide) (ite_n (by decide) (ite_n (by decide) (ite_n (by decide) (ite_p rfl ?_))))))))))))
    refine ob_i (c_abv (F := F + 14) (s := 6) (u := 0) (by decide) rfl (c_an0 (F := F + 3) (s := 0) (h.b (b := 71)) (by omega) (by omega) hk (Or.inl rfl))) ?_
    rw [((h.b (b := 71)).w _).2.2.2.2]
    rfl
theorem c_wa0 {F s d t : Nat} {x : Int32} {σ : St} (h : VC σ kd k m t) (ht : t + 7 ≤ 30) (hd : d + 7 ≤ 40) (hk : kd < 7) (hs : s = 0 ∨ s = 1 ∨ s = 2 ∨ s = 5 ∨ s = 6) : g_X5_above (F + 20) 2 (nI s) 2 x (nI d) σ = some ((waB k m kd x).1, wrL 56 55 1 σ t (waB k m kd x).2) := by
  refine c_bd (F := F + 18) (v := 2) (b := 12) h (by omega) (by omega) (by omega) (by decide) (by rcases hs with e | e | e | e | e <;> subst e <;> rfl) ?_
  refine ite_n (by decide) (ite_n (by decide) (ite_p rfl ?_))
  refine ob_i (c_owns (F := F + 17) (h.b (b := 12)) (c_an (h.b (b := 12)) (by omega) (by omega) hk hk)) ?_
  rw [((h.b (b := 12)).w _).2.2.2.2]
  rfl
theorem c_wa {F s d t : Nat} {x : Int32} {σ : St} (h : VC σ kd k m t) (ht : t + 8 ≤ 30) (hd : d + 8 ≤ 40) (hk : kd < 7) (hs : s < 7) : g_X5_above (F + 23) 2 (nI s) 2 x (nI d) σ = some ((waN k m kd s x).1, wrL 56 55 1 σ t (waN k m kd s x).2) := by
  rcases (show (s = 0 ∨ s = 1 ∨ s = 2 ∨ s = 5 ∨ s = 6) ∨ s = 3 ∨ s = 4 by omega) with e | e | e
  · have := c_wa0 (F := F + 3) (x := x) h (by omega) (show d + 7 ≤ 40 by omega) hk e
    rw [show waN k m kd s x = waB k m kd x by rcases e with e | e | e | e | e <;> subst e <;> rfl]
    exact this
  · subst e
    refine c_bd (F := F + 21) (v := 2) (b := 40) h (by omega) (by omega) (by decide) (by decide) rfl ?_
    refine ite_n (by decide) (ite_n (by decide) (ite_n (by decide) (ite_n (by decide) (ite_n (by decide) (ite_n (by decide) (ite_n (by decide) (ite_p rfl ?_)))))))
    exact ob_id (c_abv (F := F + 20) (s := 3) (u := 0) (by decide) rfl (c_wa0 (s := 0) (h.b (b := 40)) (by omega) (by omega) hk (Or.inl rfl)))
  · subst e
    refine c_bd (F := F + 21) (v := 2) (b := 51) h (by omega) (by omega) (by decide) (by decide) rfl ?_
    refine ite_n (by decide) (ite_n (by decide) (ite_n (by decide) (ite_n (by decide) (ite_n (by decide) (ite_n (by decide) (ite_n (by decide) (ite_n (by decide) (ite_n (by decide) (ite_p rfl ?_)))))))))
    refine ob_i (c_abv (F := F + 20) (s := 4) (u := 1) (by decide) rfl (c_wa0 (s := 1) (h.b (b := 51)) (by omega) (by omega) hk (Or.inr (Or.inl rfl)))) ?_
    rw [((h.b (b := 51)).w _).2.2.2.1]
    rfl
theorem st_id {σ : St} {q k : Nat} {v : Int32} (h : σ q k = v) : st σ q k v = σ := by
  funext a b
  rw [st_e]
  by_cases e : a = q ∧ b = k
  · rw [if_pos e, e.1, e.2, h]
  · rw [if_neg e]
theorem c_pa0 {F s d t : Nat} {x : Int32} {σ : St} (h : VC σ kd k m t) (ht : t < 30) (hd : d ≤ 40) (hs : s = 0 ∨ s = 2 ∨ s = 3 ∨ s = 5 ∨ s = 6) (hq : ¬ m - k = 0) : g_X5_above (F + 2) 2 (nI s) 3 x (nI d) σ = some (x / (m - k), wrL 56 55 1 σ t [13]) := by
  refine c_bd (v := 3) (L := []) h ht hd (by omega) (by decide) (by rcases hs with e | e | e | e | e <;> subst e <;> rfl) ?_
  have hb := h.b (b := 13)
  refine ite_n (by decide) (ite_n (by decide) (ite_n (by decide) (ite_p rfl ?_)))
  rw [hb.2.2.2.1, hb.2.2.2.2]
  refine ob_id (ite_p hb.1 (ite_n hq (ol_i (ob_id (ite_n hq (ite_p hq ?_))))))
  rw [st_id hb.1]
  rfl
theorem c_pa0p {F s d t : Nat} {x : Int32} {σ : St} (h : VC σ kd k m t) (ht : t < 30) (hd : d ≤ 40) (hs : s = 0 ∨ s = 2 ∨ s = 3 ∨ s = 5 ∨ s = 6) (hq : m - k = 0) : g_X5_above (F + 2) 2 (nI s) 3 x (nI d) σ = some (0, st (wrL 56 55 1 σ t [13]) 55 0 1) := by
  refine c_speak (v := 3) (b := 13) h ht hd (by omega) (by decide) (by rcases hs with e | e | e | e | e <;> subst e <;> rfl) ?_
  have hb := h.b (b := 13)
  refine ite_n (by decide) (ite_n (by decide) (ite_n (by decide) (ite_p rfl ?_)))
  rw [hb.2.2.2.1, hb.2.2.2.2]
  exact ob_id (ite_p hb.1 (ite_p hq (ol_i (ob_id (ite_p hq rfl)))))
theorem c_pa1 {F s d t : Nat} {x : Int32} {σ : St} (h : VC σ kd k m t) (ht : t + 8 ≤ 30) (hd : d + 8 ≤ 40) (hk : kd < 7) (hs : s = 1 ∨ s = 4) (hq : ¬ m - k = 0) : g_X5_above (F + 20) 2 (nI s) 3 x (nI d) σ = some (x / (m - k) + (anN k m kd kd 1).1, wrL 56 55 1 σ t (21 :: 13 :: (anN k m kd kd 1).2)) := by
  refine c_bd (F := F + 18) (v := 3) (b := 21) h (by omega) (by omega) (by omega) (by decide) (by rcases hs with e | e <;> subst e <;> rfl) ?_
  have hb := h.b (b := 21)
  refine ite_n (by decide) (ite_n (by decide) (ite_n (by decide) (ite_n (by decide) (ite_n (by decide) (ite_p rfl ?_)))))
  refine ob_i (c_abv (F := F + 17) (s := 1) (u := 0) (by decide) rfl (c_pa0 (F := F + 15) (s := 0) hb (by omega) (by omega) (Or.inl rfl) hq)) ?_
  have hb2 := hb.b (b := 13)
  exact ob_i (c_owns (F := F + 17) hb2 (c_an (x := 1) hb2 (by omega) (by omega) hk hk)) rfl
theorem c_parted {F : Nat} {v x d : Int32} {σ : St} (h : ¬ σ 55 0 = 0) : g_X5_above (F + 2) 1 v x d 0 σ = some (0, σ) := by
  have h2 : g_X5_above (F + 1) 2 (σ 55 3) v x d σ = some (0, σ) := by
    show f_X5_speak (g_X5_above F) (σ 55 3) v x d σ = _
    exact ite_n h rfl
  show f_X5_own (g_X5_above (F + 1)) v x d σ = _
  exact ob_id h2
theorem c_pa1p {F s d t : Nat} {x : Int32} {σ : St} (h : VC σ kd k m t) (ht : t + 8 ≤ 30) (hd : d + 8 ≤ 40) (hs : s = 1 ∨ s = 4) (hq : m - k = 0) : g_X5_above (F + 20) 2 (nI s) 3 x (nI d) σ = some (0, st (wrL 56 55 1 σ t [21, 13]) 55 0 1) := by
  refine c_speak (F := F + 18) (v := 3) (b := 21) h (by omega) (by omega) (by omega) (by decide) (by rcases hs with e | e <;> subst e <;> rfl) ?_
  have hb := h.b (b := 21)
  refine ite_n (by decide) (ite_n (by decide) (ite_n (by decide) (ite_n (by decide) (ite_n (by decide) (ite_p rfl ?_)))))
  refine ob_i (c_abv (F := F + 17) (s := 1) (u := 0) (by decide) rfl (c_pa0p (F := F + 15) (s := 0) hb (by omega) (by omega) (Or.inl rfl) hq)) ?_
  exact ob_i (c_parted (F := F + 16) (by rw [st_s]; decide)) rfl
end VV
/-! the reference -/
/-- what the reference holds while a voice speaks -/
def VM (σ : St) (h kd mm t : Nat) : Prop := σ 66 14 = nI t ∧ σ 66 16 = nI h ∧ σ 66 17 = 0 ∧ σ 67 (8 + 4 * h) = nI kd ∧ σ 67 (9 + 4 * h) = nI mm
theorem VM.b {σ : St} {h kd mm t : Nat} {b : Int32} (v : VM σ h kd mm t) : VM (st (st σ 75 t b) 66 14 (nI (t + 1))) h kd mm (t + 1) := by
  obtain ⟨v1, v2, v3, v4, v5⟩ := v
  refine ⟨st_s, ?_, ?_, ?_, ?_⟩
  · rw [st_k (by decide), st_c (by decide)]; exact v2
  · rw [st_k (by decide), st_c (by decide)]; exact v3
  · rw [st_c (by decide), st_c (by decide)]; exact v4
  · rw [st_c (by decide), st_c (by decide)]; exact v5
theorem VM.w {h kd mm : Nat} : ∀ (L : List Int32) (σ : St) (t : Nat), VM σ h kd mm t → VM (wrL 75 66 14 σ t L) h kd mm (t + L.length) := by
  intro L
  induction L with
  | nil => intro σ t h; exact h
  | cons b L ih =>
    intro σ t h
    have := ih _ _ (h.b (b := b))
    rw [show t + 1 + L.length = t + (b :: L).length by rw [List.length_cons]; omega] at this
    exact this
section VW
variable {h kd mm : Nat}
theorem m_starts {t : Nat} {b : Int32} {σ : St} (v : VM σ h kd mm t) (ht : t < 30) : f_X7_starts b σ = some (0, st (st σ 75 t b) 66 14 (nI (t + 1))) := by
  unfold f_X7_starts
  rw [v.1]
  refine ite_n (nI_ge (b := 30) ht (by decide)) (ite_p (inb_i ht (by decide)) (ol_i ?_))
  rw [nI_clamp (by omega), st_c (by decide), v.1, nI_1]
  rfl
theorem m_kN {t : Nat} {σ : St} (v : VM σ h kd mm t) (hh : h < 10) : f_X7_kindNow σ = some (nI kd, σ) := by
  unfold f_X7_kindNow
  rw [v.2.1]
  refine ob_id ((m_its (w := 0) hh (by decide)).trans ?_)
  rw [show 8 + 4 * h + 0 = 8 + 4 * h from rfl, v.2.2.2.1]
theorem m_mN {t : Nat} {σ : St} (v : VM σ h kd mm t) (hh : h < 10) : f_X7_mNow σ = some (nI mm, σ) := by
  unfold f_X7_mNow
  rw [v.2.1]
  refine ob_id ((m_its (w := 1) hh (by decide)).trans ?_)
  rw [show 8 + 4 * h + 1 = 9 + 4 * h by omega, v.2.2.2.2]
theorem m_ab (s : Nat) (hs : s = 0 ∨ s = 1 ∨ s = 2 ∨ s = 3 ∨ s = 6) (σ : St) : f_X7_above (nI s) σ = some (nI 0, σ) := by
  rcases hs with e | e | e | e | e <;> subst e <;> exact ite_n (by decide) (ite_n (by decide) rfl)
theorem m_ab4 (σ : St) : f_X7_above (nI 4) σ = some (nI 1, σ) := ite_p rfl rfl
theorem m_ab5 (σ : St) : f_X7_above (nI 5) σ = some (nI 2, σ) := ite_n (by decide) (ite_p rfl rfl)
theorem m_rg0 {F t : Nat} {x : Int32} {σ : St} (v : VM σ h kd mm t) (ht : t < 30) : g_X7_ringsAs (F + 1) 0 (nI 0) x σ = some (x + nI h, wrL 75 66 14 σ t [10]) := by
  show f_X7_ringsAs (g_X7_ringsAs F) (nI 0) x σ = _
  refine ite_p rfl (ob_i (m_starts v ht) ?_)
  rw [(v.b (b := 10)).2.1]
  rfl
theorem m_rg1 {F t : Nat} {x : Int32} {σ : St} (v : VM σ h kd mm t) (ht : t < 29) : g_X7_ringsAs (F + 2) 0 (nI 1) x σ = some (x + nI h - 4, wrL 75 66 14 σ t [20, 10]) := by
  show f_X7_ringsAs (g_X7_ringsAs (F + 1)) (nI 1) x σ = _
  exact ite_n (by decide) (ite_p rfl (ob_i (m_starts v (by omega)) (ob_i (m_ab 1 (by decide) _) (ob_i (m_rg0 (v.b (b := 20)) (by omega)) rfl))))
theorem m_rg {F s t : Nat} {x : Int32} {σ : St} (v : VM σ h kd mm t) (ht : t + 3 ≤ 30) (hs : s < 7) : g_X7_ringsAs (F + 4) 0 (nI s) x σ = some ((rgN (nI h) s x).1, wrL 75 66 14 σ t (rgN (nI h) s x).2) := by
  have h2 : ∀ F, g_X7_ringsAs (F + 2) 0 (nI 2) x σ = some (x + nI h, wrL 75 66 14 σ t [10]) := fun F => by
    show f_X7_ringsAs (g_X7_ringsAs (F + 1)) (nI 2) x σ = _
    exact ite_n (by decide) (ite_n (by decide) (ite_p rfl (ob_i (m_ab 2 (by decide) _) (ob_id (m_rg0 v (by omega))))))
  rcases (show s = 0 ∨ s = 1 ∨ s = 2 ∨ s = 3 ∨ s = 4 ∨ s = 5 ∨ s = 6 by omega) with e | e | e | e | e | e | e <;> subst e
  · exact m_rg0 (F := F + 3) v (by omega)
  · exact m_rg1 (F := F + 2) v (by omega)
  · exact h2 (F + 2)
  · show f_X7_ringsAs (g_X7_ringsAs (F + 3)) (nI 3) x σ = _
    exact ite_n (by decide) (ite_n (by decide) (ite_n (by decide) (ite_p rfl (ob_i (m_ab 3 (by decide) _) (ob_id (m_rg0 (F := F + 2) v (by omega)))))))
  · show f_X7_ringsAs (g_X7_ringsAs (F + 3)) (nI 4) x σ = _
    exact ite_n (by decide) (ite_n (by decide) (ite_n (by decide) (ite_n (by decide) (ite_p rfl (ob_i (m_starts v (by omega)) (ob_i (m_ab4 _) (ob_i (m_rg1 (F := F + 1) (v.b (b := 50)) (by omega)) rfl)))))))
  · show f_X7_ringsAs (g_X7_ringsAs (F + 3)) (nI 5) x σ = _
    exact ite_n (by decide) (ite_n (by decide) (ite_n (by decide) (ite_n (by decide) (ite_n (by decide) (ite_p rfl (ob_i (m_ab5 _) (ob_id (h2 (F + 1)))))))))
  · show f_X7_ringsAs (g_X7_ringsAs (F + 3)) (nI 6) x σ = _
    exact ite_n (by decide) (ite_n (by decide) (ite_n (by decide) (ite_n (by decide) (ite_n (by decide) (ite_n (by decide) (ite_p rfl (ob_i (m_starts v (by omega)) rfl)))))))
theorem m_an0 {F t : Nat} {x : Int32} {σ : St} (v : VM σ h kd mm t) (hh : h < 10) (hk : kd < 7) (ht : t + 4 ≤ 30) : g_X7_answersAs (F + 1) 0 (nI 0) x σ = some ((anB (nI h) kd x).1, wrL 75 66 14 σ t (anB (nI h) kd x).2) := by
  show f_X7_answersAs (g_X7_answersAs F) (nI 0) x σ = _
  exact ite_p rfl (ob_i (m_starts v (by omega)) (ob_i (m_kN (v.b (b := 11)) hh) (ob_i (m_rg (F := 96) (v.b (b := 11)) (by omega) hk) rfl)))
theorem m_an2 {F t : Nat} {x : Int32} {σ : St} (v : VM σ h kd mm t) (hh : h < 10) (hk : kd < 7) (ht : t + 5 ≤ 30) : g_X7_answersAs (F + 2) 0 (nI 2) x σ = some (0 - (anB (nI h) kd x).1, wrL 75 66 14 σ t (30 :: (anB (nI h) kd x).2)) := by
  show f_X7_answersAs (g_X7_answersAs (F + 1)) (nI 2) x σ = _
  exact ite_n (by decide) (ite_n (by decide) (ite_p rfl (ob_i (m_starts v (by omega)) (ob_i (m_ab 2 (by decide) _) (ob_i (m_an0 (v.b (b := 30)) hh hk (by omega)) rfl)))))
theorem m_an {F s t : Nat} {x : Int32} {σ : St} (v : VM σ h kd mm t) (hh : h < 10) (hk : kd < 7) (ht : t + 6 ≤ 30) (hs : s < 7) : g_X7_answersAs (F + 4) 0 (nI s) x σ = some ((anN (nI h) (nI mm) kd s x).1, wrL 75 66 14 σ t (anN (nI h) (nI mm) kd s x).2) := by
  have h1 : ∀ F, g_X7_answersAs (F + 2) 0 (nI 1) x σ = some ((anB (nI h) kd x).1, wrL 75 66 14 σ t (anB (nI h) kd x).2) := fun F => by
    show f_X7_answersAs (g_X7_answersAs (F + 1)) (nI 1) x σ = _
    exact ite_n (by decide) (ite_p rfl (ob_i (m_ab 1 (by decide) _) (ob_id (m_an0 v hh hk (by omega)))))
  rcases (show s = 0 ∨ s = 1 ∨ s = 2 ∨ s = 3 ∨ s = 4 ∨ s = 5 ∨ s = 6 by omega) with e | e | e | e | e | e | e <;> subst e
  · exact m_an0 (F := F + 3) v hh hk (by omega)
  · exact h1 (F + 2)
  · exact m_an2 (F := F + 2) v hh hk (by omega)
  · show f_X7_answersAs (g_X7_answersAs (F + 3)) (nI 3) x σ = _
    exact ite_n (by decide) (ite_n (by decide) (ite_n (by decide) (ite_p rfl (ob_i (m_ab 3 (by decide) _) (ob_id (m_an0 (F := F + 2) v hh hk (by omega)))))))
  · show f_X7_answersAs (g_X7_answersAs (F + 3)) (nI 4) x σ = _
    exact ite_n (by decide) (ite_n (by decide) (ite_n (by decide) (ite_n (by decide) (ite_p rfl (ob_i (m_ab4 _) (ob_id (h1 (F + 1))))))))
  · show f_X7_answersAs (g_X7_answersAs (F + 3)) (nI 5) x σ = _
    exact ite_n (by decide) (ite_n (by decide) (ite_n (by decide) (ite_n (by decide) (ite_n (by decide) (ite_p rfl (ob_i (m_starts v (by omega)) (ob_i (m_ab5 _) (ob_id (m_an2 (F := F + 1) (v.b (b := 60)) hh hk (by omega))))))))))
  · show f_X7_answersAs (g_X7_answersAs (F + 3)) (nI 6) x σ = _
    refine ite_n (by decide) (ite_n (by decide) (ite_n (by decide) (ite_n (by decide) (ite_n (by decide) (ite_n (by decide) (ite_p rfl (ob_i (m_starts v (by omega)) (ob_i (m_ab 6 (by decide) _) (ob_i (m_an0 (F := F + 2) (v.b (b := 71)) hh hk (by omega)) ?_)))))))))
    exact ob_i (m_mN ((v.b (b := 71)).w _) hh) rfl
theorem m_wa0 {F t : Nat} {x : Int32} {σ : St} (v : VM σ h kd mm t) (hh : h < 10) (hk : kd < 7) (ht : t + 7 ≤ 30) : g_X7_waitsAs (F + 1) 0 (nI 0) x σ = some ((waB (nI h) (nI mm) kd x).1, wrL 75 66 14 σ t (waB (nI h) (nI mm) kd x).2) := by
  show f_X7_waitsAs (g_X7_waitsAs F) (nI 0) x σ = _
  exact ite_p rfl (ob_i (m_starts v (by omega)) (ob_i (m_kN (v.b (b := 12)) hh) (ob_i (m_an (F := 96) (v.b (b := 12)) hh hk (by omega) hk) (ob_i (m_mN ((v.b (b := 12)).w _) hh) rfl))))
theorem m_wa {F s t : Nat} {x : Int32} {σ : St} (v : VM σ h kd mm t) (hh : h < 10) (hk : kd < 7) (ht : t + 8 ≤ 30) (hs : s < 7) : g_X7_waitsAs (F + 4) 0 (nI s) x σ = some ((waN (nI h) (nI mm) kd s x).1, wrL 75 66 14 σ t (waN (nI h) (nI mm) kd s x).2) := by
  have h1 : ∀ (F t : Nat) (σ : St), VM σ h kd mm t → t + 7 ≤ 30 → g_X7_waitsAs (F + 2) 0 (nI 1) x σ = some ((waB (nI h) (nI mm) kd x).1, wrL 75 66 14 σ t (waB (nI h) (nI mm) kd x).2) := fun F t σ v ht => by
    show f_X7_waitsAs (g_X7_waitsAs (F + 1)) (nI 1) x σ = _
    exact ite_n (by decide) (ite_p rfl (ob_i (m_ab 1 (by decide) _) (ob_id (m_wa0 v hh hk ht))))
  have h2 : ∀ F, g_X7_waitsAs (F + 2) 0 (nI 2) x σ = some ((waB (nI h) (nI mm) kd x).1, wrL 75 66 14 σ t (waB (nI h) (nI mm) kd x).2) := fun F => by
    show f_X7_waitsAs (g_X7_waitsAs (F + 1)) (nI 2) x σ = _
    exact ite_n (by decide) (ite_n (by decide) (ite_p rfl (ob_i (m_ab 2 (by decide) _) (ob_id (m_wa0 v hh hk (by omega))))))
  rcases (show s = 0 ∨ s = 1 ∨ s = 2 ∨ s = 3 ∨ s = 4 ∨ s = 5 ∨ s = 6 by omega) with e | e | e | e | e | e | e <;> subst e
  · exact m_wa0 (F := F + 3) v hh hk (by omega)
  · exact h1 (F + 2) t σ v (by omega)
  · exact h2 (F + 2)
  · show f_X7_waitsAs (g_X7_waitsAs (F + 3)) (nI 3) x σ = _
    exact ite_n (by decide) (ite_n (by decide) (ite_n (by decide) (ite_p rfl (ob_i (m_starts v (by omega)) (ob_i (m_ab 3 (by decide) _) (ob_id (m_wa0 (F := F + 2) (v.b (b := 40)) hh hk (by omega))))))))
  · show f_X7_waitsAs (g_X7_waitsAs (F + 3)) (nI 4) x σ = _
    refine ite_n (by decide) (ite_n (by decide) (ite_n (by decide) (ite_n (by decide) (ite_p rfl (ob_i (m_starts v (by omega)) (ob_i (m_ab4 _) (ob_i (h1 (F + 1) (t + 1) _ (v.b (b := 51)) (by omega)) ?_)))))))
    rw [((v.b (b := 51)).w _).2.1]
    rfl
  · show f_X7_waitsAs (g_X7_waitsAs (F + 3)) (nI 5) x σ = _
    exact ite_n (by decide) (ite_n (by decide) (ite_n (by decide) (ite_n (by decide) (ite_n (by decide) (ob_i (m_ab5 _) (ob_id (h2 (F + 1))))))))
  · show f_X7_waitsAs (g_X7_waitsAs (F + 3)) (nI 6) x σ = _
    exact ite_n (by decide) (ite_n (by decide) (ite_n (by decide) (ite_n (by decide) (ite_n (by decide) (ob_i (m_ab 6 (by decide) _) (ob_id (m_wa0 (F := F + 2) v hh hk (by omega))))))))
theorem m_pa0 {F t : Nat} {x : Int32} {σ : St} (v : VM σ h kd mm t) (hh : h < 10) (ht : t < 30) (hq : ¬ nI mm - nI h = 0) : g_X7_partsAs (F + 1) 0 (nI 0) x σ = some (x / (nI mm - nI h), wrL 75 66 14 σ t [13]) := by
  show f_X7_partsAs (g_X7_partsAs F) (nI 0) x σ = _
  have vb := v.b (b := 13)
  refine ite_p rfl (ob_i (m_starts v ht) (ob_i (m_mN vb hh) ?_))
  rw [vb.2.1]
  refine ite_n hq (ite_p (Or.inl rfl) (ol_i (ite_n hq ?_)))
  rw [st_id vb.2.2.1]
  by_cases e : nI mm - nI h = -1
  · refine ite_p e ?_
    rw [e, sdiv_m1]
    rfl
  · exact ite_n e (ite_p hq rfl)
theorem m_pa0p {F t : Nat} {x : Int32} {σ : St} (v : VM σ h kd mm t) (hh : h < 10) (ht : t < 30) (hq : nI mm - nI h = 0) : g_X7_partsAs (F + 1) 0 (nI 0) x σ = some (0, st (wrL 75 66 14 σ t [13]) 66 17 1) := by
  show f_X7_partsAs (g_X7_partsAs F) (nI 0) x σ = _
  have vb := v.b (b := 13)
  refine ite_p rfl (ob_i (m_starts v ht) (ob_i (m_mN vb hh) ?_))
  rw [vb.2.1]
  exact ite_p hq (ite_p (Or.inr rfl) (ol_i (ite_p hq rfl)))
theorem m_pa1 {F t : Nat} {x : Int32} {σ : St} (v : VM σ h kd mm t) (hh : h < 10) (hk : kd < 7) (ht : t + 8 ≤ 30) (hq : ¬ nI mm - nI h = 0) : g_X7_partsAs (F + 2) 0 (nI 1) x σ = some (x / (nI mm - nI h) + (anN (nI h) (nI mm) kd kd 1).1, wrL 75 66 14 σ t (21 :: 13 :: (anN (nI h) (nI mm) kd kd 1).2)) := by
  show f_X7_partsAs (g_X7_partsAs (F + 1)) (nI 1) x σ = _
  have vb := v.b (b := 21)
  have vc := vb.b (b := 13)
  exact ite_n (by decide) (ite_p rfl (ob_i (m_starts v (by omega)) (ob_i (m_ab 1 (by decide) _) (ob_i (m_pa0 vb hh (by omega) hq) (ite_p vc.2.2.1 (ob_i (m_kN vc hh) (ob_i (m_an (F := 96) (x := 1) vc hh hk (by omega) hk) rfl)))))))
theorem m_pa1p {F t : Nat} {x : Int32} {σ : St} (v : VM σ h kd mm t) (hh : h < 10) (ht : t + 8 ≤ 30) (hq : nI mm - nI h = 0) : g_X7_partsAs (F + 2) 0 (nI 1) x σ = some (0, st (wrL 75 66 14 σ t [21, 13]) 66 17 1) := by
  show f_X7_partsAs (g_X7_partsAs (F + 1)) (nI 1) x σ = _
  have vb := v.b (b := 21)
  refine ite_n (by decide) (ite_p rfl (ob_i (m_starts v (by omega)) (ob_i (m_ab 1 (by decide) _) (ob_i (m_pa0p vb hh (by omega) hq) (ite_n ?_ rfl)))))
  rw [st_s]
  decide
theorem m_paH {F s u : Nat} {x : Int32} {σ : St} {y : Int32} {σ1 : St} (h2 : 2 ≤ s) (hs : s < 7) (hu : f_X7_above (nI s) σ = some (nI u, σ)) (hy : g_X7_partsAs F 0 (nI u) x σ = some (y, σ1)) : g_X7_partsAs (F + 1) 0 (nI s) x σ = some (y, σ1) := by
  show f_X7_partsAs (g_X7_partsAs F) (nI s) x σ = _
  refine ite_n (nI_ne0 (by omega) (by omega)) (ite_n (fun q => ?_) (ob_i hu (ob_id hy)))
  have := (nI_eq (a := s) (b := 1) (by omega) (by decide)).mp q
  omega
end VW
/-- the voices of the reference, as voice calls them -/
def mvo (v : Nat) (s x : Int32) (σ : St) : Rs := if v = 0 then g_X7_ringsAs 100 0 s x σ else if v = 1 then g_X7_answersAs 100 0 s x σ else if v = 2 then g_X7_waitsAs 100 0 s x σ else g_X7_partsAs 100 0 s x σ
theorem vo_both {h kd mm v : Nat} (hh : h < 10) (hk : kd < 7) (hv : v < 4) (x : Int32) : (∃ (r : Int32) (L : List Int32), L.length ≤ 30 ∧ (∀ σ, VC σ kd (nI h) (nI mm) 0 → g_X5_above 100 2 (nI kd) (nI v) x 0 σ = some (r, wrL 56 55 1 σ 0 L)) ∧ ∀ σ, VM σ h kd mm 0 → mvo v (nI kd) x σ = some (r, wrL 75 66 14 σ 0 L)) ∨ ∃ (r r' : Int32) (L : List Int32), L.length ≤ 30 ∧ (∀ σ, VC σ kd (nI h) (nI mm) 0 → g_X5_above 100 2 (nI kd) (nI v) x 0 σ = some (r, st (wrL 56 55 1 σ 0 L) 55 0 1)) ∧ ∀ σ, VM σ h kd mm 0 → mvo v (nI kd) x σ = some (r', st (wrL 75 66 14 σ 0 L) 66 17 1) := by
  rcases (show v = 0 ∨ v = 1 ∨ v = 2 ∨ v = 3 by omega) with e | e | e | e <;> subst e
  · exact Or.inl ⟨_, _, Nat.le_trans (rg_l _ _ _) (by decide), fun σ q => c_rg (F := 92) (d := 0) q (by decide) (by decide) hk, fun σ q => m_rg (F := 96) q (by decide) hk⟩
  · exact Or.inl ⟨_, _, Nat.le_trans (an_l _ _ _ _ _) (by decide), fun σ q => c_an (F := 83) (d := 0) q (by decide) (by decide) hk hk, fun σ q => m_an (F := 96) q hh hk (by decide) hk⟩
  · exact Or.inl ⟨_, _, Nat.le_trans (wa_l _ _ _ _ _) (by decide), fun σ q => c_wa (F := 77) (d := 0) q (by decide) (by decide) hk hk, fun σ q => m_wa (F := 96) q hh hk (by decide) hk⟩
  · have hl := an_l (nI h) (nI mm) kd kd 1
    by_cases hq : nI mm - nI h = 0
    · rcases (show (kd = 0 ∨ kd = 2 ∨ kd = 3 ∨ kd = 5 ∨ kd = 6) ∨ kd = 1 ∨ kd = 4 by omega) with e | e
      · refine Or.inr ⟨_, 0, _, ?_, fun σ q => c_pa0p (F := 98) (d := 0) q (by decide) (by decide) e hq, fun σ q => ?_⟩
        · decide
        · show g_X7_partsAs (99 + 1) 0 (nI kd) x σ = _
          rcases e with e | e | e | e | e <;> subst e
          · exact m_pa0p q hh (by decide) hq
          · exact m_paH (u := 0) (by decide) (by decide) (m_ab 2 (by decide) _) (m_pa0p (F := 98) q hh (by decide) hq)
          · exact m_paH (u := 0) (by decide) (by decide) (m_ab 3 (by decide) _) (m_pa0p (F := 98) q hh (by decide) hq)
          · exact m_paH (u := 2) (by decide) (by decide) (m_ab5 _) (m_paH (F := 98) (u := 0) (by decide) (by decide) (m_ab 2 (by decide) _) (m_pa0p (F := 97) q hh (by decide) hq))
          · exact m_paH (u := 0) (by decide) (by decide) (m_ab 6 (by decide) _) (m_pa0p (F := 98) q hh (by decide) hq)
      · refine Or.inr ⟨_, 0, _, ?_, fun σ q => c_pa1p (F := 80) (d := 0) q (by decide) (by decide) e hq, fun σ q => ?_⟩
        · decide
        · show g_X7_partsAs (99 + 1) 0 (nI kd) x σ = _
          rcases e with e | e <;> subst e
          · exact m_pa1p (F := 98) q hh (by decide) hq
          · exact m_paH (u := 1) (by decide) (by decide) (m_ab4 _) (m_pa1p (F := 97) q hh (by decide) hq)
    · rcases (show (kd = 0 ∨ kd = 2 ∨ kd = 3 ∨ kd = 5 ∨ kd = 6) ∨ kd = 1 ∨ kd = 4 by omega) with e | e
      · refine Or.inl ⟨_, _, ?_, fun σ q => c_pa0 (F := 98) (d := 0) q (by decide) (by decide) e hq, fun σ q => ?_⟩
        · decide
        · show g_X7_partsAs (99 + 1) 0 (nI kd) x σ = _
          rcases e with e | e | e | e | e <;> subst e
          · exact m_pa0 q hh (by decide) hq
          · exact m_paH (u := 0) (by decide) (by decide) (m_ab 2 (by decide) _) (m_pa0 (F := 98) q hh (by decide) hq)
          · exact m_paH (u := 0) (by decide) (by decide) (m_ab 3 (by decide) _) (m_pa0 (F := 98) q hh (by decide) hq)
          · exact m_paH (u := 2) (by decide) (by decide) (m_ab5 _) (m_paH (F := 98) (u := 0) (by decide) (by decide) (m_ab 2 (by decide) _) (m_pa0 (F := 97) q hh (by decide) hq))
          · exact m_paH (u := 0) (by decide) (by decide) (m_ab 6 (by decide) _) (m_pa0 (F := 98) q hh (by decide) hq)
      · refine Or.inl ⟨_, _, ?_, fun σ q => c_pa1 (F := 80) (d := 0) q (by decide) (by decide) hk e hq, fun σ q => ?_⟩
        · simp only [List.length_cons]; omega
        · show g_X7_partsAs (99 + 1) 0 (nI kd) x σ = _
          rcases e with e | e
          · have := m_pa1 (F := 98) (x := x) q hh hk (by decide) hq
            rw [e] at this ⊢
            exact this
          · have := m_paH (F := 99) (s := 4) (u := 1) (by decide) (by decide) (m_ab4 _) (m_pa1 (F := 97) (x := x) q hh hk (by decide) hq)
            rw [e] at this ⊢
            exact this
/-! both -/
def trP (q k : Nat) : Bool := scr q k || q == 55 || q == 56 || (q == 66 && k == 14) || q == 75 || q == 65 || q == 69
theorem trP_f {q : Nat} (k : Nat) (h : (q ≤ 26 ∧ q ≠ 8 ∧ q ≠ 21) ∨ (57 ≤ q ∧ q ≤ 64) ∨ q = 67 ∨ q = 68 ∨ (76 ≤ q ∧ q ≤ 78)) : trP q k = false := by
  have := scr_f (q := q) k (by omega)
  unfold trP
  rw [this]
  have e1 : (q == 55) = false := by simp; omega
  have e2 : (q == 56) = false := by simp; omega
  have e3 : (q == 66) = false := by simp; omega
  have e4 : (q == 75) = false := by simp; omega
  have e5 : (q == 65) = false := by simp; omega
  have e6 : (q == 69) = false := by simp; omega
  rw [e1, e2, e3, e4, e5, e6]
  rfl
theorem Inv.tra {σ σ1 : St} (hI : Inv σ) (e : Eqo trP σ σ1) (h : ITra σ1) (h2 : IErr σ1) : Inv σ1 := by
  obtain ⟨i1, -, -, i4, i5⟩ := hI
  have r : ∀ q, ((q ≤ 26 ∧ q ≠ 8 ∧ q ≠ 21) ∨ (57 ≤ q ∧ q ≤ 64) ∨ q = 67 ∨ q = 68 ∨ (76 ≤ q ∧ q ≤ 78)) → σ1 q = σ q := fun q hq => e.row (fun k => trP_f k hq)
  exact ⟨i1.fr (fun q hq => r q (by omega)) (r _ (by omega)), h2, h, i4.fr (fun q hq => r q (by omega)), i5.fr (by rw [r _ (by omega)]) (e _ _ rfl) (fun q hq => r q (by omega)) (r _ (by omega))⟩
theorem P_voice {σ : St} (hI : Inv σ) (x0 : Int32) (x1 : Int32) (x2 : Int32) : ∃ (r : Int32) (σ1 σ2 : St), f_X6_voice x0 x1 x2 σ = some (r, σ1) ∧ f_X7_voice x0 x1 x2 σ1 = some (r, σ2) ∧ Inv σ2 := by
  obtain ⟨⟨N, z, wt, tx, hC, hM, hK⟩, hE, -⟩ := id hI
  have h10 := hK.n
  have cb : ∀ s, f_X6_voice_b20 s = some ((-1000000000) - nI 1, eC 1 s) := fun s => ob_i (p_failing (k := 1) (by decide)) rfl
  by_cases hv : isR 0 (N 0 0) x0
  · obtain ⟨h, -, hh, rfl⟩ := id hv
    by_cases hw : isR 0 4 x1
    · obtain ⟨v, -, hv4, rfl⟩ := id hw
      have hk := (hK.h hh).1
      have cc : ∀ {y : Rs}, (ob (f_X5_answerOf (nI (N 1 h)) (nI h) (nI (N 2 h)) (nI v) x2 σ) fun r4 σ4 => if (σ4 55 0) = 0 then some (r4, σ4) else (ob (f_X6_failing 6 σ4) fun r5 σ5 => some (r5, σ5))) = y → f_X6_voice (nI h) (nI v) x2 σ = y := by
        intro y hy
        refine ob_i (hasHouse_t hC.n h10 hv) (ite_n (by decide) (ite_n (nI_nn (by omega)) (ite_p (nI_lt (b := 4) hv4 (by decide)) (ob_i (c_kind hC.n h10 hh) (ob_i (c_m hC.n h10 hh) ?_)))))
        rw [hC.kd hh, hC.em hh]
        exact hy
      have mm : ∀ (s : St), MV 67 s N z wt tx → ∀ {r : Int32} {s1 : St} {y : Rs}, mvo v (nI (N 1 h)) x2 (st (st (st s 66 14 0) 66 16 (nI h)) 66 17 0) = some (r, s1) → f_X7_voice_b95 r s1 = y → f_X7_voice (nI h) (nI v) x2 s = y := by
        intro s hs r s1 y h1 hy
        refine ob_i (m_isHouse_t hs.n h10 hv) (ite_n (by decide) (ob_i (in_t hw (by decide) rfl rfl) (ite_n (by decide) (ol_i (ol_i (ol_i ?_))))))
        refine ob_i (r := nI (N 1 h)) (σ := st (st (st s 66 14 0) 66 16 (nI h)) 66 17 0) ?_ ?_
        · unfold f_X7_kindNow
          rw [st_k (by decide), st_s]
          refine ob_id ((m_its (w := 0) (by omega) (by decide)).trans ?_)
          rw [st_c (by decide), st_c (by decide), st_c (by decide), show 8 + 4 * h + 0 = 8 + 4 * h from rfl, hs.kd hh]
        · rcases (show v = 0 ∨ v = 1 ∨ v = 2 ∨ v = 3 by omega) with e | e | e | e <;> subst e
          · exact ite_p rfl (ob_i h1 hy)
          · exact ite_n (by decide) (ite_p rfl (ob_i h1 hy))
          · exact ite_n (by decide) (ite_n (by decide) (ite_p rfl (ob_i h1 hy)))
          · exact ite_n (by decide) (ite_n (by decide) (ite_n (by decide) (ob_i h1 hy)))
      -- the class's first state
      have hVC : VC (st (st (st (st (st σ 55 3 (nI (N 1 h))) 55 4 (nI h)) 55 5 (nI (N 2 h))) 55 0 0) 55 1 0) (N 1 h) (nI h) (nI (N 2 h)) 0 := by
        refine ⟨?_, st_s, ?_, ?_, ?_⟩ <;> simp (disch := decide) only [st_k, st_s]
      have hVM : ∀ s, MV 67 s N z wt tx → VM (st (st (st s 66 14 0) 66 16 (nI h)) 66 17 0) h (N 1 h) (N 2 h) 0 := by
        intro s hs
        refine ⟨?_, ?_, st_s, ?_, ?_⟩
        · rw [st_k (by decide), st_k (by decide), st_s]; rfl
        · rw [st_k (by decide), st_s]
        · rw [st_c (by decide), st_c (by decide), st_c (by decide), hs.kd hh]
        · rw [st_c (by decide), st_c (by decide), st_c (by decide), hs.em hh]
      have hco : ∀ q, q ≠ 55 → st (st (st (st (st σ 55 3 (nI (N 1 h))) 55 4 (nI h)) 55 5 (nI (N 2 h))) 55 0 0) 55 1 0 q = σ q := fun q hq => by rw [st_c hq, st_c hq, st_c hq, st_c hq, st_c hq]
      revert hVC hco
      generalize hσ5 : st (st (st (st (st σ 55 3 (nI (N 1 h))) 55 4 (nI h)) 55 5 (nI (N 2 h))) 55 0 0) 55 1 0 = σ5
      intro hVC hco
      -- what a state keeps
      have keep : ∀ (L : List Int32) (s s1 : St), L.length ≤ 30 → (∀ q, q ≠ 55 → q ≠ 56 → q ≠ 65 → s q = σ q) → s 56 = wrL 56 55 1 σ5 0 L 56 → s 55 1 = nI L.length → (∀ q k, q ≠ 69 → ¬ (q = 66 ∧ (k = 14 ∨ k = 16 ∨ k = 17)) → q ≠ 75 → s1 q k = s q k) → s1 75 = wrL 75 66 14 (st (st (st s 66 14 0) 66 16 (nI h)) 66 17 0) 0 L 75 → s1 66 14 = nI L.length → IErr s1 → Inv s1 := by
        intro L s s1 hl h1 h2 h3 h4 h5 h6 h7
        refine hI.tra (fun q k hq => ?_) ⟨L.length, hl, ?_, h6, fun i hi => ?_⟩ h7
        · have n1 : q ≠ 55 := by rintro rfl; revert hq; unfold trP; simp
          have n2 : q ≠ 56 := by rintro rfl; revert hq; unfold trP; simp
          have n3 : q ≠ 65 := by rintro rfl; revert hq; unfold trP; simp
          have n4 : q ≠ 69 := by rintro rfl; revert hq; unfold trP; simp
          have n5 : q ≠ 75 := by rintro rfl; revert hq; unfold trP; simp
          have n6 : ¬ (q = 66 ∧ (k = 14 ∨ k = 16 ∨ k = 17)) := by
            rintro ⟨rfl, e⟩
            rcases e with e | e | e <;> subst e <;> exact absurd hq (by decide)
          rw [h4 q k n4 n6 n5, h1 q n1 n2 n3]
        · rw [h4 55 1 (by decide) (by decide) (by decide), h3]
        · rw [h4 56 i (by decide) (by omega) (by decide), h2, h5]
          exact wrL_t (by decide) (by decide) L 0 _ _ (fun j hj => absurd hj (Nat.not_lt_zero _)) i (by omega)
      rcases vo_both (h := h) (kd := N 1 h) (mm := N 2 h) (v := v) (by omega) hk hv4 x2 with ⟨r, L, hl, c1, m1⟩ | ⟨r, r', L, hl, c1, m1⟩
      · have c2 := c1 σ5 hVC
        have vc := hVC.w L
        have hMs : MV 67 (wrL 56 55 1 σ5 0 L) N z wt tx := hM.fr (by rw [wrL_o (by decide) (by decide), hco _ (by decide)])
        have vm := (hVM _ hMs).w L
        refine ⟨r, _, _, cc (ob_i (r := r) (σ := wrL 56 55 1 σ5 0 L) ?_ (ite_p vc.1 rfl)), mm _ hMs (m1 _ (hVM _ hMs)) (ite_p vm.2.2.1 rfl), ?_⟩
        · show ol (st σ 55 3 (nI (N 1 h))) _ = _
          refine ol_i (ol_i (ol_i (ol_i (ol_i ?_))))
          rw [hσ5]
          exact ob_id c2
        · refine keep L _ _ hl (fun q q1 q2 q3 => by rw [wrL_o q2 q1, hco q q1]) rfl (by rw [vc.2.1, Nat.zero_add]) (fun q k q1 q2 q3 => ?_) rfl (by rw [vm.1, Nat.zero_add]) (fun k hk7 => ?_)
          · by_cases e : q = 66
            · subst e
              rw [wrL_k (by decide) (by omega), st_k (by omega), st_k (by omega), st_k (by omega)]
            · rw [wrL_o q3 e, st_c e, st_c e, st_c e]
          · rw [wrL_o (by decide) (by decide), wrL_o (by decide) (by decide), st_c (by decide), st_c (by decide), st_c (by decide), st_c (by decide), st_c (by decide), st_c (by decide), wrL_o (by decide) (by decide), wrL_o (by decide) (by decide), hco _ (by decide), hco _ (by decide)]
            exact hE k hk7
      · have c2 := c1 σ5 hVC
        have vc := hVC.w L
        have hMs : MV 67 (eC 6 (st (wrL 56 55 1 σ5 0 L) 55 0 1)) N z wt tx := hM.fr (by rw [eC_c (by decide), st_c (by decide), wrL_o (by decide) (by decide), hco _ (by decide)])
        have vm := (hVM _ hMs).w L
        refine ⟨(-1000000000) - nI 6, eC 6 (st (wrL 56 55 1 σ5 0 L) 55 0 1), _, cc (ob_i (r := r) (σ := st (wrL 56 55 1 σ5 0 L) 55 0 1) ?_ (ite_n (by rw [st_s]; decide) (ob_i (p_failing (k := 6) (by decide)) rfl))), mm _ hMs (m1 _ (hVM _ hMs)) (ite_n (by rw [st_s]; decide) (ob_i (p_error (k := 6) (by decide)) rfl)), ?_⟩
        · show ol (st σ 55 3 (nI (N 1 h))) _ = _
          refine ol_i (ol_i (ol_i (ol_i (ol_i ?_))))
          rw [hσ5]
          exact ob_id c2
        · refine keep L (eC 6 (st (wrL 56 55 1 σ5 0 L) 55 0 1)) _ hl (fun q q1 q2 q3 => by rw [eC_c q3, st_c q1, wrL_o q2 q1, hco q q1]) (by rw [eC_c (by decide), st_c (by decide)]) (by rw [eC_c (by decide), st_k (by decide), vc.2.1, Nat.zero_add]) (fun q k q1 q2 q3 => ?_) (by rw [eM_c (by decide), st_c (by decide)]) (by rw [eM_c (by decide), st_k (by decide), vm.1, Nat.zero_add]) (fun k hk7 => ?_)
          · rw [eM_c q1]
            by_cases e : q = 66
            · subst e
              rw [st_k (by omega), wrL_k (by decide) (by omega), st_k (by omega), st_k (by omega), st_k (by omega)]
            · rw [st_c e, wrL_o q3 e, st_c e, st_c e, st_c e]
          · have a1 : ∀ k, (st (wrL 56 55 1 σ5 0 L) 55 0 1) 65 k = σ 65 k := fun k => by rw [st_c (by decide), wrL_o (by decide) (by decide), hco _ (by decide)]
            have a2 : ∀ k, (st (wrL 75 66 14 (st (st (st (eC 6 (st (wrL 56 55 1 σ5 0 L) 55 0 1)) 66 14 0) 66 16 (nI h)) 66 17 0) 0 L) 66 17 1) 69 k = σ 69 k := fun k => by rw [st_c (by decide), wrL_o (by decide) (by decide), st_c (by decide), st_c (by decide), st_c (by decide), eC_c (by decide), st_c (by decide), wrL_o (by decide) (by decide), hco _ (by decide)]
            rw [eM_c (by decide), st_c (by decide), wrL_o (by decide) (by decide), st_c (by decide), st_c (by decide), st_c (by decide)]
            have b1 : ∀ s : St, eC 6 s 65 k = if k = 6 then s 65 6 + 1 else s 65 k := fun s => by
              unfold eC
              rw [st_e]
              by_cases e : k = 6
              · rw [if_pos ⟨rfl, e⟩, if_pos e]
              · rw [if_neg (fun q => e q.2), if_neg e]
            have b2 : ∀ s : St, eM 6 s 69 k = if k = 6 then s 69 6 + 1 else s 69 k := fun s => by
              unfold eM
              rw [st_e]
              by_cases e : k = 6
              · rw [if_pos ⟨rfl, e⟩, if_pos e]
              · rw [if_neg (fun q => e q.2), if_neg e]
            rw [b1, b2]
            by_cases e : k = 6
            · rw [if_pos e, if_pos e, a1, a2, hE 6 (by decide)]
            · rw [if_neg e, if_neg e, a1, a2, hE k hk7]
    · refine P_err (FC := f_X6_voice (nI h) x1 x2) (FM := f_X7_voice (nI h) x1 x2) (k := 1) hI (ob_i (hasHouse_t hC.n h10 hv) (ite_n (by decide) ?_)) (ob_i (m_isHouse_t (by rw [eC_c (by decide)]; exact hM.n) h10 hv) (ite_n (by decide) (ob_i (in_f hw (by decide) rfl rfl) (ite_p rfl (ob_i (p_error (k := 1) (by decide)) rfl)))))
      by_cases h0 : x1 < 0
      · exact ite_p h0 (cb σ)
      · refine ite_n h0 (ite_n ?_ (cb σ))
        rw [isR_iff (by decide)] at hw
        rw [f_lt, show (0 : Int32).toInt = 0 from rfl] at h0
        rw [f_lt, show (4 : Int32).toInt = 4 from rfl]
        omega
  · exact P_err (FC := f_X6_voice x0 x1 x2) (FM := f_X7_voice x0 x1 x2) (k := 1) hI (ob_i (hasHouse_f hC.n h10 hv) (ite_p rfl (cb σ))) (ob_i (m_isHouse_f (by rw [eC_c (by decide)]; exact hM.n) h10 hv) (ite_p rfl (ob_i (p_error (k := 1) (by decide)) rfl)))
