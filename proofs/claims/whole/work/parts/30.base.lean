/-! The numbers alone: what both sides' states say, and rows to work them with -/
theorem lit (n : Nat) : (OfNat.ofNat n : Int32) = nI n := rfl
theorem ite_p {α : Type} {c : Prop} [Decidable c] {a b x : α} (hc : c) (h : a = x) : (if c then a else b) = x := by rw [if_pos hc, h]
theorem ite_n {α : Type} {c : Prop} [Decidable c] {a b x : α} (hc : ¬ c) (h : b = x) : (if c then a else b) = x := by rw [if_neg hc, h]
theorem ob_s {α : Type} {r : Int32} {σ : St} {k : Int32 → St → Option α} : ob (some (r, σ)) k = k r σ := rfl
theorem ob_i {α : Type} {x : Option (Int32 × St)} {r : Int32} {σ : St} {k : Int32 → St → Option α} {y : Option α} (h : x = some (r, σ)) (h2 : k r σ = y) : ob x k = y := by rw [h]; exact h2
theorem ol_i {α β : Type} {a : α} {k : α → β} {y : β} (h : k a = y) : ol a k = y := h
theorem nI_nn {n : Nat} (h : n < 2 ^ 31) : ¬ nI n < 0 := nI_pos h
theorem inb_i {i n : Nat} (h : i < n) (hn : n < 2 ^ 31) : inb (nI i) n := vp_in_nI h hn
theorem st_c {σ : St} {q k q' : Nat} {v : Int32} (h : q' ≠ q) : st σ q k v q' = σ q' := if_neg h
theorem st_s {σ : St} {q k : Nat} {v : Int32} : st σ q k v q k = v := by simp [st, sR, upd]
theorem st_k {σ : St} {q k k' : Nat} {v : Int32} (h : k' ≠ k) : st σ q k v q k' = σ q k' := by simp [st, sR, upd, h]
theorem st_e {σ : St} {q k q' k' : Nat} {v : Int32} : st σ q k v q' k' = if q' = q ∧ k' = k then v else σ q' k' := by
  by_cases h : q' = q
  · subst h
    by_cases h2 : k' = k
    · subst h2; rw [st_s, if_pos ⟨rfl, rfl⟩]
    · rw [st_k h2, if_neg (fun h => h2 h.2)]
  · rw [st_c h, if_neg (fun h2 => h h2.1)]
theorem sR_s {σ : St} {q : Nat} {r : Nat → Int32} : sR σ q r q = r := if_pos rfl
theorem sR_c {σ : St} {q q' : Nat} {r : Nat → Int32} (h : q' ≠ q) : sR σ q r q' = σ q' := if_neg h
/-- σ1 is σ but where P says -/
def Eqo (P : Nat → Nat → Bool) (σ σ1 : St) : Prop := ∀ q k : Nat, P q k = false → σ1 q k = σ q k
theorem Eqo.rf {P : Nat → Nat → Bool} {σ : St} : Eqo P σ σ := fun _ _ _ => rfl
theorem Eqo.tr {P : Nat → Nat → Bool} {σ σ1 σ2 : St} (h : Eqo P σ σ1) (h2 : Eqo P σ1 σ2) : Eqo P σ σ2 := fun q k hp => (h2 q k hp).trans (h q k hp)
theorem Eqo.st {P : Nat → Nat → Bool} {σ σ1 : St} {q k : Nat} {v : Int32} (h : Eqo P σ σ1) (hp : P q k = true) : Eqo P σ (st σ1 q k v) := fun q' k' hp' => by
  rw [st_e, if_neg (fun e => by rw [e.1, e.2, hp] at hp'; cases hp')]
  exact h q' k' hp'
theorem Eqo.mono {P P2 : Nat → Nat → Bool} {σ σ1 : St} (h : Eqo P σ σ1) (hp : ∀ q k, P q k = true → P2 q k = true) : Eqo P2 σ σ1 := fun q k h2 => h q k (by
  cases hq : P q k with
  | false => rfl
  | true => rw [hp q k hq] at h2; cases h2)
/-- cells of which nothing is kept from call to call -/
def scr (q k : Nat) : Bool := q == 8 || q == 21 || (27 ≤ q && q ≤ 54) || (q == 55 && !(k == 1)) || (q == 66 && !(k == 2) && !(k == 14)) || (70 ≤ q && q ≤ 74) || q == 79
/-- a text's steps: how many values stand behind the first j -/
def sdep (x : Nat → Int32) : Nat → Nat
  | 0 => 0
  | j + 1 => if 0 ≤ x j then sdep x j + 1 else if x j = -33 then sdep x j else sdep x j - 1
def isSg (c : Int32) : Prop := c = -124 ∨ c = -38 ∨ c = -60 ∨ c = -61 ∨ c = -62 ∨ c = -43 ∨ c = -45 ∨ c = -42 ∨ c = -47 ∨ c = -37
def wfT (x : Nat → Int32) (n : Nat) : Prop := (∀ j, j < n → (∃ v : Nat, v < 10003 ∧ x j = nI v) ∨ (x j = -33 ∧ 1 ≤ sdep x j) ∨ (isSg (x j) ∧ 2 ≤ sdep x j)) ∧ sdep x n = 1
def mW (c : Int32) : Int32 := if 10000 ≤ c then 1 else if 0 ≤ c then 0 else if c = -33 then 2 else 3
def mA (u : Nat) (c : Int32) : Int32 := if 10000 ≤ c then tNA (3 * u + (c - 10000).toNatClampNeg) else if 0 ≤ c then c else if c = -33 then 0 else -c
/-- what the class's street says -/
def CV (o : Nat) (σ : St) (N : Nat → Nat → Nat) (z : Int32) (wt : Nat → Int32) (tx : Nat → Nat → Int32) : Prop :=
  σ (1 + o) 1 = nI (N 0 0) ∧ σ (1 + o) 2 = nI (N 0 1) ∧ σ (1 + o) 3 = nI (N 0 2) ∧ σ (1 + o) 4 = z ∧ σ (1 + o) 5 = nI (N 0 3) ∧ σ (2 + o) 1 = nI (N 0 4) ∧
  (∀ h, h < N 0 0 → σ (9 + o) h = nI (N 1 h) ∧ σ (10 + o) h = nI (N 2 h) ∧ σ (11 + o) h = nI (N 3 h) ∧ σ (12 + o) h = nI (N 5 h)) ∧
  (∀ i, i < N 0 3 → σ (13 + o) i = wt i) ∧ (∀ i, i < N 0 4 → σ (3 + o) i = nI (N 6 i)) ∧
  (∀ u, u < 2 → σ (7 + o) u = nI (N 7 u) ∧ ∀ j, j < N 7 u → σ (5 + o + u) j = tx u j)
/-- what the reference's row says -/
def MV (M : Nat) (σ : St) (N : Nat → Nat → Nat) (z : Int32) (wt : Nat → Int32) (tx : Nat → Nat → Int32) : Prop :=
  σ M 5 = nI (N 0 0) ∧ σ M 0 = nI (N 0 1) ∧ σ M 1 = nI (N 0 2) ∧ σ M 2 = z ∧ σ M 4 = nI (N 0 3) ∧ σ M 3 = nI (N 0 4) ∧
  (∀ h, h < N 0 0 → σ M (8 + 4 * h) = nI (N 1 h) ∧ σ M (9 + 4 * h) = nI (N 2 h) ∧ σ M (10 + 4 * h) = nI (N 3 h) ∧ σ M (11 + 4 * h) = nI (N 4 h)) ∧
  (∀ i, i < N 0 3 → σ M (358 + i) = wt i) ∧ (∀ i, i < N 0 4 → σ M (298 + i) = nI (N 6 i)) ∧
  (∀ u, u < 2 → σ M (48 + 125 * u) = nI (N 7 u) ∧ ∀ j, j < N 7 u → σ M (49 + 125 * u + 2 * j) = mW (tx u j) ∧ σ M (50 + 125 * u + 2 * j) = mA u (tx u j))
def OKN (N : Nat → Nat → Nat) (tx : Nat → Nat → Int32) : Prop :=
  N 0 0 ≤ 10 ∧ N 0 1 ≤ 9999 ∧ N 0 2 ≤ 99999 ∧ N 0 3 ≤ 24 ∧ N 0 4 ≤ 60 ∧
  (∀ h, h < N 0 0 → N 1 h < 7 ∧ N 2 h < 10 ∧ 1 ≤ N 3 h ∧ N 3 h ≤ 999 ∧ N 4 h < N 0 0 ∧ N 5 h < N 0 0 ∧ N 5 (N 4 h) = h ∧ N 4 (N 5 h) = h) ∧
  (∀ i, i < N 0 4 → N 6 i < 256) ∧ (∀ u, u < 2 → N 7 u ≤ 60 ∧ (N 7 u ≠ 0 → wfT (tx u) (N 7 u)))
def IMain (o M : Nat) (σ : St) : Prop := ∃ N z wt tx, CV o σ N z wt tx ∧ MV M σ N z wt tx ∧ OKN N tx
def IErr (σ : St) : Prop := ∀ k, k < 7 → σ 65 k = σ 69 k
def ITra (σ : St) : Prop := ∃ t : Nat, t ≤ 30 ∧ σ 55 1 = nI t ∧ σ 66 14 = nI t ∧ ∀ i, i < t → σ 56 i = σ 75 i
def ISh (σ : St) : Prop := ∃ w z : Nat → Nat, ∀ s, s < 4 → (w s = 0 ∨ w s = 8 ∨ w s = 16 ∨ w s = 32) ∧ z s ≤ 24 ∧ σ 63 s = nI (w s) ∧ σ 76 s = nI (w s) ∧ σ 64 s = nI (z s) ∧ σ 77 s = nI (z s) ∧ ∀ i, i < 24 → σ (59 + s) i = σ 78 (24 * s + i)
def IImg (σ : St) : Prop := σ 0 7 = σ 66 2 ∧ (σ 0 7 ≠ 0 → IMain 13 68 σ)
def Inv (σ : St) : Prop := IMain 0 67 σ ∧ IErr σ ∧ ITra σ ∧ ISh σ ∧ IImg σ
theorem Inv_0 : Inv σ0 := by
  have e : ∀ q k, σ0 q k = if (q = 67 ∧ k = 2) ∨ (q = 14 ∧ k = 4) ∨ (q = 1 ∧ k = 4) then 1 else 0 := by
    intro q k
    unfold σ0
    rw [st_e, st_e, st_e]
    by_cases h1 : q = 67 ∧ k = 2
    · rw [if_pos h1, if_pos (Or.inl h1)]
    · rw [if_neg h1]
      by_cases h2 : q = 14 ∧ k = 4
      · rw [if_pos h2, if_pos (Or.inr (Or.inl h2))]
      · rw [if_neg h2]
        by_cases h3 : q = 1 ∧ k = 4
        · rw [if_pos h3, if_pos (Or.inr (Or.inr h3))]
        · rw [if_neg h3, if_neg (fun h => by rcases h with h | h | h; exact h1 h; exact h2 h; exact h3 h)]
  refine ⟨⟨fun _ _ => 0, 1, fun _ => 0, fun _ _ => 0, ?_, ?_, ?_⟩, ?_, ?_, ?_, ?_⟩
  · refine ⟨?_, ?_, ?_, ?_, ?_, ?_, fun h hh => absurd hh (Nat.not_lt_zero _), fun h hh => absurd hh (Nat.not_lt_zero _), fun h hh => absurd hh (Nat.not_lt_zero _), fun u hu => ⟨?_, fun h hh => absurd hh (Nat.not_lt_zero _)⟩⟩ <;> (rw [e]; first | rfl | (rw [if_neg (by omega)]; rfl))
  · refine ⟨?_, ?_, ?_, ?_, ?_, ?_, fun h hh => absurd hh (Nat.not_lt_zero _), fun h hh => absurd hh (Nat.not_lt_zero _), fun h hh => absurd hh (Nat.not_lt_zero _), fun u hu => ⟨?_, fun h hh => absurd hh (Nat.not_lt_zero _)⟩⟩ <;> (rw [e]; first | rfl | (rw [if_neg (by omega)]; rfl))
  · exact ⟨by decide, by decide, by decide, by decide, by decide, fun h hh => absurd hh (Nat.not_lt_zero _), fun h hh => absurd hh (Nat.not_lt_zero _), fun u hu => ⟨Nat.zero_le _, fun h => absurd rfl h⟩⟩
  · intro k hk
    rw [e, e, if_neg (by omega), if_neg (by omega)]
  · exact ⟨0, by decide, by rw [e]; rfl, by rw [e]; rfl, fun i hi => absurd hi (Nat.not_lt_zero _)⟩
  · refine ⟨fun _ => 0, fun _ => 0, fun s hs => ⟨Or.inl rfl, Nat.zero_le _, ?_, ?_, ?_, ?_, fun i hi => ?_⟩⟩
    · rw [e, if_neg (by omega)]; rfl
    · rw [e, if_neg (by omega)]; rfl
    · rw [e, if_neg (by omega)]; rfl
    · rw [e, if_neg (by omega)]; rfl
    · rw [e, e, if_neg (by omega), if_neg (by omega)]
  · refine ⟨by rw [e, e]; rfl, fun h => absurd (by rw [e]; rfl) h⟩
