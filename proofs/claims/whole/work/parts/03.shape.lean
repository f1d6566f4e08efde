/-! The world behind the two constructors: 80 cells. Laid by wip/whole/shape.py -/
abbrev St : Type := Nat → Nat → Int32
abbrev Gm : Type := (Nat → Nat) × va_G × (ClassId × ClassId) × (Nat → Nat)
def nW : Nat := 80
def alen (q : Nat) : Nat := [0, 0, 0, 60, 0, 60, 60, 2, 60, 10, 10, 10, 10, 24, 0, 0, 60, 0, 60, 60, 2, 60, 10, 10, 10, 10, 24, 0, 60, 60, 0, 0, 121, 121, 121, 121, 121, 121, 121, 121, 121, 121, 0, 121, 121, 121, 121, 121, 121, 121, 121, 121, 121, 10, 10, 0, 30, 0, 0, 24, 24, 24, 24, 4, 4, 7, 0, 382, 382, 7, 124, 128, 64, 1210, 10, 30, 4, 4, 96, 24].getD q 0
abbrev clsL : List vw_C := [(RX0, TX0, 5), (RX1, TX1, 6), (RX2, TX2, 3), (RX3, TX3, 11), (RX4, TX4, 5), (RX5, TX5, 6), (RX6, TX6, 8), (RX7, TX7, 22)]
def fs_0 (Γ : Gm) (r : Nat → Int32) : List Value := [.ref (Γ.1 1), .ref (Γ.1 14), .ref (Γ.1 27), .ref (Γ.1 30), .ref (Γ.1 55), .ref (Γ.1 57), .ref (Γ.1 65), .int (r 7)]
def fs_1 (Γ : Gm) (r : Nat → Int32) : List Value := [.ref (Γ.1 2), .int (r 1), .int (r 2), .int (r 3), .int (r 4), .int (r 5), .ref (Γ.1 9), .ref (Γ.1 10), .ref (Γ.1 11), .ref (Γ.1 12), .ref (Γ.1 13)]
def fs_2 (Γ : Gm) (r : Nat → Int32) : List Value := [.ref (Γ.1 3), .int (r 1), .ref (Γ.1 4), .ref (Γ.1 7), .ref (Γ.1 8)]
def fs_14 (Γ : Gm) (r : Nat → Int32) : List Value := [.ref (Γ.1 15), .int (r 1), .int (r 2), .int (r 3), .int (r 4), .int (r 5), .ref (Γ.1 22), .ref (Γ.1 23), .ref (Γ.1 24), .ref (Γ.1 25), .ref (Γ.1 26)]
def fs_15 (Γ : Gm) (r : Nat → Int32) : List Value := [.ref (Γ.1 16), .int (r 1), .ref (Γ.1 17), .ref (Γ.1 20), .ref (Γ.1 21)]
def fs_27 (Γ : Gm) (r : Nat → Int32) : List Value := [.ref (Γ.1 28), .int (r 1), .ref (Γ.1 29), .int (r 3), .int (r 4), .int (r 5)]
def fs_30 (Γ : Gm) (r : Nat → Int32) : List Value := [.int (r 0), .ref (Γ.1 31), .ref (Γ.1 42), .ref (Γ.1 53), .ref (Γ.1 54)]
def fs_55 (Γ : Gm) (r : Nat → Int32) : List Value := [.int (r 0), .int (r 1), .ref (Γ.1 56), .int (r 3), .int (r 4), .int (r 5)]
def fs_57 (Γ : Gm) (r : Nat → Int32) : List Value := [.ref (Γ.1 58), .ref (Γ.1 63), .ref (Γ.1 64)]
def fs_66 (Γ : Gm) (r : Nat → Int32) : List Value := [.ref (Γ.1 67), .ref (Γ.1 68), .int (r 2), .ref (Γ.1 69), .int (r 4), .int (r 5), .int (r 6), .int (r 7), .ref (Γ.1 70), .ref (Γ.1 71), .ref (Γ.1 72), .ref (Γ.1 73), .ref (Γ.1 74), .int (r 13), .int (r 14), .ref (Γ.1 75), .int (r 16), .int (r 17), .ref (Γ.1 76), .ref (Γ.1 77), .ref (Γ.1 78), .ref (Γ.1 79)]
def oel (Γ : Gm) (q : Nat) (r : Nat → Int32) : va_E := if q = 0 then .inr (6, fs_0 Γ r) else if q = 1 then .inr (3, fs_1 Γ r) else if q = 2 then .inr (0, fs_2 Γ r) else if q = 4 then .inl (Γ.2.2.1.2, 2, .inr (.inr (.inr (.inr (fun i => if i < 2 then some (Γ.1 (5 + i)) else none))))) else if q = 14 then .inr (3, fs_14 Γ r) else if q = 15 then .inr (0, fs_15 Γ r) else if q = 17 then .inl (Γ.2.2.1.2, 2, .inr (.inr (.inr (.inr (fun i => if i < 2 then some (Γ.1 (18 + i)) else none))))) else if q = 27 then .inr (1, fs_27 Γ r) else if q = 30 then .inr (4, fs_30 Γ r) else if q = 31 then .inl (Γ.2.2.1.2, 10, .inr (.inr (.inr (.inr (fun i => if i < 10 then some (Γ.1 (32 + i)) else none))))) else if q = 42 then .inl (Γ.2.2.1.2, 10, .inr (.inr (.inr (.inr (fun i => if i < 10 then some (Γ.1 (43 + i)) else none))))) else if q = 55 then .inr (5, fs_55 Γ r) else if q = 57 then .inr (2, fs_57 Γ r) else if q = 58 then .inl (Γ.2.2.1.2, 4, .inr (.inr (.inr (.inr (fun i => if i < 4 then some (Γ.1 (59 + i)) else none))))) else if q = 66 then .inr (7, fs_66 Γ r) else .inl (Γ.2.2.1.1, 0, .inl r)
def el (Γ : Gm) (q : Nat) (r : Nat → Int32) : va_E := if alen q = 0 then oel Γ q r else .inl (Γ.2.2.1.1, alen q, .inl r)
theorem el_0 (Γ : Gm) (r : Nat → Int32) : el Γ 0 r = .inr (6, fs_0 Γ r) := rfl
theorem el_1 (Γ : Gm) (r : Nat → Int32) : el Γ 1 r = .inr (3, fs_1 Γ r) := rfl
theorem el_2 (Γ : Gm) (r : Nat → Int32) : el Γ 2 r = .inr (0, fs_2 Γ r) := rfl
theorem el_4 (Γ : Gm) (r : Nat → Int32) : el Γ 4 r = .inl (Γ.2.2.1.2, 2, .inr (.inr (.inr (.inr (fun i => if i < 2 then some (Γ.1 (5 + i)) else none))))) := rfl
theorem el_14 (Γ : Gm) (r : Nat → Int32) : el Γ 14 r = .inr (3, fs_14 Γ r) := rfl
theorem el_15 (Γ : Gm) (r : Nat → Int32) : el Γ 15 r = .inr (0, fs_15 Γ r) := rfl
theorem el_17 (Γ : Gm) (r : Nat → Int32) : el Γ 17 r = .inl (Γ.2.2.1.2, 2, .inr (.inr (.inr (.inr (fun i => if i < 2 then some (Γ.1 (18 + i)) else none))))) := rfl
theorem el_27 (Γ : Gm) (r : Nat → Int32) : el Γ 27 r = .inr (1, fs_27 Γ r) := rfl
theorem el_30 (Γ : Gm) (r : Nat → Int32) : el Γ 30 r = .inr (4, fs_30 Γ r) := rfl
theorem el_31 (Γ : Gm) (r : Nat → Int32) : el Γ 31 r = .inl (Γ.2.2.1.2, 10, .inr (.inr (.inr (.inr (fun i => if i < 10 then some (Γ.1 (32 + i)) else none))))) := rfl
theorem el_42 (Γ : Gm) (r : Nat → Int32) : el Γ 42 r = .inl (Γ.2.2.1.2, 10, .inr (.inr (.inr (.inr (fun i => if i < 10 then some (Γ.1 (43 + i)) else none))))) := rfl
theorem el_55 (Γ : Gm) (r : Nat → Int32) : el Γ 55 r = .inr (5, fs_55 Γ r) := rfl
theorem el_57 (Γ : Gm) (r : Nat → Int32) : el Γ 57 r = .inr (2, fs_57 Γ r) := rfl
theorem el_58 (Γ : Gm) (r : Nat → Int32) : el Γ 58 r = .inl (Γ.2.2.1.2, 4, .inr (.inr (.inr (.inr (fun i => if i < 4 then some (Γ.1 (59 + i)) else none))))) := rfl
theorem el_66 (Γ : Gm) (r : Nat → Int32) : el Γ 66 r = .inr (7, fs_66 Γ r) := rfl
def tysL (Γ : Gm) : List (ClassId × FieldType) := [(Γ.2.2.1.1, .int), (Γ.2.2.1.2, .array .int)]
theorem alen_lt {q : Nat} (h : alen q ≠ 0) : q < nW := by
  rcases Nat.lt_or_ge q nW with g | g
  · exact g
  · exact absurd (by unfold alen; rw [List.getD_eq_getElem?_getD, List.getElem?_eq_none (by exact g)]; rfl) h
theorem al_4 : ∀ i : Nat, i < 2 → alen (5 + i) = 60 := by decide
theorem al_17 : ∀ i : Nat, i < 2 → alen (18 + i) = 60 := by decide
theorem al_31 : ∀ i : Nat, i < 10 → alen (32 + i) = 121 := by decide
theorem al_42 : ∀ i : Nat, i < 10 → alen (43 + i) = 121 := by decide
theorem al_58 : ∀ i : Nat, i < 4 → alen (59 + i) = 24 := by decide
def tKA (i : Nat) : Int32 := ([-1, 0, 0, 0, 1, 2, 0] : List Int32).getD i 0
def tNA (i : Nat) : Int32 := ([104, 121, 111, 121, 98, 115] : List Int32).getD i 0
def tBO (i : Nat) : Int32 := ([10, 11, 12, 13, 20, 0, 0, 21, 0, 30, 0, 0, 0, 0, 40, 0, 50, 0, 51, 0, 0, 60, 0, 0, 70, 71, 0, 0] : List Int32).getD i 0
