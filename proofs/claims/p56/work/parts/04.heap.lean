/-- the String constants: whose, which entry, which text -/
def stT : List (String × Nat × String) := [("NotaryBook", 516, "the buffer has not so many bytes"), ("NotaryBook$Parser", 79, "book"), ("NotaryBook$Parser", 105, "act"), ("NotaryBook$Parser", 166, "sale"), ("NotaryBook$Parser", 168, "will"), ("NotaryBook$Parser", 170, "loan"), ("NotaryBook$Parser", 110, "strike"), ("NotaryBook$Parser", 115, "out"), ("NotaryBook$Parser", 120, "insert"), ("NotaryBook$Parser", 125, "seal"), ("NotaryBook$Parser", 130, "cancel"), ("NotaryBook$Parser", 135, "copy"), ("NotaryBook$Parser", 140, "shake"), ("NotaryBook$Parser", 234, "lose"), ("NotaryBook$Parser", 236, "find"), ("NotaryBook$Parser", 238, "sew"), ("NotaryBook", 80, "the text is no book"), ("NotaryBook", 514, "no text was loaded"), ("NotaryBook", 518, "a number is out of its range"), ("NotaryBook", 520, "there is no such act"), ("NotaryBook", 526, "there is no such word"), ("NotaryBook", 537, "there is no such leaf"), ("NotaryBook", 528, "there is no such copy"), ("NotaryBook", 343, "there is no such word of an open act"), ("NotaryBook", 351, "the word is in no clause"), ("NotaryBook", 439, "the word can not be struck"), ("NotaryBook", 444, "there is no such word in a clause of an open act"), ("NotaryBook", 452, "the bytes can not be interlined there"), ("NotaryBook", 457, "the act can not be sealed"), ("NotaryBook", 462, "no act is open"), ("NotaryBook", 467, "the act can not be copied"), ("NotaryBook", 539, "the leaf is not so"), ("NotaryBook", 541, "there is no such slot"), ("NotaryBook", 512, "nothing is saved there"), ("NotaryBookLaw", 57, "book "), ("NotaryBookLaw$Act", 16, ""), ("NotaryBookLaw$Desk", 142, "deedlandsumsheir"), ("java/lang/StringLatin1", 151, ""), ("java/lang/StringUTF16", 295, ""), ("NotaryBookLaw$Word", 7, ""), ("NotaryBookLaw", 72, ";act "), ("NotaryBookLaw", 77, "salewillloan"), ("NotaryBookLaw", 110, ";strike 0"), ("NotaryBookLaw", 112, "^ad"), ("NotaryBookLaw", 117, ";insert 1 ad;seal 1 "), ("NotaryBookLaw", 134, ";act loan "), ("NotaryBookLaw", 248, "in")]
def nSt : Nat := 47
def bySL : List (List Int32) := [[116, 104, 101, 32, 98, 117, 102, 102, 101, 114, 32, 104, 97, 115, 32, 110, 111, 116, 32, 115, 111, 32, 109, 97, 110, 121, 32, 98, 121, 116, 101, 115], [98, 111, 111, 107], [97, 99, 116], [115, 97, 108, 101], [119, 105, 108, 108], [108, 111, 97, 110], [115, 116, 114, 105, 107, 101], [111, 117, 116], [105, 110, 115, 101, 114, 116], [115, 101, 97, 108], [99, 97, 110, 99, 101, 108], [99, 111, 112, 121], [115, 104, 97, 107, 101], [108, 111, 115, 101], [102, 105, 110, 100], [115, 101, 119], [116, 104, 101, 32, 116, 101, 120, 116, 32, 105, 115, 32, 110, 111, 32, 98, 111, 111, 107], [110, 111, 32, 116, 101, 120, 116, 32, 119, 97, 115, 32, 108, 111, 97, 100, 101, 100], [97, 32, 110, 117, 109, 98, 101, 114, 32, 105, 115, 32, 111, 117, 116, 32, 111, 102, 32, 105, 116, 115, 32, 114, 97, 110, 103, 101], [116, 104, 101, 114, 101, 32, 105, 115, 32, 110, 111, 32, 115, 117, 99, 104, 32, 97, 99, 116], [116, 104, 101, 114, 101, 32, 105, 115, 32, 110, 111, 32, 115, 117, 99, 104, 32, 119, 111, 114, 100], [116, 104, 101, 114, 101, 32, 105, 115, 32, 110, 111, 32, 115, 117, 99, 104, 32, 108, 101, 97, 102], [116, 104, 101, 114, 101, 32, 105, 115, 32, 110, 111, 32, 115, 117, 99, 104, 32, 99, 111, 112, 121], [116, 104, 101, 114, 101, 32, 105, 115, 32, 110, 111, 32, 115, 117, 99, 104, 32, 119, 111, 114, 100, 32, 111, 102, 32, 97, 110, 32, 111, 112, 101, 110, 32, 97, 99, 116], [116, 104, 101, 32, 119, 111, 114, 100, 32, 105, 115, 32, 105, 110, 32, 110, 111, 32, 99, 108, 97, 117, 115, 101], [116, 104, 101, 32, 119, 111, 114, 100, 32, 99, 97, 110, 32, 110, 111, 116, 32, 98, 101, 32, 115, 116, 114, 117, 99, 107], [116, 104, 101, 114, 101, 32, 105, 115, 32, 110, 111, 32, 115, 117, 99, 104, 32, 119, 111, 114, 100, 32, 105, 110, 32, 97, 32, 99, 108, 97, 117, 115, 101, 32, 111, 102, 32, 97, 110, 32, 111, 112, 101, 110, 32, 97, 99, 116], [116, 104, 101, 32, 98, 121, 116, 101, 115, 32, 99, 97, 110, 32, 110, 111, 116, 32, 98, 101, 32, 105, 110, 116, 101, 114, 108, 105, 110, 101, 100, 32, 116, 104, 101, 114, 101], [116, 104, 101, 32, 97, 99, 116, 32, 99, 97, 110, 32, 110, 111, 116, 32, 98, 101, 32, 115, 101, 97, 108, 101, 100], [110, 111, 32, 97, 99, 116, 32, 105, 115, 32, 111, 112, 101, 110], [116, 104, 101, 32, 97, 99, 116, 32, 99, 97, 110, 32, 110, 111, 116, 32, 98, 101, 32, 99, 111, 112, 105, 101, 100], [116, 104, 101, 32, 108, 101, 97, 102, 32, 105, 115, 32, 110, 111, 116, 32, 115, 111], [116, 104, 101, 114, 101, 32, 105, 115, 32, 110, 111, 32, 115, 117, 99, 104, 32, 115, 108, 111, 116], [110, 111, 116, 104, 105, 110, 103, 32, 105, 115, 32, 115, 97, 118, 101, 100, 32, 116, 104, 101, 114, 101], [98, 111, 111, 107, 32], [], [100, 101, 101, 100, 108, 97, 110, 100, 115, 117, 109, 115, 104, 101, 105, 114], [], [], [], [59, 97, 99, 116, 32], [115, 97, 108, 101, 119, 105, 108, 108, 108, 111, 97, 110], [59, 115, 116, 114, 105, 107, 101, 32, 48], [94, 97, 100], [59, 105, 110, 115, 101, 114, 116, 32, 49, 32, 97, 100, 59, 115, 101, 97, 108, 32, 49, 32], [59, 97, 99, 116, 32, 108, 111, 97, 110, 32], [105, 110]]
def byS (j : Nat) : List Int32 := bySL.getD j []
/-! THE CLEAN HEAP: cells by their order of making, each slot typed; what is given of constants lies from BIG on -/
def BIG : Nat := 1000000
abbrev HpT : Type := Nat × (Nat → Nat) × (Nat → Nat) × (Nat → Nat → Int32) × (Nat → Nat → Int64) × (Nat → Nat → Option Nat) × Nat × (Nat → Int32)
/-- the constants: a String is BIG + j, its bytes BIG + 100 + j, the tables of digits BIG + 200, BIG + 201, the empty row of objects BIG + 203, the script BIG + 204, the Unsafe BIG + 205; the script's length and numbers are the last two parts of a heap -/
def cK (a : Nat) : Nat := if a < BIG then 99 else if a < BIG + nSt then 15 else if a < BIG + 100 then 99 else if a < BIG + 100 + nSt then 22 else if a = BIG + 200 ∨ a = BIG + 201 then 22 else if a = BIG + 203 then 24 else if a = BIG + 204 then 20 else if a = BIG + 205 then 16 else 99
def cZ (a : Nat) : Nat := if a < BIG + 200 then (byS (a - (BIG + 100))).length else if a = BIG + 203 then 0 else 100
def cI (a k : Nat) : Int32 := if a < BIG + 100 then 0 else if a < BIG + 200 then (byS (a - (BIG + 100))).getD k 0 else if a = BIG + 200 then Int32.ofNat (48 + k % 10) else Int32.ofNat (48 + k / 10 % 10)
def cR (a _k : Nat) : Option Nat := some (a + 100)
def hN (σ : HpT) : Nat := σ.1
def hK (σ : HpT) (a : Nat) : Nat := if a < σ.1 then σ.2.1 a else cK a
def hZ (σ : HpT) (a : Nat) : Nat := if a < σ.1 then σ.2.2.1 a else if a = BIG + 204 then σ.2.2.2.2.2.2.1 else cZ a
def hI (σ : HpT) (a k : Nat) : Int32 := if a < σ.1 then σ.2.2.2.1 a k else if a = BIG + 204 then σ.2.2.2.2.2.2.2 k else cI a k
def hJ (σ : HpT) (a k : Nat) : Int64 := if a < σ.1 then σ.2.2.2.2.1 a k else 0
def hR (σ : HpT) (a k : Nat) : Option Nat := if a < σ.1 then σ.2.2.2.2.2.1 a k else cR a k
def hD (_σ : HpT) (_a _k : Nat) : UInt64 := 0
def wI (σ : HpT) (a k : Nat) (x : Int32) : HpT := (σ.1, σ.2.1, σ.2.2.1, fun b j => if b = a ∧ j = k then x else σ.2.2.2.1 b j, σ.2.2.2.2.1, σ.2.2.2.2.2.1, σ.2.2.2.2.2.2)
def wJ (σ : HpT) (a k : Nat) (x : Int64) : HpT := (σ.1, σ.2.1, σ.2.2.1, σ.2.2.2.1, fun b j => if b = a ∧ j = k then x else σ.2.2.2.2.1 b j, σ.2.2.2.2.2.1, σ.2.2.2.2.2.2)
def wR (σ : HpT) (a k : Nat) (x : Option Nat) : HpT := (σ.1, σ.2.1, σ.2.2.1, σ.2.2.2.1, σ.2.2.2.2.1, fun b j => if b = a ∧ j = k then x else σ.2.2.2.2.2.1 b j, σ.2.2.2.2.2.2)
/-- a run of ints, of longs, over a cell -/
def wIr (σ : HpT) (a : Nat) (f : Nat → Int32) : HpT := (σ.1, σ.2.1, σ.2.2.1, fun b j => if b = a then f j else σ.2.2.2.1 b j, σ.2.2.2.2.1, σ.2.2.2.2.2.1, σ.2.2.2.2.2.2)
def wJr (σ : HpT) (a : Nat) (f : Nat → Int64) : HpT := (σ.1, σ.2.1, σ.2.2.1, σ.2.2.2.1, fun b j => if b = a then f j else σ.2.2.2.2.1 b j, σ.2.2.2.2.2.1, σ.2.2.2.2.2.2)
/-- a new cell -/
def wN (σ : HpT) (κ z : Nat) : HpT := (σ.1 + 1, fun b => if b = σ.1 then κ else σ.2.1 b, fun b => if b = σ.1 then z else σ.2.2.1 b, fun b j => if b = σ.1 then 0 else σ.2.2.2.1 b j, fun b j => if b = σ.1 then 0 else σ.2.2.2.2.1 b j, fun b j => if b = σ.1 then none else σ.2.2.2.2.2.1 b j, σ.2.2.2.2.2.2)
section HL
variable (σ : HpT) (a b k j : Nat)
theorem hN_wI (x : Int32) : hN (wI σ a k x) = hN σ := rfl
theorem hN_wJ (x : Int64) : hN (wJ σ a k x) = hN σ := rfl
theorem hN_wR (x : Option Nat) : hN (wR σ a k x) = hN σ := rfl
theorem hN_wIr (f : Nat → Int32) : hN (wIr σ a f) = hN σ := rfl
theorem hN_wJr (f : Nat → Int64) : hN (wJr σ a f) = hN σ := rfl
theorem hN_wN (κ z : Nat) : hN (wN σ κ z) = hN σ + 1 := rfl
theorem hK_wI (x : Int32) : hK (wI σ a k x) b = hK σ b := rfl
theorem hK_wJ (x : Int64) : hK (wJ σ a k x) b = hK σ b := rfl
theorem hK_wR (x : Option Nat) : hK (wR σ a k x) b = hK σ b := rfl
theorem hK_wIr (f : Nat → Int32) : hK (wIr σ a f) b = hK σ b := rfl
theorem hK_wJr (f : Nat → Int64) : hK (wJr σ a f) b = hK σ b := rfl
theorem hZ_wI (x : Int32) : hZ (wI σ a k x) b = hZ σ b := rfl
theorem hZ_wJ (x : Int64) : hZ (wJ σ a k x) b = hZ σ b := rfl
theorem hZ_wR (x : Option Nat) : hZ (wR σ a k x) b = hZ σ b := rfl
theorem hZ_wIr (f : Nat → Int32) : hZ (wIr σ a f) b = hZ σ b := rfl
theorem hZ_wJr (f : Nat → Int64) : hZ (wJr σ a f) b = hZ σ b := rfl
theorem hI_wJ (x : Int64) : hI (wJ σ a k x) b j = hI σ b j := rfl
theorem hI_wR (x : Option Nat) : hI (wR σ a k x) b j = hI σ b j := rfl
theorem hI_wJr (f : Nat → Int64) : hI (wJr σ a f) b j = hI σ b j := rfl
theorem hJ_wI (x : Int32) : hJ (wI σ a k x) b j = hJ σ b j := rfl
theorem hJ_wR (x : Option Nat) : hJ (wR σ a k x) b j = hJ σ b j := rfl
theorem hJ_wIr (f : Nat → Int32) : hJ (wIr σ a f) b j = hJ σ b j := rfl
theorem hR_wI (x : Int32) : hR (wI σ a k x) b j = hR σ b j := rfl
theorem hR_wJ (x : Int64) : hR (wJ σ a k x) b j = hR σ b j := rfl
theorem hR_wIr (f : Nat → Int32) : hR (wIr σ a f) b j = hR σ b j := rfl
theorem hR_wJr (f : Nat → Int64) : hR (wJr σ a f) b j = hR σ b j := rfl
theorem hD_wI (x : Int32) : hD (wI σ a k x) b j = hD σ b j := rfl
theorem hD_wJ (x : Int64) : hD (wJ σ a k x) b j = hD σ b j := rfl
theorem hD_wR (x : Option Nat) : hD (wR σ a k x) b j = hD σ b j := rfl
theorem hD_wIr (f : Nat → Int32) : hD (wIr σ a f) b j = hD σ b j := rfl
theorem hD_wJr (f : Nat → Int64) : hD (wJr σ a f) b j = hD σ b j := rfl
theorem hI_wI (x : Int32) (h : a < hN σ) : hI (wI σ a k x) b j = if b = a ∧ j = k then x else hI σ b j := by
  by_cases e : b = a ∧ j = k
  · rw [if_pos e]
    obtain ⟨rfl, rfl⟩ := e
    have h2 : b < σ.1 := h
    simp [hI, wI, h2]
  · rw [if_neg e]
    simp [hI, wI, e]
theorem hJ_wJ (x : Int64) (h : a < hN σ) : hJ (wJ σ a k x) b j = if b = a ∧ j = k then x else hJ σ b j := by
  by_cases e : b = a ∧ j = k
  · rw [if_pos e]
    obtain ⟨rfl, rfl⟩ := e
    have h2 : b < σ.1 := h
    simp [hJ, wJ, h2]
  · rw [if_neg e]
    simp [hJ, wJ, e]
theorem hR_wR (x : Option Nat) (h : a < hN σ) : hR (wR σ a k x) b j = if b = a ∧ j = k then x else hR σ b j := by
  by_cases e : b = a ∧ j = k
  · rw [if_pos e]
    obtain ⟨rfl, rfl⟩ := e
    have h2 : b < σ.1 := h
    simp [hR, wR, h2]
  · rw [if_neg e]
    simp [hR, wR, e]
theorem hI_wIr (f : Nat → Int32) (h : a < hN σ) : hI (wIr σ a f) b j = if b = a then f j else hI σ b j := by
  by_cases e : b = a
  · rw [if_pos e]
    subst e
    have h2 : b < σ.1 := h
    simp [hI, wIr, h2]
  · rw [if_neg e]
    simp [hI, wIr, e]
theorem hJ_wJr (f : Nat → Int64) (h : a < hN σ) : hJ (wJr σ a f) b j = if b = a then f j else hJ σ b j := by
  by_cases e : b = a
  · rw [if_pos e]
    subst e
    have h2 : b < σ.1 := h
    simp [hJ, wJr, h2]
  · rw [if_neg e]
    simp [hJ, wJr, e]
theorem hK_wN (κ z : Nat) : hK (wN σ κ z) b = if b = hN σ then κ else hK σ b := by
  by_cases e : b = σ.1
  · subst e
    simp [hK, wN, hN]
  · by_cases h : b < σ.1
    · have h2 : b < σ.1 + 1 := by omega
      simp [hK, wN, hN, e, h, h2]
    · have h2 : ¬ b < σ.1 + 1 := by omega
      simp [hK, wN, hN, e, h, h2]
theorem hZ_wN (κ z : Nat) : hZ (wN σ κ z) b = if b = hN σ then z else hZ σ b := by
  by_cases e : b = σ.1
  · subst e
    simp [hZ, wN, hN]
  · by_cases h : b < σ.1
    · have h2 : b < σ.1 + 1 := by omega
      simp [hZ, wN, hN, e, h, h2]
    · have h2 : ¬ b < σ.1 + 1 := by omega
      simp [hZ, wN, hN, e, h, h2]
theorem hI_wN (κ z : Nat) : hI (wN σ κ z) b j = if b = hN σ then 0 else hI σ b j := by
  by_cases e : b = σ.1
  · subst e
    simp [hI, wN, hN]
  · by_cases h : b < σ.1
    · have h2 : b < σ.1 + 1 := by omega
      simp [hI, wN, hN, e, h, h2]
    · have h2 : ¬ b < σ.1 + 1 := by omega
      simp [hI, wN, hN, e, h, h2]
theorem hJ_wN (κ z : Nat) : hJ (wN σ κ z) b j = if b = hN σ then 0 else hJ σ b j := by
  by_cases e : b = σ.1
  · subst e
    simp [hJ, wN, hN]
  · by_cases h : b < σ.1
    · have h2 : b < σ.1 + 1 := by omega
      simp [hJ, wN, hN, e, h, h2]
    · have h2 : ¬ b < σ.1 + 1 := by omega
      simp [hJ, wN, hN, e, h, h2]
theorem hR_wN (κ z : Nat) : hR (wN σ κ z) b j = if b = hN σ then none else hR σ b j := by
  by_cases e : b = σ.1
  · subst e
    simp [hR, wN, hN]
  · by_cases h : b < σ.1
    · have h2 : b < σ.1 + 1 := by omega
      simp [hR, wN, hN, e, h, h2]
    · have h2 : ¬ b < σ.1 + 1 := by omega
      simp [hR, wN, hN, e, h, h2]
theorem hD_wN (κ z : Nat) : hD (wN σ κ z) b j = if b = hN σ then 0 else hD σ b j := by split <;> rfl
end HL
/-- the classes of the cells: kinds 0 .. 15; arrays from 20 on: int, long, byte, boolean, Object, Act, Copy, Book -/
abbrev gcl : List vw_C := [(RX0, TX0, 8), (RX1, TX1, 12), (RX2, TX2, 4), (RX3, TX3, 5), (RX4, TX4, 4), (RX5, TX5, 5), (RX6, TX6, 1), (RX7, TX7, 7), (RX8, TX8, 7), (RX9, TX9, 15), (RX10, TX10, 8), (RJ4, TJ4, 4), (RJx4a65c, TJx4a65c, 3), (RX11, TX11, 7), (RX12, TX12, 4), (RJ0, TJ0, 4)]
def nF : Nat → Nat
  | 0 => 8
  | 1 => 12
  | 2 => 4
  | 3 => 5
  | 4 => 4
  | 5 => 5
  | 6 => 1
  | 7 => 7
  | 8 => 7
  | 9 => 15
  | 10 => 8
  | 11 => 4
  | 12 => 3
  | 13 => 7
  | 14 => 4
  | 15 => 4
  | _ => 0
def fT : Nat → Nat → Nat
  | 1, 6 => 2
  | 1, 7 => 2
  | 1, 8 => 2
  | 1, 9 => 2
  | 1, 10 => 2
  | 1, 11 => 2
  | 4, 2 => 2
  | 4, 3 => 2
  | 5, 3 => 2
  | 5, 4 => 2
  | 6, 0 => 2
  | 7, 0 => 2
  | 7, 6 => 1
  | 8, 1 => 2
  | 8, 2 => 2
  | 8, 3 => 2
  | 8, 4 => 2
  | 8, 5 => 2
  | 8, 6 => 2
  | 9, 0 => 2
  | 9, 5 => 2
  | 9, 6 => 2
  | 9, 7 => 2
  | 9, 8 => 2
  | 9, 11 => 2
  | 9, 12 => 2
  | 9, 13 => 2
  | 9, 14 => 2
  | 10, 0 => 2
  | 10, 7 => 2
  | 11, 0 => 2
  | 12, 1 => 2
  | 13, 4 => 2
  | 13, 5 => 2
  | 13, 6 => 2
  | 14, 0 => 2
  | 14, 1 => 2
  | 14, 3 => 2
  | 15, 0 => 2
  | _, _ => 0
