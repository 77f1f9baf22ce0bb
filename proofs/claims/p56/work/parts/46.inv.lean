/-! THE PURE LEVEL, 5: what holds between calls -/
/-- letters f 0 .. f (n - 1) as the reference's two numbers (five bits a letter, the first lowest), as the class's long (a byte a letter, the last lowest) -/
def enL5 (f : Nat → Nat) (n : Nat) : Nat × Nat := (sumN (fun k => (if k < n then f k else 0) * 32 ^ k) 4, sumN (fun k => (if 4 + k < n then f (4 + k) else 0) * 32 ^ k) 4)
def pkL (f : Nat → Nat) : Nat → Nat
  | 0 => 0
  | n + 1 => pkL f n * 256 + (96 + f n)
def wdR (lo hi : Int32) (w : Int64) : Prop := ∃ (n : Nat) (f : Nat → Nat), 1 ≤ n ∧ n ≤ 8 ∧ (∀ k, k < n → 1 ≤ f k ∧ f k ≤ 26) ∧ lo = nI (enL5 f n).1 ∧ hi = nI (enL5 f n).2 ∧ w = Int64.ofNat (pkL f n)
abbrev nRm (N : Nat → Int32) : Nat := nv N 0
abbrev nAc (N : Nat → Int32) : Nat := nv N 3
abbrev nWd (N : Nat → Int32) : Nat := nv N 4
abbrev nCl (N : Nat → Int32) : Nat := nv N 5
abbrev nCp (N : Nat → Int32) : Nat := nv N 6
abbrev nLv (N : Nat → Int32) : Nat := (nWd N + nRm N - 1) / nRm N
abbrev aF (N : Nat → Int32) (a : Nat) : Nat := nv N (9 + 9 * a + 5)
abbrev aM (N : Nat → Int32) (a : Nat) : Nat := nv N (9 + 9 * a + 6)
abbrev aK (N : Nat → Int32) (a : Nat) : Nat := nv N (9 + 9 * a + 7)
abbrev aC (N : Nat → Int32) (a : Nat) : Nat := nv N (9 + 9 * a + 8)
abbrev wW (N : Nat → Int32) (g : Nat) : Nat := nv N (127 + 13 * g + 3)
abbrev wN' (N : Nat → Int32) (g : Nat) : Nat := nv N (127 + 13 * g + 4)
abbrev cF (N : Nat → Int32) (c : Nat) : Nat := nv N (3247 + 3 * c)
abbrev cT (N : Nat → Int32) (c : Nat) : Nat := nv N (3247 + 3 * c + 1)
abbrev cA (N : Nat → Int32) (c : Nat) : Nat := nv N (3247 + 3 * c + 2)
abbrev oO (N : Nat → Int32) (c : Nat) : Nat := nv N (111 + 2 * c)
abbrev oG (N : Nat → Int32) (c : Nat) : Nat := nv N (111 + 2 * c + 1)
def W1 (N : Nat → Int32) : Prop := (isN N 0 21 ∧ 4 ≤ nRm N) ∧ isN N 1 5 ∧ (isN N 2 5 ∧ 2 ≤ nv N 2) ∧ isN N 3 11 ∧ (isN N 4 241 ∧ nWd N ≤ 12 * nRm N) ∧ isN N 5 961 ∧ isN N 6 9
def W2 (N : Nat → Int32) : Prop := (nAc N = 0 → nWd N = 0 ∧ nCl N = 0) ∧ ∀ a, a < nAc N → (isN N (9 + 9 * a) 3 ∧ isN N (9 + 9 * a + 1) 3) ∧ (isN N (9 + 9 * a + 5) 241 ∧ isN N (9 + 9 * a + 6) 241 ∧ isN N (9 + 9 * a + 7) 961 ∧ isN N (9 + 9 * a + 8) 961) ∧ 1 ≤ aM N a ∧
  (a = 0 → aF N a = 0 ∧ aK N a = 0) ∧ (a + 1 < nAc N → aF N (a + 1) = aF N a + aM N a ∧ aK N (a + 1) = aK N a + aC N a ∧ nv N (9 + 9 * a + 1) ≠ 0) ∧ (a + 1 = nAc N → aF N a + aM N a = nWd N ∧ aK N a + aC N a = nCl N)
/-- the clauses of an act: by their first words; one in another or apart; AROUND and WITHIN name the innermost -/
def W3 (N : Nat → Int32) : Prop := ∀ a, a < nAc N → (∀ c, aK N a ≤ c → c < aK N a + aC N a → isN N (3247 + 3 * c) 241 ∧ isN N (3247 + 3 * c + 1) 241 ∧ isN N (3247 + 3 * c + 2) 961 ∧ aF N a ≤ cF N c ∧ cF N c ≤ cT N c ∧ cT N c < aF N a + aM N a ∧
    (∀ d, aK N a ≤ d → d < c → cF N d ≤ cF N c ∧ (cT N d < cF N c ∨ cT N c ≤ cT N d)) ∧
    ((cA N c = 0 ∧ ∀ d, aK N a ≤ d → d < c → cT N d < cF N c) ∨ ∃ p, cA N c = p + 1 ∧ aK N a ≤ p ∧ p < c ∧ cT N c ≤ cT N p ∧ ∀ d, p < d → d < c → cT N d < cF N c)) ∧
  ∀ g, aF N a ≤ g → g < aF N a + aM N a → isN N (127 + 13 * g + 3) 961 ∧
    ((wW N g = 0 ∧ ∀ c, aK N a ≤ c → c < aK N a + aC N a → ¬ (cF N c ≤ g ∧ g ≤ cT N c)) ∨ ∃ p, wW N g = p + 1 ∧ aK N a ≤ p ∧ p < aK N a + aC N a ∧ cF N p ≤ g ∧ g ≤ cT N p ∧ ∀ c, p < c → c < aK N a + aC N a → ¬ (cF N c ≤ g ∧ g ≤ cT N c)) ∧
    cov (cF N) (cT N) (aK N a) (aC N a) g ≤ 4
def W4 (N : Nat → Int32) : Prop := (∀ g, g < nWd N → isN N (127 + 13 * g + 4) 5 ∧ (N (127 + 13 * g + 2) = 0 ∨ N (127 + 13 * g + 2) = 1)) ∧ (∀ l, l < nLv N → isN N (99 + l) 3) ∧
  ∀ c, c < nCp N → isN N (111 + 2 * c) 10 ∧ oO N c < nAc N ∧ isN N (111 + 2 * c + 1) 3 ∧ N (9 + 9 * oO N c + 1) = 1
def WFN (N : Nat → Int32) : Prop := W1 N ∧ W2 N ∧ W3 N ∧ W4 N
/-- the Book's cells hold N (G, J: the contents) -/
def RA (G : Nat → Nat → Int32) (b : Nat) (N : Nat → Int32) : Prop := G b 0 = N 0 ∧ G b 1 = N 1 ∧ G b 2 = N 3 ∧ G b 3 = N 6 ∧ G b 4 = N 7 ∧ G b 5 = N 8 ∧ G (b + 3) 0 = N 4 ∧ G (b + 10) 0 = N 2 ∧ G (b + 10) 1 = nI (nLv N) ∧
  (∀ a, a < nAc N → G (b + 15 + a) 0 = nI (a + 1) ∧ G (b + 15 + a) 1 = N (9 + 9 * a) ∧ G (b + 15 + a) 2 = N (9 + 9 * a + 1) ∧ G (b + 15 + a) 3 = N (9 + 9 * a + 2) ∧ G (b + 15 + a) 4 = N (9 + 9 * a + 3) ∧ G (b + 15 + a) 5 = N (9 + 9 * a + 5) ∧ G (b + 15 + a) 6 = N (9 + 9 * a + 6) ∧ G (b + 15 + a) 7 = N (9 + 9 * a + 4)) ∧
  ∀ l, l < nLv N → G (b + 11) l = N (99 + l)
def RW (G : Nat → Nat → Int32) (J : Nat → Nat → Int64) (b : Nat) (N : Nat → Int32) : Prop := (∀ g, g < nWd N → wdR (N (127 + 13 * g)) (N (127 + 13 * g + 1)) (J (b + 4) g) ∧ G (b + 7) g = N (127 + 13 * g + 2) ∧ G (b + 8) g = N (127 + 13 * g + 4) ∧ ∀ j, j < wN' N g → wdR (N (127 + 13 * g + 5 + 2 * j)) (N (127 + 13 * g + 5 + 2 * j + 1)) (J (b + 9) (4 * g + j))) ∧
  ∀ a, a < nAc N → ∀ g, aF N a ≤ g → g < aF N a + aM N a → G (b + 5) g = nI (cntV (cF N) (aK N a) (aC N a) g) ∧ G (b + 6) g = nI (cntV (cT N) (aK N a) (aC N a) g)
def RC (G : Nat → Nat → Int32) (b : Nat) (N : Nat → Int32) : Prop := ∀ c, c < nCp N → G (b + 25 + c) 0 = nI (oO N c + 1) ∧ G (b + 25 + c) 1 = N (111 + 2 * c + 1) ∧
  (match fsN N (aF N (oO N c)) (aM N (oO N c)) with | none => G (b + 25 + c) 2 = 0 ∧ G (b + 25 + c) 3 = nO | some (x, y) => G (b + 25 + c) 2 = nI x ∧ G (b + 25 + c) 3 = nI y) ∧
  G (b + 25 + c) 4 = sumI (fun k => bI (hbN N (aF N (oO N c)) (aM N (oO N c)) (oG N c) (aF N (oO N c) + k)) + (if oG N c = 0 then N (127 + 13 * (aF N (oO N c) + k) + 4) else 0)) (aM N (oO N c))
def RB (G : Nat → Nat → Int32) (J : Nat → Nat → Int64) (b : Nat) (N : Nat → Int32) : Prop := RA G b N ∧ RW G J b N ∧ RC G b N
