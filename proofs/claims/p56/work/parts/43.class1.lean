/-! THE PURE LEVEL, 2: the class's cells -/
def upJ (J : Nat → Nat → Int64) (a k : Nat) (x : Int64) : Nat → Nat → Int64 := fun b j => if b = a ∧ j = k then x else J b j
theorem upJ_eq (J : Nat → Nat → Int64) (a k : Nat) (x : Int64) : upJ J a k x a k = x := if_pos ⟨rfl, rfl⟩
theorem upJ_k {J : Nat → Nat → Int64} {a k j : Nat} {x : Int64} (h : j ≠ k) : upJ J a k x a j = J a j := if_neg fun q => h q.2
theorem upJ_a {J : Nat → Nat → Int64} {a b k : Nat} {x : Int64} (h : b ≠ a) : upJ J a k x b = J b := funext fun _ => if_neg fun q => h q.1
def wc (σ : HpT) (G : Nat → Nat → Int32) (J : Nat → Nat → Int64) : HpT := (σ.1, σ.2.1, σ.2.2.1, G, J, σ.2.2.2.2.2.1, σ.2.2.2.2.2.2)
theorem wc_self (σ : HpT) : wc σ σ.2.2.2.1 σ.2.2.2.2.1 = σ := rfl
section EVC
variable {σ : HpT} {G : Nat → Nat → Int32} {J : Nat → Nat → Int64} {a κ k n z : Nat} {x : Int32} {y : Int64}
theorem hI_wc (k : Nat) (h : a < hN σ) : hI (wc σ G J) a k = G a k := if_pos h
theorem hJ_wc (k : Nat) (h : a < hN σ) : hJ (wc σ G J) a k = J a k := if_pos h
theorem isK_c (hk : hK σ a = κ) : isK (wc σ G J) (some a) κ = some () := if_pos hk
theorem gI_c (hk : hK σ a = κ) (ha : a < hN σ) : gI (wc σ G J) (some a) κ k = some (G a k) := by
  show (if hK (wc σ G J) a = κ then some (hI (wc σ G J) a k) else none) = _
  rw [if_pos (by exact hk), hI_wc k ha]
theorem gJ_c (hk : hK σ a = κ) (ha : a < hN σ) : gJ (wc σ G J) (some a) κ k = some (J a k) := by
  show (if hK (wc σ G J) a = κ then some (hJ (wc σ G J) a k) else none) = _
  rw [if_pos (by exact hk), hJ_wc k ha]
theorem gR_c {r : Option Nat} (hk : hK σ a = κ) (hr : hR σ a k = r) : gR (wc σ G J) (some a) κ k = some r := by
  show (if hK (wc σ G J) a = κ then some (hR (wc σ G J) a k) else none) = _
  rw [if_pos (by exact hk)]
  exact congrArg some hr
theorem pI_c (hk : hK σ a = κ) (ha : a < hN σ) : pI (wc σ G J) (some a) κ k x = some (wc σ (up G a k x) J) := by
  show (if hK (wc σ G J) a = κ ∧ a < hN (wc σ G J) then some (wI (wc σ G J) a k x) else none) = _
  rw [if_pos ⟨hk, ha⟩]
  rfl
theorem pJ_c (hk : hK σ a = κ) (ha : a < hN σ) : pJ (wc σ G J) (some a) κ k y = some (wc σ G (upJ J a k y)) := by
  show (if hK (wc σ G J) a = κ ∧ a < hN (wc σ G J) then some (wJ (wc σ G J) a k y) else none) = _
  rw [if_pos ⟨hk, ha⟩]
  rfl
theorem aI_c (hk : hK σ a = κ) (ha : a < hN σ) (hz : hZ σ a = z) (hn : n < z) (hz2 : z < 2 ^ 31) : aI (wc σ G J) (some a) κ (nI n) = some (G a n) := by
  show (if hK (wc σ G J) a = κ ∧ inbB (nI n) (hZ (wc σ G J) a) = true then some (hI (wc σ G J) a (nI n).toNatClampNeg) else none) = _
  rw [if_pos ⟨hk, by rw [show hZ (wc σ G J) a = z from hz]; exact inb_nI hn hz2⟩, nI_clamp (by omega), hI_wc _ ha]
theorem aJ_c (hk : hK σ a = 21) (ha : a < hN σ) (hz : hZ σ a = z) (hn : n < z) (hz2 : z < 2 ^ 31) : aJ (wc σ G J) (some a) (nI n) = some (J a n) := by
  show (if hK (wc σ G J) a = 21 ∧ inbB (nI n) (hZ (wc σ G J) a) = true then some (hJ (wc σ G J) a (nI n).toNatClampNeg) else none) = _
  rw [if_pos ⟨hk, by rw [show hZ (wc σ G J) a = z from hz]; exact inb_nI hn hz2⟩, nI_clamp (by omega), hJ_wc _ ha]
theorem aR_c {r : Option Nat} (hk : hK σ a = κ) (hz : hZ σ a = z) (hn : n < z) (hz2 : z < 2 ^ 31) (hr : hR σ a n = r) : aR (wc σ G J) (some a) κ (nI n) = some r := by
  show (if hK (wc σ G J) a = κ ∧ inbB (nI n) (hZ (wc σ G J) a) = true then some (hR (wc σ G J) a (nI n).toNatClampNeg) else none) = _
  rw [if_pos ⟨hk, by rw [show hZ (wc σ G J) a = z from hz]; exact inb_nI hn hz2⟩, nI_clamp (by omega)]
  exact congrArg some hr
theorem sI_c (hk : hK σ a = 20) (ha : a < hN σ) (hz : hZ σ a = z) (hn : n < z) (hz2 : z < 2 ^ 31) : sI (wc σ G J) (some a) (nI n) x = some (wc σ (up G a n x) J) := by
  show (if (hK (wc σ G J) a = 20 ∧ inbB (nI n) (hZ (wc σ G J) a) = true) ∧ a < hN (wc σ G J) then some (wI (wc σ G J) a (nI n).toNatClampNeg x) else none) = _
  rw [if_pos ⟨⟨hk, by rw [show hZ (wc σ G J) a = z from hz]; exact inb_nI hn hz2⟩, ha⟩, nI_clamp (by omega)]
  rfl
theorem sB_c (hk : hK σ a = 22) (ha : a < hN σ) (hz : hZ σ a = z) (hn : n < z) (hz2 : z < 2 ^ 31) : sB (wc σ G J) (some a) (nI n) x = some (wc σ (up G a n x.toInt8.toInt32) J) := by
  show (if (hK (wc σ G J) a = 22 ∧ inbB (nI n) (hZ (wc σ G J) a) = true) ∧ a < hN (wc σ G J) then some (wI (wc σ G J) a (nI n).toNatClampNeg x.toInt8.toInt32) else none) = _
  rw [if_pos ⟨⟨hk, by rw [show hZ (wc σ G J) a = z from hz]; exact inb_nI hn hz2⟩, ha⟩, nI_clamp (by omega)]
  rfl
theorem sZ_c (hk : hK σ a = 23) (ha : a < hN σ) (hz : hZ σ a = z) (hn : n < z) (hz2 : z < 2 ^ 31) : sZ (wc σ G J) (some a) (nI n) x = some (wc σ (up G a n (vp_nar .boolean x)) J) := by
  show (if (hK (wc σ G J) a = 23 ∧ inbB (nI n) (hZ (wc σ G J) a) = true) ∧ a < hN (wc σ G J) then some (wI (wc σ G J) a (nI n).toNatClampNeg (vp_nar .boolean x)) else none) = _
  rw [if_pos ⟨⟨hk, by rw [show hZ (wc σ G J) a = z from hz]; exact inb_nI hn hz2⟩, ha⟩, nI_clamp (by omega)]
  rfl
theorem sJ_c (hk : hK σ a = 21) (ha : a < hN σ) (hz : hZ σ a = z) (hn : n < z) (hz2 : z < 2 ^ 31) : sJ (wc σ G J) (some a) (nI n) y = some (wc σ G (upJ J a n y)) := by
  show (if (hK (wc σ G J) a = 21 ∧ inbB (nI n) (hZ (wc σ G J) a) = true) ∧ a < hN (wc σ G J) then some (wJ (wc σ G J) a (nI n).toNatClampNeg y) else none) = _
  rw [if_pos ⟨⟨hk, by rw [show hZ (wc σ G J) a = z from hz]; exact inb_nI hn hz2⟩, ha⟩, nI_clamp (by omega)]
  rfl
end EVC
/-- a Script at s, Leaves at l, a Book at b -/
def SK (σ : HpT) (s : Nat) : Prop := s + 7 ≤ hN σ ∧ hK σ s = 8 ∧ (hK σ (s + 1) = 21 ∧ hK σ (s + 2) = 20 ∧ hK σ (s + 3) = 20 ∧ hK σ (s + 4) = 23 ∧ hK σ (s + 5) = 20 ∧ hK σ (s + 6) = 21) ∧
  (hZ σ (s + 1) = 240 ∧ hZ σ (s + 2) = 240 ∧ hZ σ (s + 3) = 240 ∧ hZ σ (s + 4) = 240 ∧ hZ σ (s + 5) = 240 ∧ hZ σ (s + 6) = 960) ∧
  (hR σ s 1 = some (s + 1) ∧ hR σ s 2 = some (s + 2) ∧ hR σ s 3 = some (s + 3) ∧ hR σ s 4 = some (s + 4) ∧ hR σ s 5 = some (s + 5) ∧ hR σ s 6 = some (s + 6))
def LK (σ : HpT) (l : Nat) : Prop := l + 3 ≤ hN σ ∧ hK σ l = 4 ∧ (hK σ (l + 1) = 20 ∧ hK σ (l + 2) = 23) ∧ (hZ σ (l + 1) = 12 ∧ hZ σ (l + 2) = 12) ∧ (hR σ l 2 = some (l + 1) ∧ hR σ l 3 = some (l + 2))
def BK (σ : HpT) (b : Nat) : Prop := b + 33 ≤ hN σ ∧ (hK σ b = 1 ∧ hK σ (b + 1) = 25 ∧ hK σ (b + 2) = 26 ∧ hK σ (b + 13) = 2 ∧ hK σ (b + 14) = 3) ∧ (hZ σ (b + 1) = 10 ∧ hZ σ (b + 2) = 8) ∧
  (hR σ b 6 = some (b + 1) ∧ hR σ b 7 = some (b + 2) ∧ hR σ b 8 = some (b + 3) ∧ hR σ b 9 = some (b + 10) ∧ hR σ b 10 = some (b + 13) ∧ hR σ b 11 = some (b + 14)) ∧
  (∀ k, k < 10 → hK σ (b + 15 + k) = 0 ∧ hR σ (b + 1) k = some (b + 15 + k)) ∧ (∀ k, k < 8 → hK σ (b + 25 + k) = 3 ∧ hR σ (b + 2) k = some (b + 25 + k)) ∧ SK σ (b + 3) ∧ LK σ (b + 10)
section C1
variable {σ : HpT} {G : Nat → Nat → Int32} {J : Nat → Nat → Int64} {s l b : Nat}
theorem sk_o (h : SK σ s) : isK (wc σ G J) (some s) 8 = some () := isK_c h.2.1
theorem sk_I (h : SK σ s) (k : Nat) : gI (wc σ G J) (some s) 8 k = some (G s k) := gI_c h.2.1 (by have := h.1; omega)
theorem sk_P (h : SK σ s) (k : Nat) (x : Int32) : pI (wc σ G J) (some s) 8 k x = some (wc σ (up G s k x) J) := pI_c h.2.1 (by have := h.1; omega)
theorem sk_r1 (h : SK σ s) : gR (wc σ G J) (some s) 8 1 = some (some (s + 1)) := gR_c h.2.1 h.2.2.2.2.1
theorem sk_a1 (h : SK σ s) {n : Nat} (hn : n < 240) : aJ (wc σ G J) (some (s + 1)) (nI n) = some (J (s + 1) n) := aJ_c h.2.2.1.1 (by have := h.1; omega) h.2.2.2.1.1 hn (by decide)
theorem sk_s1 (h : SK σ s) {n : Nat} {x : Int64} (hn : n < 240) : sJ (wc σ G J) (some (s + 1)) (nI n) x = some (wc σ G (upJ J (s + 1) n x)) := sJ_c h.2.2.1.1 (by have := h.1; omega) h.2.2.2.1.1 hn (by decide)
theorem sk_r2 (h : SK σ s) : gR (wc σ G J) (some s) 8 2 = some (some (s + 2)) := gR_c h.2.1 h.2.2.2.2.2.1
theorem sk_a2 (h : SK σ s) {n : Nat} (hn : n < 240) : aI (wc σ G J) (some (s + 2)) 20 (nI n) = some (G (s + 2) n) := aI_c h.2.2.1.2.1 (by have := h.1; omega) h.2.2.2.1.2.1 hn (by decide)
theorem sk_s2 (h : SK σ s) {n : Nat} {x : Int32} (hn : n < 240) : sI (wc σ G J) (some (s + 2)) (nI n) x = some (wc σ (up G (s + 2) n x) J) := sI_c h.2.2.1.2.1 (by have := h.1; omega) h.2.2.2.1.2.1 hn (by decide)
theorem sk_r3 (h : SK σ s) : gR (wc σ G J) (some s) 8 3 = some (some (s + 3)) := gR_c h.2.1 h.2.2.2.2.2.2.1
theorem sk_a3 (h : SK σ s) {n : Nat} (hn : n < 240) : aI (wc σ G J) (some (s + 3)) 20 (nI n) = some (G (s + 3) n) := aI_c h.2.2.1.2.2.1 (by have := h.1; omega) h.2.2.2.1.2.2.1 hn (by decide)
theorem sk_s3 (h : SK σ s) {n : Nat} {x : Int32} (hn : n < 240) : sI (wc σ G J) (some (s + 3)) (nI n) x = some (wc σ (up G (s + 3) n x) J) := sI_c h.2.2.1.2.2.1 (by have := h.1; omega) h.2.2.2.1.2.2.1 hn (by decide)
theorem sk_r4 (h : SK σ s) : gR (wc σ G J) (some s) 8 4 = some (some (s + 4)) := gR_c h.2.1 h.2.2.2.2.2.2.2.1
theorem sk_a4 (h : SK σ s) {n : Nat} (hn : n < 240) : aI (wc σ G J) (some (s + 4)) 23 (nI n) = some (G (s + 4) n) := aI_c h.2.2.1.2.2.2.1 (by have := h.1; omega) h.2.2.2.1.2.2.2.1 hn (by decide)
theorem sk_s4 (h : SK σ s) {n : Nat} {x : Int32} (hn : n < 240) : sZ (wc σ G J) (some (s + 4)) (nI n) x = some (wc σ (up G (s + 4) n (vp_nar .boolean x)) J) := sZ_c h.2.2.1.2.2.2.1 (by have := h.1; omega) h.2.2.2.1.2.2.2.1 hn (by decide)
theorem sk_r5 (h : SK σ s) : gR (wc σ G J) (some s) 8 5 = some (some (s + 5)) := gR_c h.2.1 h.2.2.2.2.2.2.2.2.1
theorem sk_a5 (h : SK σ s) {n : Nat} (hn : n < 240) : aI (wc σ G J) (some (s + 5)) 20 (nI n) = some (G (s + 5) n) := aI_c h.2.2.1.2.2.2.2.1 (by have := h.1; omega) h.2.2.2.1.2.2.2.2.1 hn (by decide)
theorem sk_s5 (h : SK σ s) {n : Nat} {x : Int32} (hn : n < 240) : sI (wc σ G J) (some (s + 5)) (nI n) x = some (wc σ (up G (s + 5) n x) J) := sI_c h.2.2.1.2.2.2.2.1 (by have := h.1; omega) h.2.2.2.1.2.2.2.2.1 hn (by decide)
theorem sk_r6 (h : SK σ s) : gR (wc σ G J) (some s) 8 6 = some (some (s + 6)) := gR_c h.2.1 h.2.2.2.2.2.2.2.2.2
theorem sk_s6 (h : SK σ s) {n : Nat} {x : Int64} (hn : n < 960) : sJ (wc σ G J) (some (s + 6)) (nI n) x = some (wc σ G (upJ J (s + 6) n x)) := sJ_c h.2.2.1.2.2.2.2.2 (by have := h.1; omega) h.2.2.2.1.2.2.2.2.2 hn (by decide)
theorem lk_o (h : LK σ l) : isK (wc σ G J) (some l) 4 = some () := isK_c h.2.1
theorem lk_I (h : LK σ l) (k : Nat) : gI (wc σ G J) (some l) 4 k = some (G l k) := gI_c h.2.1 (by have := h.1; omega)
theorem lk_P (h : LK σ l) (k : Nat) (x : Int32) : pI (wc σ G J) (some l) 4 k x = some (wc σ (up G l k x) J) := pI_c h.2.1 (by have := h.1; omega)
theorem lk_r2 (h : LK σ l) : gR (wc σ G J) (some l) 4 2 = some (some (l + 1)) := gR_c h.2.1 h.2.2.2.2.1
theorem lk_a2 (h : LK σ l) {n : Nat} (hn : n < 12) : aI (wc σ G J) (some (l + 1)) 20 (nI n) = some (G (l + 1) n) := aI_c h.2.2.1.1 (by have := h.1; omega) h.2.2.2.1.1 hn (by decide)
theorem lk_s2 (h : LK σ l) {n : Nat} {x : Int32} (hn : n < 12) : sI (wc σ G J) (some (l + 1)) (nI n) x = some (wc σ (up G (l + 1) n x) J) := sI_c h.2.2.1.1 (by have := h.1; omega) h.2.2.2.1.1 hn (by decide)
theorem lk_r3 (h : LK σ l) : gR (wc σ G J) (some l) 4 3 = some (some (l + 2)) := gR_c h.2.1 h.2.2.2.2.2
theorem lk_a3 (h : LK σ l) {n : Nat} (hn : n < 12) : aI (wc σ G J) (some (l + 2)) 23 (nI n) = some (G (l + 2) n) := aI_c h.2.2.1.2 (by have := h.1; omega) h.2.2.2.1.2 hn (by decide)
theorem lk_s3 (h : LK σ l) {n : Nat} {x : Int32} (hn : n < 12) : sZ (wc σ G J) (some (l + 2)) (nI n) x = some (wc σ (up G (l + 2) n (vp_nar .boolean x)) J) := sZ_c h.2.2.1.2 (by have := h.1; omega) h.2.2.2.1.2 hn (by decide)
theorem bk_o (h : BK σ b) : isK (wc σ G J) (some (b)) 1 = some () := isK_c h.2.1.1
theorem bk_I (h : BK σ b) (k : Nat) : gI (wc σ G J) (some (b)) 1 k = some (G (b) k) := gI_c h.2.1.1 (by have := h.1; omega)
theorem bk_P (h : BK σ b) (k : Nat) (x : Int32) : pI (wc σ G J) (some (b)) 1 k x = some (wc σ (up G (b) k x) J) := pI_c h.2.1.1 (by have := h.1; omega)
theorem bk_co (h : BK σ b) : isK (wc σ G J) (some (b + 13)) 2 = some () := isK_c h.2.1.2.2.2.1
theorem bk_cI (h : BK σ b) (k : Nat) : gI (wc σ G J) (some (b + 13)) 2 k = some (G (b + 13) k) := gI_c h.2.1.2.2.2.1 (by have := h.1; omega)
theorem bk_cP (h : BK σ b) (k : Nat) (x : Int32) : pI (wc σ G J) (some (b + 13)) 2 k x = some (wc σ (up G (b + 13) k x) J) := pI_c h.2.1.2.2.2.1 (by have := h.1; omega)
theorem bk_tI (h : BK σ b) (k : Nat) : gI (wc σ G J) (some (b + 14)) 3 k = some (G (b + 14) k) := gI_c h.2.1.2.2.2.2 (by have := h.1; omega)
theorem bk_r6 (h : BK σ b) : gR (wc σ G J) (some b) 1 6 = some (some (b + 1)) := gR_c h.2.1.1 h.2.2.2.1.1
theorem bk_r7 (h : BK σ b) : gR (wc σ G J) (some b) 1 7 = some (some (b + 2)) := gR_c h.2.1.1 h.2.2.2.1.2.1
theorem bk_r8 (h : BK σ b) : gR (wc σ G J) (some b) 1 8 = some (some (b + 3)) := gR_c h.2.1.1 h.2.2.2.1.2.2.1
theorem bk_r9 (h : BK σ b) : gR (wc σ G J) (some b) 1 9 = some (some (b + 10)) := gR_c h.2.1.1 h.2.2.2.1.2.2.2.1
theorem bk_r10 (h : BK σ b) : gR (wc σ G J) (some b) 1 10 = some (some (b + 13)) := gR_c h.2.1.1 h.2.2.2.1.2.2.2.2.1
theorem bk_r11 (h : BK σ b) : gR (wc σ G J) (some b) 1 11 = some (some (b + 14)) := gR_c h.2.1.1 h.2.2.2.1.2.2.2.2.2
theorem bk_ao (h : BK σ b) {j : Nat} (hj : j < 10) : isK (wc σ G J) (some (b + 15 + j)) 0 = some () := isK_c (h.2.2.2.2.1 j hj).1
theorem bk_aI (h : BK σ b) {j : Nat} (hj : j < 10) (k : Nat) : gI (wc σ G J) (some (b + 15 + j)) 0 k = some (G (b + 15 + j) k) := gI_c (h.2.2.2.2.1 j hj).1 (by have := h.1; omega)
theorem bk_aP (h : BK σ b) {j : Nat} (hj : j < 10) (k : Nat) (x : Int32) : pI (wc σ G J) (some (b + 15 + j)) 0 k x = some (wc σ (up G (b + 15 + j) k x) J) := pI_c (h.2.2.2.2.1 j hj).1 (by have := h.1; omega)
theorem bk_aR (h : BK σ b) {j : Nat} (hj : j < 10) : aR (wc σ G J) (some (b + 1)) 25 (nI j) = some (some (b + 15 + j)) := aR_c h.2.1.2.1 h.2.2.1.1 hj (by decide) (h.2.2.2.2.1 j hj).2
theorem bk_po (h : BK σ b) {j : Nat} (hj : j < 8) : isK (wc σ G J) (some (b + 25 + j)) 3 = some () := isK_c (h.2.2.2.2.2.1 j hj).1
theorem bk_pI (h : BK σ b) {j : Nat} (hj : j < 8) (k : Nat) : gI (wc σ G J) (some (b + 25 + j)) 3 k = some (G (b + 25 + j) k) := gI_c (h.2.2.2.2.2.1 j hj).1 (by have := h.1; omega)
theorem bk_pR (h : BK σ b) {j : Nat} (hj : j < 8) : aR (wc σ G J) (some (b + 2)) 26 (nI j) = some (some (b + 25 + j)) := aR_c h.2.1.2.2.1 h.2.2.1.2 hj (by decide) (h.2.2.2.2.2.1 j hj).2
theorem bk_S (h : BK σ b) : SK σ (b + 3) := h.2.2.2.2.2.2.1
theorem bk_L (h : BK σ b) : LK σ (b + 10) := h.2.2.2.2.2.2.2
end C1
