/-! small numbers and bits -/
theorem q_shl : ∀ o, o < 31 → (1 : Int32) <<< (nI o &&& 31) = nI (2 ^ o) := by decide +kernel
theorem q_bit : ∀ m, m < 128 → ∀ o, o < 8 → (nI m >>> (nI o &&& 31)) &&& 1 = if m.testBit o then 1 else 0 := by decide +kernel
theorem q_andn : ∀ a, a < 128 → ∀ b, b < 128 → nI a &&& (nI b ^^^ (-1)) = nI (a &&& (127 - b)) := by decide +kernel
theorem q_and (a b : Nat) : nI a &&& nI b = nI (a &&& b) := by
  unfold nI
  apply Int32.toBitVec_inj.mp
  simp [Int32.toBitVec_ofNat']
theorem q_or (a b : Nat) : nI a ||| nI b = nI (a ||| b) := by
  unfold nI
  apply Int32.toBitVec_inj.mp
  simp [Int32.toBitVec_ofNat']
theorem q_xor (a b : Nat) : nI a ^^^ nI b = nI (a ^^^ b) := by
  unfold nI
  apply Int32.toBitVec_inj.mp
  simp [Int32.toBitVec_ofNat']
/-- bits below 128 -/
theorem q_and_lt {a b : Nat} (h : a < 128) : a &&& b < 128 := Nat.lt_of_le_of_lt Nat.and_le_left h
theorem q_or_lt {a b : Nat} (h : a < 128) (h2 : b < 128) : a ||| b < 128 := Nat.or_lt_two_pow (n := 7) h h2
theorem q_pow_lt {o : Nat} (h : o < 7) : 2 ^ o < 128 := Nat.pow_lt_pow_right (by decide) h
/-- a bit set, a bit cleared -/
def sbit (m o : Nat) (b : Bool) : Nat := if b then m ||| 2 ^ o else m &&& (127 - 2 ^ o)
theorem sbit_lt {m o : Nat} {b : Bool} (hm : m < 128) (ho : o < 7) : sbit m o b < 128 := by
  unfold sbit
  split
  · exact q_or_lt hm (q_pow_lt ho)
  · exact q_and_lt hm
theorem sbit_tb : ∀ m, m < 128 → ∀ o, o < 7 → ∀ j, j < 7 → ∀ b : Bool, (sbit m o b).testBit j = if j = o then b else m.testBit j := by decide +kernel
theorem q_ext {a b : Nat} (ha : a < 128) (hb : b < 128) (h : ∀ j, j < 7 → a.testBit j = b.testBit j) : a = b := by
  apply Nat.eq_of_testBit_eq
  intro j
  by_cases hj : j < 7
  · exact h j hj
  · rw [Nat.testBit_lt_two_pow (Nat.lt_of_lt_of_le ha (Nat.pow_le_pow_right (n := 2) (by decide) (show 7 ≤ j by omega))), Nat.testBit_lt_two_pow (Nat.lt_of_lt_of_le hb (Nat.pow_le_pow_right (n := 2) (by decide) (show 7 ≤ j by omega)))]
/-- how many of the first seven bits -/
def pop (m : Nat) : Nat := (m.testBit 0).toNat + (m.testBit 1).toNat + (m.testBit 2).toNat + (m.testBit 3).toNat + (m.testBit 4).toNat + (m.testBit 5).toNat + (m.testBit 6).toNat
theorem pop_le (m : Nat) : pop m ≤ 7 := by
  unfold pop
  have h : ∀ b : Bool, b.toNat ≤ 1 := by decide
  have := h (m.testBit 0); have := h (m.testBit 1); have := h (m.testBit 2); have := h (m.testBit 3); have := h (m.testBit 4); have := h (m.testBit 5); have := h (m.testBit 6)
  omega
theorem nI_ult {a b : Nat} (ha : a < 2 ^ 31) (hb : b < 2 ^ 31) : (nI a < nI b) = (a < b) := propext (nI_ltI ha hb)
theorem nI_eqI {a b : Nat} (ha : a < 2 ^ 31) (hb : b < 2 ^ 31) : (nI a = nI b) = (a = b) := propext (nI_eq ha hb)
theorem nI_7 {i : Nat} (h : i < 7) : vp_in (nI i) 7 := vp_in_nI h (by decide)
theorem nI_c {i : Nat} (h : i < 7) : (nI i).toNatClampNeg = i := nI_clamp (by omega)
theorem q10 : ((1 : Int32) = 0) = False := by decide
theorem q01 : ((0 : Int32) = 1) = False := by decide
theorem q00 : ((0 : Int32) < 0) = False := by decide

