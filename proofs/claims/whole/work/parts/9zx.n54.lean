/-! outcomes of open pairs: the class's masks -/
def btM (x : Int64) (p : Nat) : Bool := x.toBitVec.getLsbD p
theorem bt_0 (p : Nat) : btM 0 p = false := by
  show (0#64).getLsbD p = false
  simp
theorem bt_1 (p : Nat) : btM 1 p = decide (p = 0) := by
  show (1#64).getLsbD p = _
  rw [BitVec.getLsbD_one]
  by_cases c : p = 0
  · rw [c]; decide
  · simp [c]
theorem bt_or (x y : Int64) (p : Nat) : btM (x ||| y) p = (btM x p || btM y p) := by
  unfold btM
  rw [Int64.toBitVec_or, BitVec.getLsbD_or]
theorem sh_amt : ∀ j, j < 6 → ((1 : Int32) <<< (nI j &&& 31)).toInt64 &&& 63 = lN (2 ^ j) ∧ ((lN (2 ^ j)).toBitVec.smod 64).toNat = 2 ^ j := by decide +kernel
theorem bt_sh {x : Int64} {j p : Nat} (hj : j < 6) (hp : p < 64) : btM (shO x (nI j)) p = (decide (2 ^ j ≤ p) && btM x (p - 2 ^ j)) := by
  unfold shO btM
  obtain ⟨h1, h2⟩ := sh_amt j hj
  rw [h1, Int64.toBitVec_shiftLeft, BitVec.shiftLeft_eq', h2, BitVec.getLsbD_shiftLeft, decide_eq_true hp, Bool.true_and]
  by_cases c : p < 2 ^ j
  · rw [decide_eq_true c, decide_eq_false (show ¬ 2 ^ j ≤ p by omega)]; rfl
  · rw [decide_eq_false c, decide_eq_true (show 2 ^ j ≤ p by omega)]; rfl
theorem bt_lbit {x : Int64} {i : Nat} (hi : i < 64) : (lbit x i = 1) ↔ btM x i = true := by
  unfold lbit btM
  have e0 : ∀ i, i < 64 → (((lN i).toUInt64 &&& Int64.toUInt64 63) % 64).toBitVec.toNat = i := by decide +kernel
  rw [← Int64.toBitVec_inj]
  have e1 : ((x.toUInt64 >>> ((lN i).toUInt64 &&& Int64.toUInt64 63)).toInt64 &&& 1).toBitVec = (x.toBitVec >>> i) &&& 1#64 := by
    rw [Int64.toBitVec_and]
    show ((x.toUInt64 >>> ((lN i).toUInt64 &&& Int64.toUInt64 63)).toBitVec) &&& 1#64 = _
    have e2 : (x.toUInt64 >>> ((lN i).toUInt64 &&& Int64.toUInt64 63)).toBitVec = x.toBitVec >>> (((lN i).toUInt64 &&& Int64.toUInt64 63) % 64).toBitVec := rfl
    rw [e2, BitVec.ushiftRight_eq', e0 i hi]
  rw [e1]
  show (x.toBitVec >>> i &&& 1#64) = 1#64 ↔ _
  rw [BitVec.and_one_eq_setWidth_ofBool_getLsbD, BitVec.getLsbD_ushiftRight, Nat.add_zero]
  cases x.toBitVec.getLsbD i <;> decide
/-- what the open pairs of one who comes add -/
def nsO (op : Nat → Int32) (ins g : Nat) : Nat → Nat
  | 0 => 0
  | i + 1 => if ins.testBit i = true ∧ ¬ op (g * 7 + i) < 0 ∧ op (g * 7 + i) < 6 then nsO op ins g i + 2 ^ (op (g * 7 + i)).toNatClampNeg else nsO op ins g i
theorem oTS_bt {op : Nat → Int32} {ins g : Nat} {x : Int64} : ∀ k p, p < 64 → btM (oTS op ins g x k) p = (decide (nsO op ins g k ≤ p) && btM x (p - nsO op ins g k)) := by
  intro k
  induction k with
  | zero => intro p _; show btM x p = (decide (0 ≤ p) && btM x (p - 0)); rw [decide_eq_true (Nat.zero_le _), Nat.sub_zero, Bool.true_and]
  | succ k ih =>
    intro p hp
    rw [oTS_s]
    show _ = (decide ((if ins.testBit k = true ∧ ¬ op (g * 7 + k) < 0 ∧ op (g * 7 + k) < 6 then nsO op ins g k + 2 ^ (op (g * 7 + k)).toNatClampNeg else nsO op ins g k) ≤ p) && btM x (p - (if ins.testBit k = true ∧ ¬ op (g * 7 + k) < 0 ∧ op (g * 7 + k) < 6 then nsO op ins g k + 2 ^ (op (g * 7 + k)).toNatClampNeg else nsO op ins g k)))
    by_cases c1 : ins.testBit k = true
    · rw [if_pos c1]
      by_cases c2 : op (g * 7 + k) < 0
      · rw [if_pos c2, if_neg (fun z => z.2.1 c2)]; exact ih p hp
      · rw [if_neg c2]
        by_cases c3 : op (g * 7 + k) < 6
        · rw [if_pos c3, if_pos ⟨c1, c2, c3⟩]
          obtain ⟨j, hj, e⟩ : ∃ j, j < 6 ∧ op (g * 7 + k) = nI j := by
            have h1 : ¬ (op (g * 7 + k)).toInt < 0 := fun z => c2 (Int32.lt_iff_toInt_lt.mpr z)
            have h2 : (op (g * 7 + k)).toInt < 6 := Int32.lt_iff_toInt_lt.mp c3
            refine ⟨(op (g * 7 + k)).toInt.toNat, by omega, ?_⟩
            apply Int32.toInt_inj.mp
            rw [nI_toInt (by omega)]
            omega
          rw [e, bt_sh hj hp, nI_clamp (by omega)]
          have hJ : 0 < 2 ^ j := Nat.pow_pos (by decide)
          generalize 2 ^ j = J at *
          by_cases c4 : J ≤ p
          · rw [decide_eq_true c4, Bool.true_and, ih (p - J) (by omega)]
            by_cases c5 : nsO op ins g k + J ≤ p
            · rw [decide_eq_true c5, decide_eq_true (show nsO op ins g k ≤ p - J by omega), show p - J - nsO op ins g k = p - (nsO op ins g k + J) by omega]
            · rw [decide_eq_false c5, decide_eq_false (show ¬ nsO op ins g k ≤ p - J by omega)]; rfl
          · rw [decide_eq_false c4, decide_eq_false (show ¬ nsO op ins g k + J ≤ p by omega)]; rfl
        · rw [if_neg c3, if_neg (fun z => c3 z.2.2)]; exact ih p hp
    · rw [if_neg c1, if_neg (fun z => c1 z.1)]; exact ih p hp
/-- the mask after an event -/
def oTx (A : Nat → Nat → Nat) (op : Nat → Int32) (n s g : Nat) (mk : Int64) : Int64 := if (A 0 s).testBit g = true then mk else oTS op (A 0 s) g mk n
theorem oTx_0 {A : Nat → Nat → Nat} {op : Nat → Int32} {n s g p : Nat} (hp : p < 64) : btM (oTx A op n s g 0) p = false := by
  unfold oTx
  split
  · exact bt_0 p
  · rw [oTS_bt n p hp, bt_0, Bool.and_false]
section N54
variable {A : Nat → Nat → Nat} {op : Nat → Int32} {n : Nat} {w : Nat → Int64}
theorem ooR_at {s : Nat} {w : Nat → Int64} : ∀ i, (∀ t, t ≤ s → ooR A op n s w i t = w t) ∧ ∀ t p, p < 64 → (btM (ooR A op n s w i t) p = true ↔ btM (w t) p = true ∨ ∃ j, j < i ∧ (A 2 s).testBit j = true ∧ s + 3 ^ j = t ∧ btM (oTx A op n s j (w s)) p = true) := by
  intro i
  induction i with
  | zero => exact ⟨fun _ _ => rfl, fun t p _ => ⟨fun h => Or.inl h, fun h => h.elim id (fun ⟨j, hj, _⟩ => absurd hj (Nat.not_lt_zero _))⟩⟩
  | succ i ih =>
    obtain ⟨i1, i2⟩ := ih
    rw [ooR_s]
    by_cases c : (A 2 s).testBit i = true
    · rw [if_pos c]
      have hp3 := p3_pos i
      have eT : oT A op n (ooR A op n s w i) s i = oTx A op n s i (w s) := by
        unfold oT oTx
        rw [i1 s (Nat.le_refl _)]
      refine ⟨fun t ht => by rw [zup_ne _ _ (by omega)]; exact i1 t ht, fun t p hp => ?_⟩
      by_cases q : t = s + 3 ^ i
      · subst q
        rw [zup_eq, bt_or, Bool.or_eq_true, i2 _ p hp, eT]
        constructor
        · rintro ((h | ⟨j, j1, j2, j3, j4⟩) | h)
          · exact Or.inl h
          · exact Or.inr ⟨j, by omega, j2, j3, j4⟩
          · exact Or.inr ⟨i, by omega, c, rfl, h⟩
        · rintro (h | ⟨j, j1, j2, j3, j4⟩)
          · exact Or.inl (Or.inl h)
          · by_cases e : j = i
            · subst e; exact Or.inr j4
            · exact Or.inl (Or.inr ⟨j, by omega, j2, j3, j4⟩)
      · rw [zup_ne _ _ q, i2 t p hp]
        constructor
        · rintro (h | ⟨j, j1, j2, j3, j4⟩)
          · exact Or.inl h
          · exact Or.inr ⟨j, by omega, j2, j3, j4⟩
        · rintro (h | ⟨j, j1, j2, j3, j4⟩)
          · exact Or.inl h
          · by_cases e : j = i
            · subst e; exact absurd j3.symm q
            · exact Or.inr ⟨j, by omega, j2, j3, j4⟩
    · rw [if_neg c]
      refine ⟨i1, fun t p hp => ?_⟩
      rw [i2 t p hp]
      constructor
      · rintro (h | ⟨j, j1, j2, j3, j4⟩)
        · exact Or.inl h
        · exact Or.inr ⟨j, by omega, j2, j3, j4⟩
      · rintro (h | ⟨j, j1, j2, j3, j4⟩)
        · exact Or.inl h
        · by_cases e : j = i
          · subst e; exact absurd j2 c
          · exact Or.inr ⟨j, by omega, j2, j3, j4⟩
/-- a mask's bits: from where they come -/
theorem ooS_at : ∀ k t p, p < 64 → (btM (ooS A op n w k t) p = true ↔ btM (w t) p = true ∨ ∃ s j, s < k ∧ j < n ∧ (A 2 s).testBit j = true ∧ s + 3 ^ j = t ∧ btM (oTx A op n s j (ooS A op n w s s)) p = true) := by
  intro k
  induction k with
  | zero => intro t p _; exact ⟨fun h => Or.inl h, fun h => h.elim id (fun ⟨s, j, hs, _⟩ => absurd hs (Nat.not_lt_zero _))⟩
  | succ k ih =>
    intro t p hp
    rw [ooS_s]
    have split1 : (∃ s j, s < k + 1 ∧ j < n ∧ (A 2 s).testBit j = true ∧ s + 3 ^ j = t ∧ btM (oTx A op n s j (ooS A op n w s s)) p = true) ↔ (∃ s j, s < k ∧ j < n ∧ (A 2 s).testBit j = true ∧ s + 3 ^ j = t ∧ btM (oTx A op n s j (ooS A op n w s s)) p = true) ∨ ∃ j, j < n ∧ (A 2 k).testBit j = true ∧ k + 3 ^ j = t ∧ btM (oTx A op n k j (ooS A op n w k k)) p = true := by
      constructor
      · rintro ⟨s, j, s1, r⟩
        by_cases e : s = k
        · subst e; exact Or.inr ⟨j, r⟩
        · exact Or.inl ⟨s, j, by omega, r⟩
      · rintro (⟨s, j, s1, r⟩ | ⟨j, r⟩)
        · exact ⟨s, j, by omega, r⟩
        · exact ⟨k, j, by omega, r⟩
    rw [split1]
    by_cases c : ooS A op n w k k = 0
    · rw [if_pos c, ih t p hp, c]
      constructor
      · rintro (h | h)
        · exact Or.inl h
        · exact Or.inr (Or.inl h)
      · rintro (h | h | ⟨j, j1, j2, j3, j4⟩)
        · exact Or.inl h
        · exact Or.inr h
        · rw [oTx_0 hp] at j4; exact absurd j4 (by decide)
    · rw [if_neg c, (ooR_at n).2 t p hp, ih t p hp]
      exact or_assoc
/-- once a state is done its mask stays -/
theorem ooS_fin {s : Nat} : ∀ j, ooS A op n w (s + j) s = ooS A op n w s s := by
  intro j
  induction j with
  | zero => rfl
  | succ j ih =>
    rw [show s + (j + 1) = s + j + 1 by omega, ooS_s]
    split
    · exact ih
    · rw [(ooR_at n).1 s (by omega)]; exact ih
theorem fin_at {N t p : Nat} (ht : t < N) (hp : p < 64) : btM (ooS A op n w t t) p = true ↔ btM (w t) p = true ∨ ∃ s j, s < N ∧ j < n ∧ (A 2 s).testBit j = true ∧ s + 3 ^ j = t ∧ btM (oTx A op n s j (ooS A op n w s s)) p = true := by
  rw [ooS_at t t p hp]
  constructor
  · rintro (h | ⟨s, j, s1, r⟩)
    · exact Or.inl h
    · exact Or.inr ⟨s, j, by omega, r⟩
  · rintro (h | ⟨s, j, s1, j1, j2, j3, j4⟩)
    · exact Or.inl h
    · exact Or.inr ⟨s, j, by have := p3_pos j; omega, j1, j2, j3, j4⟩
end N54

