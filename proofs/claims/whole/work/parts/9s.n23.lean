/-! threes: who hangs together, on both sides -/
def sbs (x y : Nat) : Prop := ∀ t, x.testBit t = true → y.testBit t = true
theorem sbs_pop : ∀ x, x < 128 → ∀ y, y < 128 → x &&& y = x → ¬ x = y → pop x < pop y := by decide +kernel
theorem sbs_and {x y : Nat} (h : sbs x y) : x &&& y = x := by
  apply Nat.eq_of_testBit_eq
  intro t
  rw [Nat.testBit_and]
  have := h t
  cases c1 : x.testBit t <;> cases c2 : y.testBit t <;> simp_all
theorem sbs_eq {x y : Nat} (h1 : sbs x y) (h2 : sbs y x) : x = y := by
  apply Nat.eq_of_testBit_eq
  intro t
  have a := h1 t
  have b := h2 t
  cases c1 : x.testBit t <;> cases c2 : y.testBit t <;> simp_all
theorem or_bit {x y t : Nat} : (x ||| y).testBit t = true ↔ x.testBit t = true ∨ y.testBit t = true := by
  rw [Nat.testBit_or, Bool.or_eq_true]
theorem and_bit {x y t : Nat} : (x &&& y).testBit t = true ↔ x.testBit t = true ∧ y.testBit t = true := by
  rw [Nat.testBit_and, Bool.and_eq_true]
theorem mba_bit (mt : Nat → Nat) (x : Nat) : ∀ n t, (mba mt x n).testBit t = true ↔ ∃ i, i < n ∧ x.testBit i = true ∧ (mt i).testBit t = true := by
  intro n
  induction n with
  | zero =>
    intro t
    constructor
    · intro h
      have h : (0 : Nat).testBit t = true := h
      rw [Nat.zero_testBit] at h
      exact absurd h (by decide)
    · intro ⟨i, h, _⟩; exact absurd h (Nat.not_lt_zero _)
  | succ n ih =>
    intro t
    have e : mba mt x (n + 1) = mbF mt x n (mba mt x n) := rfl
    rw [e]
    unfold mbF
    by_cases c : x.testBit n = true
    · rw [if_pos c, or_bit, ih]
      constructor
      · rintro (⟨i, a, b⟩ | h)
        · exact ⟨i, by omega, b⟩
        · exact ⟨n, by omega, c, h⟩
      · rintro ⟨i, a, b, d⟩
        by_cases q : i = n
        · rw [q] at d; exact Or.inr d
        · exact Or.inl ⟨i, by omega, b, d⟩
    · rw [if_neg c, ih]
      constructor
      · rintro ⟨i, a, b⟩
        exact ⟨i, by omega, b⟩
      · rintro ⟨i, a, b, d⟩
        by_cases q : i = n
        · rw [q] at b; exact absurd b c
        · exact ⟨i, by omega, b, d⟩
section N23
variable {n : Nat} {mt : Nat → Nat} {fr f : Nat}
theorem rc_bit (r t : Nat) : (rcF mt n fr 0 r).testBit t = true ↔ r.testBit t = true ∨ ((∃ i, i < n ∧ r.testBit i = true ∧ (mt i).testBit t = true) ∧ fr.testBit t = true) := by
  unfold rcF
  rw [or_bit, and_bit, mba_bit]
/-- closed under going on to free ones -/
def clsd (mt : Nat → Nat) (n fr r : Nat) : Prop := ∀ i t, i < n → r.testBit i = true → (mt i).testBit t = true → fr.testBit t = true → r.testBit t = true
theorem rc_grow (k : Nat) (x : Nat) : sbs (itr (rcF mt n fr) x k) (itr (rcF mt n fr) x (k + 1)) := by
  intro t h
  rw [itr_s]
  exact (rc_bit (itr (rcF mt n fr) x k) t).mpr (Or.inl h)
theorem rc_cls (hn : n ≤ 7) (hf : f < n) (hfr : fr < 2 ^ n) : clsd mt n fr (itr (rcF mt n fr) (2 ^ f) n) := by
  have hin : ∀ k t, (itr (rcF mt n fr) (2 ^ f) k).testBit t = true → t < n := by
    intro k
    induction k with
    | zero =>
      intro t h
      rw [itr_0, Nat.testBit_two_pow] at h
      have := of_decide_eq_true h
      omega
    | succ k ih =>
      intro t h
      rw [itr_s] at h
      rcases (rc_bit (itr (rcF mt n fr) (2 ^ f) k) t).mp h with h | ⟨-, h⟩
      · exact ih t h
      · by_cases c : t < n
        · exact c
        · rw [bit_n hfr (by omega)] at h; exact absurd h (by decide)
  have hlt : ∀ k, itr (rcF mt n fr) (2 ^ f) k < 2 ^ n := by
    intro k
    apply Nat.lt_pow_two_of_testBit
    intro i hi
    cases e : (itr (rcF mt n fr) (2 ^ f) k).testBit i
    · rfl
    · have := hin k i e; omega
  have h27 : 2 ^ n ≤ 128 := Nat.pow_le_pow_right (n := 2) (by decide) hn
  have hstop : ∀ k, itr (rcF mt n fr) (2 ^ f) (k + 1) = itr (rcF mt n fr) (2 ^ f) k → clsd mt n fr (itr (rcF mt n fr) (2 ^ f) k) := by
    intro k e i t hi h1 h2 h3
    rw [← e, itr_s]
    exact (rc_bit (itr (rcF mt n fr) (2 ^ f) k) t).mpr (Or.inr ⟨⟨i, hi, h1, h2⟩, h3⟩)
  have hkeep : ∀ k, clsd mt n fr (itr (rcF mt n fr) (2 ^ f) k) → ∀ j, itr (rcF mt n fr) (2 ^ f) (k + j) = itr (rcF mt n fr) (2 ^ f) k := by
    intro k hc j
    induction j with
    | zero => rfl
    | succ j ih =>
      rw [show k + (j + 1) = k + j + 1 by omega, itr_s, ih]
      refine sbs_eq (fun t h => ?_) (fun t h => (rc_bit (itr (rcF mt n fr) (2 ^ f) k) t).mpr (Or.inl h))
      rcases (rc_bit (itr (rcF mt n fr) (2 ^ f) k) t).mp h with h | ⟨⟨i, h1, h2, h3⟩, h4⟩
      · exact h
      · exact hc i t h1 h2 h3 h4
  have hpop : ∀ k, (∃ j, j ≤ k ∧ clsd mt n fr (itr (rcF mt n fr) (2 ^ f) j)) ∨ k + 1 ≤ pop (itr (rcF mt n fr) (2 ^ f) k) := by
    intro k
    induction k with
    | zero =>
      right
      rw [itr_0]
      have : ∀ f, f < 7 → 1 ≤ pop (2 ^ f) := by decide +kernel
      exact this f (by omega)
    | succ k ih =>
      rcases ih with ⟨j, hj, hc⟩ | hp
      · exact Or.inl ⟨j, by omega, hc⟩
      · by_cases e : itr (rcF mt n fr) (2 ^ f) (k + 1) = itr (rcF mt n fr) (2 ^ f) k
        · exact Or.inl ⟨k, by omega, hstop k e⟩
        · right
          have := sbs_pop _ (Nat.lt_of_lt_of_le (hlt k) h27) _ (Nat.lt_of_lt_of_le (hlt (k + 1)) h27) (sbs_and (rc_grow k (2 ^ f))) (fun z => e z.symm)
          omega
  rcases hpop n with ⟨j, hj, hc⟩ | hp
  · have := hkeep j hc (n - j)
    rw [show j + (n - j) = n by omega] at this
    rw [this]
    exact hc
  · exfalso
    have : ∀ n, n < 8 → ∀ x, x < 2 ^ n → pop x ≤ n := by decide +kernel
    have := this n (by omega) _ (hlt n)
    omega
end N23

