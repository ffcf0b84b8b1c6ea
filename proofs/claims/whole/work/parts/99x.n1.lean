/-! counting the orders: numbers alone -/
def sumN (f : Nat → Nat) : Nat → Nat
  | 0 => 0
  | k + 1 => sumN f k + f k
theorem sumN_s (f : Nat → Nat) (k : Nat) : sumN f (k + 1) = sumN f k + f k := rfl
theorem sumN_cg {f g : Nat → Nat} : ∀ n, (∀ i, i < n → f i = g i) → sumN f n = sumN g n := by
  intro n
  induction n with
  | zero => intro _; rfl
  | succ n ih => intro h; rw [sumN_s, sumN_s, ih (fun i hi => h i (by omega)), h n (by omega)]
theorem sumN_le {f g : Nat → Nat} : ∀ n, (∀ i, i < n → f i ≤ g i) → sumN f n ≤ sumN g n := by
  intro n
  induction n with
  | zero => intro _; exact Nat.le_refl _
  | succ n ih => intro h; rw [sumN_s, sumN_s]; have := ih (fun i hi => h i (by omega)); have := h n (by omega); omega
theorem sumN_mul (f : Nat → Nat) (c : Nat) : ∀ n, sumN f n * c = sumN (fun i => f i * c) n := by
  intro n
  induction n with
  | zero => exact Nat.zero_mul _
  | succ n ih => rw [sumN_s, sumN_s, Nat.add_mul, ih]
theorem sumN_0 {f : Nat → Nat} : ∀ n, (∀ i, i < n → f i = 0) → sumN f n = 0 := by
  intro n
  induction n with
  | zero => intro _; rfl
  | succ n ih => intro h; rw [sumN_s, ih (fun i hi => h i (by omega)), h n (by omega)]
theorem sumN_add (f g : Nat → Nat) : ∀ n, sumN (fun i => f i + g i) n = sumN f n + sumN g n := by
  intro n
  induction n with
  | zero => rfl
  | succ n ih => rw [sumN_s, sumN_s, sumN_s, ih]; omega
theorem sumN_2 (f : Nat → Nat) : ∀ n, sumN f (2 * n) = sumN (fun i => f (2 * i) + f (2 * i + 1)) n := by
  intro n
  induction n with
  | zero => rfl
  | succ n ih => rw [show 2 * (n + 1) = 2 * n + 1 + 1 by omega, sumN_s, sumN_s, sumN_s, ih]; omega
theorem sumN_one {f g : Nat → Nat} {k : Nat} : ∀ n, k < n → (∀ i, i < n → i ≠ k → f i = g i) → sumN f n + g k = sumN g n + f k := by
  intro n
  induction n with
  | zero => intro h; exact absurd h (Nat.not_lt_zero _)
  | succ n ih =>
    intro h1 h2
    rw [sumN_s, sumN_s]
    by_cases c : k = n
    · subst c
      rw [sumN_cg k (fun i hi => h2 i (by omega) (by omega))]
      omega
    · have := ih (by omega) (fun i hi hk => h2 i (by omega) hk)
      have e := h2 n (by omega) (fun q => c q.symm)
      omega
/-! the digits of a state -/
theorem dg_lt (s i : Nat) : dg s i < 3 := Nat.mod_lt _ (by decide)
theorem dg_step {s i : Nat} (h : dg s i ≤ 1) : dg (s + 3 ^ i) i = dg s i + 1 ∧ ∀ j, j ≠ i → dg (s + 3 ^ i) j = dg s j := by
  have hp : 0 < 3 ^ i := p3_pos i
  have e1 : (s + 3 ^ i) / 3 ^ i = s / 3 ^ i + 1 := by rw [Nat.add_div_right _ hp]
  have hd : s / 3 ^ i % 3 ≤ 1 := h
  have e3 : (s + 3 ^ i) / 3 ^ (i + 1) = s / 3 ^ (i + 1) := by
    rw [Nat.pow_succ, ← Nat.div_div_eq_div_mul, ← Nat.div_div_eq_div_mul, e1]
    omega
  constructor
  · unfold dg
    rw [e1]
    omega
  · intro j hj
    by_cases c : j < i
    · rw [Nat.add_comm]
      exact dg_low c
    · have hj2 : i + 1 ≤ j := by omega
      obtain ⟨k, rfl⟩ := Nat.exists_eq_add_of_le hj2
      unfold dg
      rw [Nat.pow_add, ← Nat.div_div_eq_div_mul, ← Nat.div_div_eq_div_mul, e3]
def evL (n s : Nat) : Nat := sumN (fun i => 2 - dg s i) n
def zrN (n s : Nat) : Nat := sumN (fun i => if dg s i = 0 then 1 else 0) n
theorem ev_step {n s i : Nat} (hi : i < n) (h : dg s i ≤ 1) : evL n (s + 3 ^ i) + 1 = evL n s := by
  obtain ⟨a, b⟩ := dg_step h
  have := sumN_one (f := fun i => 2 - dg s i) (g := fun j => 2 - dg (s + 3 ^ i) j) (k := i) n hi (fun j _ hj => by rw [b j hj])
  rw [a] at this
  show sumN (fun j => 2 - dg (s + 3 ^ i) j) n + 1 = sumN (fun i => 2 - dg s i) n
  omega
theorem zr_step {n s i : Nat} (hi : i < n) (h : dg s i ≤ 1) : zrN n (s + 3 ^ i) + (if dg s i = 0 then 1 else 0) = zrN n s := by
  obtain ⟨a, b⟩ := dg_step h
  have := sumN_one (f := fun i => if dg s i = 0 then 1 else 0) (g := fun j => if dg (s + 3 ^ i) j = 0 then 1 else 0) (k := i) n hi (fun j _ hj => by rw [b j hj])
  rw [a, if_neg (by omega)] at this
  show sumN (fun j => if dg (s + 3 ^ i) j = 0 then 1 else 0) n + (if dg s i = 0 then 1 else 0) = sumN (fun i => if dg s i = 0 then 1 else 0) n
  omega
theorem ev_zr (n s : Nat) : evL n s ≤ zrN n s + n := by
  unfold evL zrN
  induction n with
  | zero => exact Nat.le_refl _
  | succ n ih =>
    rw [sumN_s, sumN_s]
    have := dg_lt s n
    split <;> omega
def fcN : Nat → Nat
  | 0 => 1
  | k + 1 => (k + 1) * fcN k
/-- a table that counts the ways from each state to the last -/
def cntT (n : Nat) (p : Nat → Nat → Bool) (T : Nat → Nat) : Prop := T (3 ^ n - 1) = 1 ∧ ∀ s, s < 3 ^ n - 1 → T s = sumN (fun i => if p s i = true then T (s + 3 ^ i) else 0) n
/-- events lead on: a guest that is gone has none -/
def pOK (n : Nat) (p : Nat → Nat → Bool) : Prop := ∀ s i, s < 3 ^ n → i < n → p s i = true → dg s i ≤ 1
theorem dw_ind {N : Nat} {P : Nat → Prop} (h : ∀ s, s < N → (∀ t, s < t → t < N → P t) → P s) : ∀ s, s < N → P s := by
  have key : ∀ k s, N - s = k → s < N → P s := by
    intro k
    induction k using Nat.strongRecOn with
    | _ k ih =>
      intro s hk hs
      exact h s hs (fun t h1 h2 => ih (N - t) (by omega) t rfl h2)
  exact fun s hs => key (N - s) s rfl hs
theorem cnt_b {n : Nat} {p : Nat → Nat → Bool} {T : Nat → Nat} (hp : pOK n p) (hT : cntT n p T) : ∀ s, s < 3 ^ n → T s * 2 ^ zrN n s ≤ fcN (evL n s) := by
  have h3 := p3_pos n
  refine dw_ind (fun s hs ih => ?_)
  by_cases c : s = 3 ^ n - 1
  · have e0 : ∀ i, i < n → dg s i = 2 := by
      intro i hi
      by_cases q : dg s i ≤ 1
      · have := dg_add hi hs q
        have := p3_pos i
        omega
      · have := dg_lt s i; omega
    have e1 : evL n s = 0 := sumN_0 n (fun i hi => by rw [e0 i hi])
    have e2 : zrN n s = 0 := sumN_0 n (fun i hi => by rw [e0 i hi, if_neg (by decide)])
    rw [e1, e2, c, hT.1]
    decide
  · rw [hT.2 s (by omega), sumN_mul]
    have key : sumN (fun i => (if p s i = true then T (s + 3 ^ i) else 0) * 2 ^ zrN n s) n ≤ sumN (fun i => (2 - dg s i) * fcN (evL n s - 1)) n := by
      refine sumN_le n (fun i hi => ?_)
      by_cases c1 : p s i = true
      · rw [if_pos c1]
        have hd := hp s i hs hi c1
        have hl := dg_add hi hs hd
        have hp3 := p3_pos i
        have h1 := ih (s + 3 ^ i) (by omega) hl
        have h2 := ev_step hi hd
        have h4 := zr_step hi hd
        rw [show evL n (s + 3 ^ i) = evL n s - 1 by omega] at h1
        by_cases c2 : dg s i = 0
        · rw [if_pos c2] at h4
          rw [← h4, Nat.pow_succ, c2]
          have : T (s + 3 ^ i) * (2 ^ zrN n (s + 3 ^ i) * 2) = (T (s + 3 ^ i) * 2 ^ zrN n (s + 3 ^ i)) * 2 := by rw [Nat.mul_assoc]
          rw [this]
          omega
        · rw [if_neg c2] at h4
          rw [← h4, Nat.add_zero, show 2 - dg s i = 1 by omega, Nat.one_mul]
          exact h1
      · rw [if_neg c1, Nat.zero_mul]
        exact Nat.zero_le _
    refine Nat.le_trans key ?_
    rw [← sumN_mul]
    show evL n s * fcN (evL n s - 1) ≤ fcN (evL n s)
    cases evL n s with
    | zero => rw [Nat.zero_mul]; exact Nat.zero_le _
    | succ k => exact Nat.le_refl _
theorem fc_b : ∀ e, e < 15 → fcN e ≤ 681080400 * 2 ^ (e - 7) := by decide +kernel
theorem ev_le (n s : Nat) : evL n s ≤ 2 * n := by
  unfold evL
  induction n with
  | zero => exact Nat.le_refl _
  | succ n ih => rw [sumN_s]; omega
theorem cnt_le {n : Nat} {p : Nat → Nat → Bool} {T : Nat → Nat} (hn : n ≤ 7) (hp : pOK n p) (hT : cntT n p T) {s : Nat} (hs : s < 3 ^ n) : T s ≤ 681080400 := by
  have h1 := cnt_b hp hT s hs
  have h2 := ev_le n s
  have h3 := ev_zr n s
  have h4 := fc_b (evL n s) (by omega)
  have h5 : 2 ^ (evL n s - 7) ≤ 2 ^ zrN n s := Nat.pow_le_pow_right (by decide) (by omega)
  have h6 : T s * 2 ^ zrN n s ≤ 681080400 * 2 ^ zrN n s := Nat.le_trans h1 (Nat.le_trans h4 (Nat.mul_le_mul_left _ h5))
  exact Nat.le_of_mul_le_mul_right h6 (Nat.two_pow_pos _)
theorem cnt_un {n : Nat} {p : Nat → Nat → Bool} {T U : Nat → Nat} (hp : pOK n p) (hT : cntT n p T) (hU : cntT n p U) : ∀ s, s < 3 ^ n → T s = U s := by
  refine dw_ind (fun s hs ih => ?_)
  by_cases c : s = 3 ^ n - 1
  · rw [c, hT.1, hU.1]
  · rw [hT.2 s (by omega), hU.2 s (by omega)]
    refine sumN_cg n (fun i hi => ?_)
    by_cases c1 : p s i = true
    · rw [if_pos c1, if_pos c1]
      have hp3 := p3_pos i
      exact ih _ (by omega) (dg_add hi hs (hp s i hs hi c1))
    · rw [if_neg c1, if_neg c1]
/-- states from which there is no way to the last -/
theorem cnt_bad {n : Nat} {q : Nat → Nat → Bool} {U : Nat → Nat} (hq : pOK n q) (hU : cntT n q U) {b : Nat → Prop} (hb : ∀ s i, s < 3 ^ n → i < n → b s → q s i = true → b (s + 3 ^ i)) (hl : ¬ b (3 ^ n - 1)) : ∀ s, s < 3 ^ n → b s → U s = 0 := by
  refine dw_ind (fun s hs ih hbs => ?_)
  by_cases c : s = 3 ^ n - 1
  · rw [c] at hbs; exact absurd hbs hl
  · rw [hU.2 s (by omega)]
    refine sumN_0 n (fun i hi => ?_)
    by_cases c1 : q s i = true
    · rw [if_pos c1]
      have hp3 := p3_pos i
      exact ih _ (by omega) (dg_add hi hs (hq s i hs hi c1)) (hb s i hs hi hbs c1)
    · rw [if_neg c1]
theorem cnt_eq {n : Nat} {p q : Nat → Nat → Bool} {T U : Nat → Nat} (hp : pOK n p) (hq : pOK n q) (hT : cntT n p T) (hU : cntT n q U) {g b : Nat → Prop} (hb : ∀ s i, s < 3 ^ n → i < n → b s → q s i = true → b (s + 3 ^ i)) (hl : ¬ b (3 ^ n - 1)) (h1 : ∀ s i, s < 3 ^ n → i < n → g s → p s i = true → q s i = true ∧ g (s + 3 ^ i)) (h2 : ∀ s i, s < 3 ^ n → i < n → g s → q s i = true → ¬ p s i = true → b (s + 3 ^ i)) : ∀ s, s < 3 ^ n → g s → T s = U s := by
  refine dw_ind (fun s hs ih hg => ?_)
  by_cases c : s = 3 ^ n - 1
  · rw [c, hT.1, hU.1]
  · rw [hT.2 s (by omega), hU.2 s (by omega)]
    refine sumN_cg n (fun i hi => ?_)
    have hp3 := p3_pos i
    by_cases c1 : p s i = true
    · obtain ⟨a1, a2⟩ := h1 s i hs hi hg c1
      rw [if_pos c1, if_pos a1]
      exact ih _ (by omega) (dg_add hi hs (hp s i hs hi c1)) a2
    · rw [if_neg c1]
      by_cases c2 : q s i = true
      · rw [if_pos c2]
        exact (cnt_bad hq hU hb hl _ (dg_add hi hs (hq s i hs hi c2)) (h2 s i hs hi hg c2 c1)).symm
      · rw [if_neg c2]

