/-! the class's tally -/
section N9
variable {A : Nat → Nat → Nat} {n m la : Nat} {T : Nat → Nat} {bh : Nat → Int64}
def rCA (A : Nat → Nat → Nat) (s i : Nat) : Bool := (A 2 s).testBit i
/-- what is gathered where a guest comes: by the set c of a state -/
def cmS (A : Nat → Nat → Nat) (c : Nat → Nat) (T : Nat → Nat) (n k x : Nat) : Nat := sumN (fun s => sumN (fun i => if rCA A s i = true ∧ (A 0 s).testBit i = false ∧ 128 * i + c s = x then aN (rCA A) n s s * T (s + 3 ^ i) else 0) n) k
theorem lN_pos' {x : Nat} (h : x ≤ 681080400) : (0 < lN x) = (0 < x) := lN_pos (by omega)
theorem tl_at (hbh : ∀ s, s < 3 ^ n → bh s = lN (T s)) (hla : la < 3 ^ n) (hus : ∀ s i, s < la → i < n → (A 2 s).testBit i = true → s + 3 ^ i < 3 ^ n) (hb : ∀ k, k < la → aN (rCA A) n k k ≤ 681080400) {q : tT} (q1 : ∀ t, t < 3 ^ n → q.1 t = lN (dl0 t)) (q2 : ∀ x, x < m → q.2.1 x = 0) (q3 : ∀ x, x < m → q.2.2 x = 0) : ∀ k, k ≤ la → (∀ t, t < 3 ^ n → (tlL A bh n q k).1 t = lN (aN (rCA A) n k t)) ∧ (∀ x, x < m → (tlL A bh n q k).2.1 x = lN (cmS A (fun s => A 0 s ||| A 1 s) T n k x)) ∧ ∀ x, x < m → (tlL A bh n q k).2.2 x = lN (cmS A (fun s => A 0 s) T n k x) := by
  intro k
  induction k with
  | zero => intro _; exact ⟨q1, fun x hx => (q2 x hx).trans rfl, fun x hx => (q3 x hx).trans rfl⟩
  | succ k ih =>
    intro hk
    obtain ⟨i1, i2, i3⟩ := ih (by omega)
    have e : tlL A bh n q (k + 1) = if 0 < (tlL A bh n q k).1 k then tsS bh k (A 0 k) (A 0 k ||| A 1 k) (A 2 k) ((tlL A bh n q k).1 k) (tlL A bh n q k) n else tlL A bh n q k := rfl
    rw [e]
    generalize tlL A bh n q k = r at *
    have hk1 := i1 k (by omega)
    have hbk := hb k (by omega)
    have cs : ∀ c x, cmS A c T n (k + 1) x = cmS A c T n k x + sumN (fun i => if rCA A k i = true ∧ (A 0 k).testBit i = false ∧ 128 * i + c k = x then aN (rCA A) n k k * T (k + 3 ^ i) else 0) n := fun c x => rfl
    by_cases c : 0 < r.1 k
    · rw [if_pos c]
      obtain ⟨t1, t2, t3⟩ := tsS_at (bh := bh) (s := k) (ins := A 0 k) (com := A 0 k ||| A 1 k) (us := A 2 k) (he := r.1 k) (q := r) n
      have gat : ∀ (C : Nat → Nat) x, sumL (fun i => if (A 2 k).testBit i = true ∧ (A 0 k).testBit i = false ∧ 128 * i + C k = x then r.1 k * bh (k + 3 ^ i) else 0) n = lN (sumN (fun i => if rCA A k i = true ∧ (A 0 k).testBit i = false ∧ 128 * i + C k = x then aN (rCA A) n k k * T (k + 3 ^ i) else 0) n) := by
        intro C x
        refine sumL_N n (fun i hi => ?_)
        by_cases c1 : (A 2 k).testBit i = true ∧ (A 0 k).testBit i = false ∧ 128 * i + C k = x
        · rw [if_pos c1, if_pos (show rCA A k i = true ∧ _ from c1), hk1, hbh _ (hus k i (by omega) hi c1.1), lN_mul]
        · rw [if_neg c1, if_neg (show ¬ (rCA A k i = true ∧ _) from c1)]; rfl
      refine ⟨fun t ht => ?_, fun x hx => ?_, fun x hx => ?_⟩
      · rw [t1 t, i1 t ht, aN_s, ← lN_add]
        congr 1
        refine sumL_N n (fun i hi => ?_)
        by_cases c1 : (A 2 k).testBit i = true ∧ k + 3 ^ i = t
        · rw [if_pos c1, if_pos (show rCA A k i = true ∧ _ from c1), hk1]
        · rw [if_neg c1, if_neg (show ¬ (rCA A k i = true ∧ _) from c1)]; rfl
      · rw [t2 x, i2 x hx, cs, ← lN_add]
        congr 1
        exact gat (fun s => A 0 s ||| A 1 s) x
      · rw [t3 x, i3 x hx, cs, ← lN_add]
        congr 1
        exact gat (fun s => A 0 s) x
    · rw [if_neg c]
      rw [hk1, lN_pos' hbk] at c
      have z : aN (rCA A) n k k = 0 := by omega
      refine ⟨fun t ht => ?_, fun x hx => ?_, fun x hx => ?_⟩
      · rw [i1 t ht, aN_s, z, sumN_0 n (fun i _ => by split <;> rfl), Nat.add_zero]
      · rw [i2 x hx, cs, z, sumN_0 n (fun i _ => by rw [Nat.zero_mul]; split <;> rfl), Nat.add_zero]
      · rw [i3 x hx, cs, z, sumN_0 n (fun i _ => by rw [Nat.zero_mul]; split <;> rfl), Nat.add_zero]
/-- sums of what is gathered over sets -/
theorem waS_N {f : Nat → Int64} {g : Nat → Nat} {p : Nat → Bool} {a : Nat} : ∀ k, (∀ i, i < k → f (a * 128 + i) = lN (g i)) → waS f p a k = lN (sumN (fun i => if p i = true then g i else 0) k) := by
  intro k
  induction k with
  | zero => intro _; rfl
  | succ k ih =>
    intro h
    rw [waS_s, sumN_s, ih (fun i hi => h i (by omega)), h k (by omega)]
    by_cases c : p k = true
    · rw [if_pos c, if_pos c, lN_add]
    · rw [if_neg c, if_neg c, Nat.add_zero]
/-- those sums as sums over the states -/
theorem cm_sum {c : Nat → Nat} {p : Nat → Bool} {a K : Nat} (ha : a < n) (hc : ∀ s, s < la → c s < 128) (hK : ∀ s, s < la → c s < K) (hK2 : K ≤ 128) : sumN (fun x => if p x = true then cmS A c T n la (128 * a + x) else 0) K = sumN (fun s => if rCA A s a = true ∧ (A 0 s).testBit a = false ∧ p (c s) = true then aN (rCA A) n s s * T (s + 3 ^ a) else 0) la := by
  have e1 : ∀ x, x < K → (if p x = true then cmS A c T n la (128 * a + x) else 0) = sumN (fun s => if c s = x then (if rCA A s a = true ∧ (A 0 s).testBit a = false ∧ p (c s) = true then aN (rCA A) n s s * T (s + 3 ^ a) else 0) else 0) la := by
    intro x hx
    by_cases hp : p x = true
    · rw [if_pos hp]
      refine sumN_cg la (fun s hs => ?_)
      have hcs := hc s hs
      by_cases cx : c s = x
      · rw [if_pos cx]
        have e2 : sumN (fun i => if rCA A s i = true ∧ (A 0 s).testBit i = false ∧ 128 * i + c s = 128 * a + x then aN (rCA A) n s s * T (s + 3 ^ i) else 0) n = sumN (fun i => if a = i then (if rCA A s i = true ∧ (A 0 s).testBit i = false then aN (rCA A) n s s * T (s + 3 ^ i) else 0) else 0) n := by
          refine sumN_cg n (fun i _ => ?_)
          by_cases ci : a = i
          · subst ci
            rw [if_pos rfl]
            by_cases c3 : rCA A s a = true ∧ (A 0 s).testBit a = false
            · rw [if_pos ⟨c3.1, c3.2, by omega⟩, if_pos c3]
            · rw [if_neg (fun z => c3 ⟨z.1, z.2.1⟩), if_neg c3]
          · rw [if_neg ci, if_neg (fun z => ci (by have := z.2.2; omega))]
        rw [e2, sumN_dl (f := fun i => if rCA A s i = true ∧ (A 0 s).testBit i = false then aN (rCA A) n s s * T (s + 3 ^ i) else 0), if_pos ha]
        by_cases c3 : rCA A s a = true ∧ (A 0 s).testBit a = false
        · rw [if_pos c3, if_pos ⟨c3.1, c3.2, by rw [cx]; exact hp⟩]
        · rw [if_neg c3, if_neg (fun z => c3 ⟨z.1, z.2.1⟩)]
      · rw [if_neg cx]
        refine sumN_0 n (fun i _ => ?_)
        rw [if_neg (fun z => cx (by have := z.2.2; omega))]
    · rw [if_neg hp]
      refine (sumN_0 la (fun s hs => ?_)).symm
      by_cases cx : c s = x
      · rw [if_pos cx, if_neg (fun z => hp (by rw [← cx]; exact z.2.2))]
      · rw [if_neg cx]
  rw [sumN_cg K e1, ← sumN_swap]
  refine sumN_cg la (fun s hs => ?_)
  rw [sumN_dl (c := c s) (f := fun x => if rCA A s a = true ∧ (A 0 s).testBit a = false ∧ p (c s) = true then aN (rCA A) n s s * T (s + 3 ^ a) else 0), if_pos (hK s hs)]
end N9

