/-! ways from the start to a state, and sums over them -/
theorem sumN_swap (h : Nat → Nat → Nat) (n : Nat) : ∀ N, sumN (fun s => sumN (fun i => h s i) n) N = sumN (fun i => sumN (fun s => h s i) N) n := by
  intro N
  induction N with
  | zero => exact (sumN_0 n (fun i _ => rfl)).symm
  | succ N ih =>
    rw [sumN_s, ih, ← sumN_add]
    rfl
theorem sumN_dl {f : Nat → Nat} {c : Nat} : ∀ N, sumN (fun s => if c = s then f s else 0) N = if c < N then f c else 0 := by
  intro N
  induction N with
  | zero => rw [if_neg (Nat.not_lt_zero _)]; rfl
  | succ N ih =>
    rw [sumN_s, ih]
    by_cases c1 : c < N
    · rw [if_pos c1, if_neg (show ¬ c = N by omega), if_pos (show c < N + 1 by omega), Nat.add_zero]
    · by_cases c2 : c = N
      · subst c2
        rw [if_neg (Nat.lt_irrefl _), if_pos rfl, if_pos (show c < c + 1 by omega), Nat.zero_add]
      · rw [if_neg c1, if_neg c2, if_neg (show ¬ c < N + 1 by omega)]
theorem sumN_mulL (f : Nat → Nat) (c : Nat) (n : Nat) : c * sumN f n = sumN (fun i => c * f i) n := by
  rw [Nat.mul_comm, sumN_mul]
  exact sumN_cg n (fun i _ => Nat.mul_comm _ _)
def scE (r : Nat → Nat → Bool) (s : Nat) : Nat → (Nat → Nat) → Nat → Nat := fun i f => if r s i = true then z_up f (s + 3 ^ i) (f (s + 3 ^ i) + f s) else f
def scS (r : Nat → Nat → Bool) (n : Nat) : Nat → (Nat → Nat) → Nat → Nat := fun s f => itr (scE r s) f n
def dl0 : Nat → Nat := fun s => if 0 = s then 1 else 0
/-- ways from the start, after so many states -/
def aN (r : Nat → Nat → Bool) (n k : Nat) : Nat → Nat := itr (scS r n) dl0 k
theorem sc_at {r : Nat → Nat → Bool} {s : Nat} {f : Nat → Nat} : ∀ k t, itr (scE r s) f k t = f t + sumN (fun i => if r s i = true ∧ s + 3 ^ i = t then f s else 0) k := by
  intro k
  induction k with
  | zero => intro t; rfl
  | succ k ih =>
    intro t
    rw [itr_s, sumN_s]
    have hs : itr (scE r s) f k s = f s := by
      rw [ih s, sumN_0 k (fun i _ => by rw [if_neg (fun q => by have := q.2; have := p3_pos i; omega)]), Nat.add_zero]
    by_cases c : r s k = true
    · show (if r s k = true then z_up (itr (scE r s) f k) (s + 3 ^ k) (itr (scE r s) f k (s + 3 ^ k) + itr (scE r s) f k s) else itr (scE r s) f k) t = _
      rw [if_pos c, hs]
      by_cases c2 : t = s + 3 ^ k
      · rw [c2, zup_eq, ih, if_pos ⟨c, rfl⟩, Nat.add_assoc]
      · rw [zup_ne _ _ c2, ih, if_neg (fun q => c2 q.2.symm), Nat.add_zero]
    · show (if r s k = true then z_up (itr (scE r s) f k) (s + 3 ^ k) (itr (scE r s) f k (s + 3 ^ k) + itr (scE r s) f k s) else itr (scE r s) f k) t = _
      rw [if_neg c, ih, if_neg (fun q => c q.1), Nat.add_zero]
theorem aN_s (r : Nat → Nat → Bool) (n k t : Nat) : aN r n (k + 1) t = aN r n k t + sumN (fun i => if r k i = true ∧ k + 3 ^ i = t then aN r n k k else 0) n := sc_at n t
theorem aN_le {r : Nat → Nat → Bool} {n k t : Nat} (h : t ≤ k) : aN r n (k + 1) t = aN r n k t := by
  rw [aN_s, sumN_0 n (fun i _ => by rw [if_neg (fun q => by have := q.2; have := p3_pos i; omega)]), Nat.add_zero]
theorem aN_fin {r : Nat → Nat → Bool} {n t : Nat} : ∀ j, aN r n (t + j) t = aN r n t t := by
  intro j
  induction j with
  | zero => rfl
  | succ j ih => rw [show t + (j + 1) = t + j + 1 by omega, aN_le (by omega), ih]
section N7
variable {r : Nat → Nat → Bool} {n N : Nat} {V w : Nat → Nat}
theorem dual_k (hN : 0 < N) (hr : ∀ s i, s < N → i < n → r s i = true → s + 3 ^ i < N) (hV : ∀ s, s < N → V s = w s + sumN (fun i => if r s i = true then V (s + 3 ^ i) else 0) n) : ∀ k, k ≤ N → sumN (fun s => if s < k then aN r n k s * w s else aN r n k s * V s) N = V 0 := by
  intro k
  induction k with
  | zero =>
    intro _
    have e : sumN (fun s => if s < 0 then aN r n 0 s * w s else aN r n 0 s * V s) N = sumN (fun s => if 0 = s then V s else 0) N := by
      refine sumN_cg N (fun s _ => ?_)
      rw [if_neg (Nat.not_lt_zero _)]
      show dl0 s * V s = _
      unfold dl0
      by_cases c : 0 = s
      · rw [if_pos c, if_pos c, Nat.one_mul]
      · rw [if_neg c, if_neg c, Nat.zero_mul]
    rw [e, sumN_dl, if_pos hN]
  | succ k ih =>
    intro hk
    have ih := ih (by omega)
    rw [← ih]
    have e1 : sumN (fun s => if s < k + 1 then aN r n (k + 1) s * w s else aN r n (k + 1) s * V s) N = sumN (fun s => if s = k then aN r n k k * w k else (if s < k then aN r n k s * w s else aN r n k s * V s)) N + sumN (fun s => sumN (fun i => if r k i = true ∧ k + 3 ^ i = s then aN r n k k * V s else 0) n) N := by
      rw [← sumN_add]
      refine sumN_cg N (fun s hs => ?_)
      by_cases c1 : s = k
      · subst c1
        rw [if_pos (by omega), if_pos rfl, aN_le (Nat.le_refl _), sumN_0 n (fun i _ => by rw [if_neg (fun q => by have := q.2; have := p3_pos i; omega)]), Nat.add_zero]
      · by_cases c2 : s < k
        · rw [if_pos (by omega), if_neg c1, if_pos c2, aN_le (by omega), sumN_0 n (fun i _ => by rw [if_neg (fun q => by have := q.2; have := p3_pos i; omega)]), Nat.add_zero]
        · rw [if_neg (by omega), if_neg c1, if_neg c2, aN_s, Nat.add_mul, sumN_mul]
          congr 1
          refine sumN_cg n (fun i _ => ?_)
          by_cases c3 : r k i = true ∧ k + 3 ^ i = s
          · rw [if_pos c3, if_pos c3]
          · rw [if_neg c3, if_neg c3, Nat.zero_mul]
    have e2 : sumN (fun s => sumN (fun i => if r k i = true ∧ k + 3 ^ i = s then aN r n k k * V s else 0) n) N = sumN (fun i => if r k i = true then aN r n k k * V (k + 3 ^ i) else 0) n := by
      rw [sumN_swap]
      refine sumN_cg n (fun i hi => ?_)
      by_cases c : r k i = true
      · rw [if_pos c]
        have e : sumN (fun s => if r k i = true ∧ k + 3 ^ i = s then aN r n k k * V s else 0) N = sumN (fun s => if k + 3 ^ i = s then aN r n k k * V s else 0) N := by
          refine sumN_cg N (fun s _ => ?_)
          by_cases c2 : k + 3 ^ i = s
          · rw [if_pos ⟨c, c2⟩, if_pos c2]
          · rw [if_neg (fun q => c2 q.2), if_neg c2]
        rw [e, sumN_dl (f := fun s => aN r n k k * V s), if_pos (hr k i (by omega) hi c)]
      · rw [if_neg c]
        exact sumN_0 N (fun s _ => by rw [if_neg (fun q => c q.1)])
    have e3 : sumN (fun s => if s = k then aN r n k k * w k else (if s < k then aN r n k s * w s else aN r n k s * V s)) N + aN r n k k * V k = sumN (fun s => if s < k then aN r n k s * w s else aN r n k s * V s) N + aN r n k k * w k := by
      have := sumN_one (f := fun s => if s = k then aN r n k k * w k else (if s < k then aN r n k s * w s else aN r n k s * V s)) (g := fun s => if s < k then aN r n k s * w s else aN r n k s * V s) (k := k) N (by omega) (fun i _ hi => by rw [if_neg hi])
      rw [if_neg (Nat.lt_irrefl _), if_pos rfl] at this
      exact this
    have e4 : aN r n k k * V k = aN r n k k * w k + sumN (fun i => if r k i = true then aN r n k k * V (k + 3 ^ i) else 0) n := by
      rw [hV k (by omega), Nat.mul_add, sumN_mulL]
      congr 1
      refine sumN_cg n (fun i _ => ?_)
      by_cases c : r k i = true
      · rw [if_pos c, if_pos c]
      · rw [if_neg c, if_neg c, Nat.mul_zero]
    rw [e1, e2]
    omega
/-- what is gathered on all ways from the start is what the start is worth -/
theorem dual (hN : 0 < N) (hr : ∀ s i, s < N → i < n → r s i = true → s + 3 ^ i < N) (hV : ∀ s, s < N → V s = w s + sumN (fun i => if r s i = true then V (s + 3 ^ i) else 0) n) : sumN (fun s => aN r n N s * w s) N = V 0 := by
  rw [← dual_k hN hr hV N (Nat.le_refl _)]
  exact sumN_cg N (fun s hs => by rw [if_pos hs])
end N7

