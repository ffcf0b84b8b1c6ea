/-! ways from the start, on both sides -/
section N8
variable {rC q : Nat → Nat → Bool} {n N : Nat} {gd lv : Nat → Prop}
theorem aN_bad (h0 : gd 0) (h : ∀ s i, s < N → i < n → gd s → rC s i = true → gd (s + 3 ^ i)) : ∀ k, k ≤ N → ∀ t, ¬ gd t → aN rC n k t = 0 := by
  intro k
  induction k with
  | zero =>
    intro _ t ht
    show dl0 t = 0
    unfold dl0
    rw [if_neg]
    intro e
    exact ht (e ▸ h0)
  | succ k ih =>
    intro hk t ht
    rw [aN_s, ih (by omega) t ht, Nat.zero_add]
    refine sumN_0 n (fun i hi => ?_)
    by_cases c : rC k i = true ∧ k + 3 ^ i = t
    · rw [if_pos c]
      refine ih (by omega) k (fun hg => ht ?_)
      rw [← c.2]
      exact h k i (by omega) hi hg c.1
    · rw [if_neg c]
theorem aN_live (h0 : gd 0) (h : ∀ s i, s < N → i < n → gd s → rC s i = true → gd (s + 3 ^ i)) (hlg : ∀ s, s < N → lv s → gd s) (hlv : ∀ s i, s < N → i < n → q s i = true → lv (s + 3 ^ i) → lv s) (he : ∀ s i, s < N → i < n → gd s → lv (s + 3 ^ i) → rC s i = q s i) : ∀ k, k ≤ N → ∀ t, lv t → aN rC n k t = aN q n k t := by
  intro k
  induction k with
  | zero => intro _ t _; rfl
  | succ k ih =>
    intro hk t ht
    rw [aN_s, aN_s, ih (by omega) t ht]
    congr 1
    refine sumN_cg n (fun i hi => ?_)
    by_cases e : k + 3 ^ i = t
    · have ht' : lv (k + 3 ^ i) := e ▸ ht
      by_cases cq : q k i = true
      · have hl := hlv k i (by omega) hi cq ht'
        have hr := he k i (by omega) hi (hlg k (by omega) hl) ht'
        rw [if_pos ⟨by rw [hr]; exact cq, e⟩, if_pos ⟨cq, e⟩]
        exact ih (by omega) k hl
      · by_cases cr : rC k i = true
        · rw [if_pos ⟨cr, e⟩, if_neg (fun z => cq z.1)]
          refine aN_bad h0 h k (by omega) k (fun hg => cq ?_)
          rw [← he k i (by omega) hi hg ht']
          exact cr
        · rw [if_neg (fun z => cr z.1), if_neg (fun z => cq z.1)]
    · rw [if_neg (fun z => e z.2), if_neg (fun z => e z.2)]
end N8
theorem tsS_at {bh : Nat → Int64} {s ins com us : Nat} {he : Int64} {q : tT} : ∀ k, (∀ t, (tsS bh s ins com us he q k).1 t = q.1 t + sumL (fun i => if us.testBit i = true ∧ s + 3 ^ i = t then he else 0) k) ∧ (∀ x, (tsS bh s ins com us he q k).2.1 x = q.2.1 x + sumL (fun i => if us.testBit i = true ∧ ins.testBit i = false ∧ 128 * i + com = x then he * bh (s + 3 ^ i) else 0) k) ∧ (∀ x, (tsS bh s ins com us he q k).2.2 x = q.2.2 x + sumL (fun i => if us.testBit i = true ∧ ins.testBit i = false ∧ 128 * i + ins = x then he * bh (s + 3 ^ i) else 0) k) := by
  intro k
  induction k with
  | zero => exact ⟨fun t => (Int64.add_zero _).symm, fun t => (Int64.add_zero _).symm, fun t => (Int64.add_zero _).symm⟩
  | succ k ih =>
    obtain ⟨i1, i2, i3⟩ := ih
    have upd_a : ∀ (f : Nat → Int64) (g : Nat → Int64) (c : Nat) (y : Int64) (F : Nat → Int64), (∀ t, f t = g t + F t) → ∀ t, z_up f c (f c + y) t = g t + (F t + (if c = t then y else 0)) := by
      intro f g c y F hf t
      by_cases e : t = c
      · rw [e, zup_eq, if_pos rfl, hf c, Int64.add_assoc]
      · rw [zup_ne _ _ e, if_neg (fun z => e z.symm), Int64.add_zero, hf t]
    have keep : ∀ (f g F : Nat → Int64), (∀ t, f t = g t + F t) → ∀ t, f t = g t + (F t + 0) := fun f g F hf t => by rw [Int64.add_zero]; exact hf t
    have e : tsS bh s ins com us he q (k + 1) = if us.testBit k = true then (if ins.testBit k = true then (z_up (tsS bh s ins com us he q k).1 (s + 3 ^ k) ((tsS bh s ins com us he q k).1 (s + 3 ^ k) + he), (tsS bh s ins com us he q k).2.1, (tsS bh s ins com us he q k).2.2) else (z_up (tsS bh s ins com us he q k).1 (s + 3 ^ k) ((tsS bh s ins com us he q k).1 (s + 3 ^ k) + he), z_up (tsS bh s ins com us he q k).2.1 (128 * k + com) ((tsS bh s ins com us he q k).2.1 (128 * k + com) + he * bh (s + 3 ^ k)), z_up (tsS bh s ins com us he q k).2.2 (128 * k + ins) ((tsS bh s ins com us he q k).2.2 (128 * k + ins) + he * bh (s + 3 ^ k)))) else tsS bh s ins com us he q k := rfl
    rw [e]
    generalize tsS bh s ins com us he q k = r at *
    obtain ⟨r1, r2, r3⟩ := r
    simp only at i1 i2 i3
    simp only [sumL_s]
    by_cases c1 : us.testBit k = true
    · rw [if_pos c1]
      by_cases c2 : ins.testBit k = true
      · rw [if_pos c2]
        refine ⟨fun t => ?_, fun x => ?_, fun x => ?_⟩
        · simp only [c1, true_and]; exact upd_a _ _ _ _ _ i1 t
        · rw [if_neg (fun z => by rw [c2] at z; exact absurd z.2.1 (by decide))]; exact keep _ _ _ i2 x
        · rw [if_neg (fun z => by rw [c2] at z; exact absurd z.2.1 (by decide))]; exact keep _ _ _ i3 x
      · rw [if_neg c2]
        have c2 : ins.testBit k = false := by cases z : ins.testBit k <;> simp_all
        refine ⟨fun t => ?_, fun x => ?_, fun x => ?_⟩
        · simp only [c1, true_and]; exact upd_a _ _ _ _ _ i1 t
        · simp only [c1, c2, true_and]; exact upd_a _ _ _ _ _ i2 x
        · simp only [c1, c2, true_and]; exact upd_a _ _ _ _ _ i3 x
    · rw [if_neg c1]
      refine ⟨fun t => ?_, fun x => ?_, fun x => ?_⟩
      · rw [if_neg (fun z => c1 z.1)]; exact keep _ _ _ i1 t
      · rw [if_neg (fun z => c1 z.1)]; exact keep _ _ _ i2 x
      · rw [if_neg (fun z => c1 z.1)]; exact keep _ _ _ i3 x

