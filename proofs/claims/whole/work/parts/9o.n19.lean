/-! the dearest: both sides -/
theorem dtr2_ge {α β : Type} {f : Nat → (Nat → α) × (Nat → β) → (Nat → α) × (Nat → β)} (hl : ∀ t x j, j ≠ t → (f t x).1 j = x.1 j ∧ (f t x).2 j = x.2 j) : ∀ N x j, N ≤ j → (dtr f N x).1 j = x.1 j ∧ (dtr f N x).2 j = x.2 j := by
  intro N
  induction N with
  | zero => intro x j _; exact ⟨rfl, rfl⟩
  | succ N ih =>
    intro x j hj
    rw [dtr_s]
    obtain ⟨a, b⟩ := ih (f N x) j (by omega)
    obtain ⟨c, d⟩ := hl N x j (by omega)
    exact ⟨a.trans c, b.trans d⟩
theorem dtr2_tab {α β : Type} {f : Nat → (Nat → α) × (Nat → β) → (Nat → α) × (Nat → β)} (hl : ∀ t x j, j ≠ t → (f t x).1 j = x.1 j ∧ (f t x).2 j = x.2 j) (hd : ∀ t x y, (∀ j, t < j → x.1 j = y.1 j ∧ x.2 j = y.2 j) → (f t x).1 t = (f t y).1 t ∧ (f t x).2 t = (f t y).2 t) : ∀ N x t, t < N → (dtr f N x).1 t = (f t (dtr f N x)).1 t ∧ (dtr f N x).2 t = (f t (dtr f N x)).2 t := by
  intro N
  induction N with
  | zero => intro x t h; exact absurd h (Nat.not_lt_zero _)
  | succ N ih =>
    intro x t ht
    rw [dtr_s]
    by_cases c : t = N
    · subst c
      obtain ⟨a, b⟩ := dtr2_ge hl t (f t x) t (Nat.le_refl _)
      rw [a, b]
      refine hd t x _ (fun j hj => ?_)
      obtain ⟨a, b⟩ := dtr2_ge hl t (f t x) j (by omega)
      obtain ⟨c, d⟩ := hl t x j (by omega)
      exact ⟨(a.trans c).symm, (b.trans d).symm⟩
    · exact ih _ t (by omega)
theorem mxO_2 {us : Nat → Bool} {v : Nat → Int32} {c : Nat → Nat} {cn : Nat → Bool} {w : Nat → Int32} {c2 : Nat → Nat} {d : Nat → Nat} : ∀ k, (∀ i, i < k → us i = true → d i ≤ 1 ∧ w (2 * i + d i) = v i ∧ c2 (2 * i + d i) = c i) → (∀ i, i < k → cn (2 * i) = (us i && decide (d i = 0)) ∧ cn (2 * i + 1) = (us i && decide (d i = 1))) → mxO cn w c2 (2 * k) = mxO us v c k := by
  intro k
  induction k with
  | zero => intro _ _; rfl
  | succ k ih =>
    intro h1 h2
    have ih := ih (fun i hi => h1 i (by omega)) (fun i hi => h2 i (by omega))
    rw [show 2 * (k + 1) = 2 * k + 1 + 1 by omega, mxO_s, mxO_s, mxO_s, ih]
    obtain ⟨a, b⟩ := h2 k (by omega)
    rw [a, b]
    by_cases cu : us k = true
    · obtain ⟨d1, d2, d3⟩ := h1 k (by omega) cu
      rw [cu]
      rcases (show d k = 0 ∨ d k = 1 by omega) with e | e
      · rw [e] at d2 d3 ⊢
        rw [Nat.add_zero] at d2 d3
        simp [d2, d3]
      · rw [e] at d2 d3 ⊢
        simp [d2, d3]
    · have cu : us k = false := by cases e : us k <;> simp_all
      rw [cu]
      simp
section N19
variable {n : Nat} {cn : Nat → Nat → Bool} {wt : Nat → Nat → Int32}
/-- what the fold over the events of a state gives -/
def mxP (a : Int32) (b : Int64) : Option (Int32 × Nat) → Int32 × Int64
  | none => (a, b)
  | some m => (m.1, lN m.2)
theorem deE_mx {s : Nat} {y : deT} {c : Nat → Nat} : ∀ k, (∀ e, e < k → cn s e = true → y.1 s < wt s e + y.1 (s + 3 ^ (e / 2)) ∧ y.2 (s + 3 ^ (e / 2)) = lN (c e)) → itr (deE cn wt s) y k = (z_up y.1 s (mxP (y.1 s) (y.2 s) (mxO (fun e => cn s e) (fun e => wt s e + y.1 (s + 3 ^ (e / 2))) c k)).1, z_up y.2 s (mxP (y.1 s) (y.2 s) (mxO (fun e => cn s e) (fun e => wt s e + y.1 (s + 3 ^ (e / 2))) c k)).2) := by
  intro k
  induction k with
  | zero =>
    intro _
    show y = (z_up y.1 s (y.1 s), z_up y.2 s (y.2 s))
    rw [zup_self, zup_self]
  | succ k ih =>
    intro h
    have ih := ih (fun e he => h e (by omega))
    have hp := p3_pos (k / 2)
    have z1 : ∀ (x : Int32), z_up y.1 s x (s + 3 ^ (k / 2)) = y.1 (s + 3 ^ (k / 2)) := fun x => zup_ne _ _ (by omega)
    have z2 : ∀ (x : Int64), z_up y.2 s x (s + 3 ^ (k / 2)) = y.2 (s + 3 ^ (k / 2)) := fun x => zup_ne _ _ (by omega)
    have z3 : ∀ (x z : Int32), z_up (z_up y.1 s x) s z = z_up y.1 s z := by
      intro x z
      funext j
      unfold z_up
      split <;> rfl
    have z4 : ∀ (x z : Int64), z_up (z_up y.2 s x) s z = z_up y.2 s z := by
      intro x z
      funext j
      unfold z_up
      split <;> rfl
    rw [itr_s, ih, mxO_s]
    generalize mxO (fun e => cn s e) (fun e => wt s e + y.1 (s + 3 ^ (e / 2))) c k = o
    unfold deE
    by_cases cu : cn s k = true
    · obtain ⟨h1, h2⟩ := h k (by omega) cu
      rw [if_pos cu, if_pos cu]
      simp only [zup_eq, z1, z2, z3, z4]
      rw [h2]
      generalize wt s k + y.1 (s + 3 ^ (k / 2)) = v at *
      cases o with
      | none =>
        show (z_up y.1 s (if y.1 s < v then v else y.1 s), z_up y.2 s (if y.1 s < v then lN (c k) else if v = y.1 s then y.2 s + lN (c k) else y.2 s)) = (z_up y.1 s v, z_up y.2 s (lN (c k)))
        rw [if_pos h1, if_pos h1]
      | some m =>
        show (z_up y.1 s (if m.1 < v then v else m.1), z_up y.2 s (if m.1 < v then lN (c k) else if v = m.1 then lN m.2 + lN (c k) else lN m.2)) = (z_up y.1 s (if m.1 < v then (v, c k) else if v = m.1 then (m.1, m.2 + c k) else m).1, z_up y.2 s (lN (if m.1 < v then (v, c k) else if v = m.1 then (m.1, m.2 + c k) else m).2))
        by_cases c1 : m.1 < v
        · rw [if_pos c1, if_pos c1, if_pos c1]
        · rw [if_neg c1, if_neg c1, if_neg c1]
          by_cases c2 : v = m.1
          · rw [if_pos c2, if_pos c2, lN_add]
          · rw [if_neg c2, if_neg c2]
    · rw [if_neg cu, if_neg cu]
theorem deE_lo {s : Nat} {y : deT} : ∀ k, (∀ j, j ≠ s → (itr (deE cn wt s) y k).1 j = y.1 j ∧ (itr (deE cn wt s) y k).2 j = y.2 j) := by
  intro k
  induction k with
  | zero => intro j _; exact ⟨rfl, rfl⟩
  | succ k ih =>
    intro j hj
    rw [itr_s]
    obtain ⟨a, b⟩ := ih j hj
    generalize itr (deE cn wt s) y k = r at *
    unfold deE
    by_cases cu : cn s k = true
    · rw [if_pos cu]
      simp only [zup_ne _ _ hj]
      exact ⟨a, b⟩
    · rw [if_neg cu]; exact ⟨a, b⟩
theorem deE_dp {s : Nat} {y y' : deT} (h : ∀ j, s ≤ j → y.1 j = y'.1 j ∧ y.2 j = y'.2 j) : ∀ k, (itr (deE cn wt s) y k).1 s = (itr (deE cn wt s) y' k).1 s ∧ (itr (deE cn wt s) y k).2 s = (itr (deE cn wt s) y' k).2 s := by
  intro k
  induction k with
  | zero => exact h s (Nat.le_refl _)
  | succ k ih =>
    rw [itr_s, itr_s]
    have hp := p3_pos (k / 2)
    have n1 := deE_lo (cn := cn) (wt := wt) (s := s) (y := y) k (s + 3 ^ (k / 2)) (by omega)
    have n2 := deE_lo (cn := cn) (wt := wt) (s := s) (y := y') k (s + 3 ^ (k / 2)) (by omega)
    have hn := h (s + 3 ^ (k / 2)) (by omega)
    generalize itr (deE cn wt s) y k = r at *
    generalize itr (deE cn wt s) y' k = r' at *
    unfold deE
    by_cases cu : cn s k = true
    · rw [if_pos cu, if_pos cu]
      simp only [zup_eq]
      rw [n1.1, n1.2, n2.1, n2.2, hn.1, hn.2, ih.1, ih.2]
      exact ⟨rfl, rfl⟩
    · rw [if_neg cu, if_neg cu]; exact ih
theorem de_rec (y0 : deT) : ∀ s, s < 3 ^ n → (deV cn wt n y0).1 s = (itr (deE cn wt s) (z_up (deV cn wt n y0).1 s (if s = 3 ^ n - 1 then 0 else -1000000), z_up (deV cn wt n y0).2 s (if s = 3 ^ n - 1 then 1 else 0)) (2 * n)).1 s ∧ (deV cn wt n y0).2 s = (itr (deE cn wt s) (z_up (deV cn wt n y0).1 s (if s = 3 ^ n - 1 then 0 else -1000000), z_up (deV cn wt n y0).2 s (if s = 3 ^ n - 1 then 1 else 0)) (2 * n)).2 s := by
  refine dtr2_tab (f := deS cn wt n (3 ^ n - 1)) (fun t x j h => ?_) (fun t x y h => ?_) (3 ^ n) y0
  · unfold deS
    obtain ⟨a, b⟩ := deE_lo (cn := cn) (wt := wt) (s := t) (y := (z_up x.1 t (if t = 3 ^ n - 1 then 0 else -1000000), z_up x.2 t (if t = 3 ^ n - 1 then 1 else 0))) (2 * n) j h
    rw [a, b]
    exact ⟨zup_ne _ _ h, zup_ne _ _ h⟩
  · unfold deS
    refine deE_dp (fun j hj => ?_) (2 * n)
    by_cases e : j = t
    · rw [e]; simp only [zup_eq, and_self]
    · simp only [zup_ne _ _ e]; exact h j (by omega)
end N19

