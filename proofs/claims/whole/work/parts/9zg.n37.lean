/-! what a rule's codes are worth, on both sides -/
/-- a code of the class on a stack told as a list -/
def cSt (tf : Nat → Int32) (l : List Int32) (x : Int32) : List Int32 :=
  if x = 3000 then (match l with | a :: r => -a :: r | [] => [])
  else if ¬ x < 2000 then (match l with | b :: a :: r => dnV (x - 2000) a b :: r | l => l)
  else (if ¬ x - 1000 < 0 ∧ x - 1000 < nI 7 then tf (x - 1000).toNatClampNeg else x) :: l
def rnC (tf cd : Nat → Int32) (a : Nat) : Nat → List Int32 → List Int32
  | 0, l => l
  | k + 1, l => cSt tf (rnC tf cd a k l) (cd (a + k))
def rnM (tf cd : Nat → Int32) (a : Nat) : Nat → List Int32 → List Int32
  | 0, l => l
  | k + 1, l => rS tf (rnM tf cd a k l) (cd (a + k))
def okM (x : Int32) (m : Nat) : Prop := (x = 3000 ∧ 1 ≤ m) ∨ (¬ x = 3000 ∧ ¬ x < 2000 ∧ 2 ≤ m) ∨ (¬ x = 3000 ∧ x < 2000 ∧ (x < 1000 ∨ vp_in (x - 1000) 7))
/-- codes from a on, below b, that put one number on the stack -/
def segC (cd : Nat → Int32) (a b : Nat) (v : (Nat → Int32) → Int32) : Prop := ∃ k, b = a + k ∧ ∀ tf l, rnC tf cd a k l = v tf :: l
def segM (cd : Nat → Int32) (a b : Nat) (v : (Nat → Int32) → Int32) : Prop := ∃ k, b = a + k ∧ (∀ tf l, rnM tf cd a k l = v tf :: l) ∧ ∀ tf l j, j < k → okM (cd (a + j)) (rnM tf cd a j l).length
theorem rnC_app (tf cd : Nat → Int32) (a k : Nat) (l : List Int32) : ∀ m, rnC tf cd a (k + m) l = rnC tf cd (a + k) m (rnC tf cd a k l) := by
  intro m
  induction m with
  | zero => rfl
  | succ m ih =>
    show cSt tf (rnC tf cd a (k + m) l) (cd (a + (k + m))) = cSt tf (rnC tf cd (a + k) m (rnC tf cd a k l)) (cd (a + k + m))
    rw [ih, Nat.add_assoc]
theorem rnM_app (tf cd : Nat → Int32) (a k : Nat) (l : List Int32) : ∀ m, rnM tf cd a (k + m) l = rnM tf cd (a + k) m (rnM tf cd a k l) := by
  intro m
  induction m with
  | zero => rfl
  | succ m ih =>
    show rS tf (rnM tf cd a (k + m) l) (cd (a + (k + m))) = rS tf (rnM tf cd (a + k) m (rnM tf cd a k l)) (cd (a + k + m))
    rw [ih, Nat.add_assoc]
theorem rnC_cg {tf cd cd' : Nat → Int32} {a : Nat} {l : List Int32} : ∀ k, (∀ i, a ≤ i → i < a + k → cd i = cd' i) → rnC tf cd a k l = rnC tf cd' a k l := by
  intro k
  induction k with
  | zero => exact fun _ => rfl
  | succ k ih =>
    intro h
    show cSt tf (rnC tf cd a k l) (cd (a + k)) = cSt tf (rnC tf cd' a k l) (cd' (a + k))
    rw [ih (fun i h1 h2 => h i h1 (by omega)), h (a + k) (by omega) (by omega)]
theorem rnM_cg {tf cd cd' : Nat → Int32} {a : Nat} {l : List Int32} : ∀ k, (∀ i, a ≤ i → i < a + k → cd i = cd' i) → rnM tf cd a k l = rnM tf cd' a k l := by
  intro k
  induction k with
  | zero => exact fun _ => rfl
  | succ k ih =>
    intro h
    show rS tf (rnM tf cd a k l) (cd (a + k)) = rS tf (rnM tf cd' a k l) (cd' (a + k))
    rw [ih (fun i h1 h2 => h i h1 (by omega)), h (a + k) (by omega) (by omega)]
theorem segC_cg {cd cd' : Nat → Int32} {a b : Nat} {v : (Nat → Int32) → Int32} (h : segC cd a b v) (he : ∀ i, a ≤ i → i < b → cd i = cd' i) : segC cd' a b v := by
  obtain ⟨k, e, h1⟩ := h
  subst e
  exact ⟨k, rfl, fun tf l => by rw [← rnC_cg k he]; exact h1 tf l⟩
theorem segM_cg {cd cd' : Nat → Int32} {a b : Nat} {v : (Nat → Int32) → Int32} (h : segM cd a b v) (he : ∀ i, a ≤ i → i < b → cd i = cd' i) : segM cd' a b v := by
  obtain ⟨k, e, h1, h2⟩ := h
  subst e
  refine ⟨k, rfl, fun tf l => by rw [← rnM_cg k he]; exact h1 tf l, fun tf l j hj => ?_⟩
  rw [← he (a + j) (by omega) (by omega), ← rnM_cg j (fun i h1 h2 => he i h1 (by omega))]
  exact h2 tf l j hj
theorem segC_neg {cd : Nat → Int32} {a b : Nat} {v : (Nat → Int32) → Int32} (h : segC cd a b v) (e : cd b = 3000) : segC cd a (b + 1) (fun tf => -(v tf)) := by
  obtain ⟨k, rfl, h1⟩ := h
  refine ⟨k + 1, rfl, fun tf l => ?_⟩
  show cSt tf (rnC tf cd a k l) (cd (a + k)) = _
  rw [h1, e]
  rfl
theorem segM_neg {cd : Nat → Int32} {a b : Nat} {v : (Nat → Int32) → Int32} (h : segM cd a b v) (e : cd b = 3000) : segM cd a (b + 1) (fun tf => -(v tf)) := by
  obtain ⟨k, rfl, h1, h2⟩ := h
  refine ⟨k + 1, rfl, fun tf l => ?_, fun tf l j hj => ?_⟩
  · show rS tf (rnM tf cd a k l) (cd (a + k)) = _
    rw [h1, e]
    rfl
  · by_cases q : j = k
    · subst q
      rw [h1, e]
      exact Or.inl ⟨rfl, by show 1 ≤ l.length + 1; omega⟩
    · exact h2 tf l j (by omega)
theorem segC_bin {cd : Nat → Int32} {a b e : Nat} {v w : (Nat → Int32) → Int32} {x : Nat} (h : segC cd a b v) (h' : segC cd b e w) (hx : x < 256) (ee : cd e = 2000 + nI x) : segC cd a (e + 1) (fun tf => dnV (nI x) (v tf) (w tf)) := by
  obtain ⟨k, rfl, h1⟩ := h
  obtain ⟨m, rfl, h2⟩ := h'
  refine ⟨k + m + 1, by omega, fun tf l => ?_⟩
  show cSt tf (rnC tf cd a (k + m) l) (cd (a + (k + m))) = _
  rw [rnC_app, h1, h2, ← Nat.add_assoc, ee]
  have e1 : ∀ x, x < 256 → ¬ (2000 + nI x : Int32) = 3000 ∧ ¬ (2000 + nI x : Int32) < 2000 ∧ (2000 + nI x : Int32) - 2000 = nI x := by decide +kernel
  obtain ⟨q1, q2, q3⟩ := e1 x hx
  unfold cSt
  rw [if_neg q1, if_pos q2, q3]
theorem segM_bin {cd : Nat → Int32} {a b e : Nat} {v w : (Nat → Int32) → Int32} {x : Nat} (h : segM cd a b v) (h' : segM cd b e w) (hx : x < 256) (ee : cd e = 2000 + nI x) : segM cd a (e + 1) (fun tf => wkV (nI x) (v tf) (w tf)) := by
  obtain ⟨k, rfl, h1, g1⟩ := h
  obtain ⟨m, rfl, h2, g2⟩ := h'
  have e1 : ∀ x, x < 256 → ¬ (2000 + nI x : Int32) = 3000 ∧ ¬ (2000 + nI x : Int32) < 2000 ∧ (2000 + nI x : Int32) - 2000 = nI x := by decide +kernel
  obtain ⟨q1, q2, q3⟩ := e1 x hx
  refine ⟨k + m + 1, by omega, fun tf l => ?_, fun tf l j hj => ?_⟩
  · show rS tf (rnM tf cd a (k + m) l) (cd (a + (k + m))) = _
    rw [rnM_app, h1, h2, ← Nat.add_assoc, ee]
    unfold rS
    rw [if_neg q1, if_pos q2, q3]
  · by_cases c1 : j < k
    · exact g1 tf l j c1
    · by_cases c2 : j < k + m
      · obtain ⟨i, rfl⟩ : ∃ i, j = k + i := ⟨j - k, by omega⟩
        rw [rnM_app, ← Nat.add_assoc]
        exact g2 tf _ i (by omega)
      · have ej : j = k + m := by omega
        subst ej
        rw [rnM_app, h1, h2, ← Nat.add_assoc, ee]
        exact Or.inr (Or.inl ⟨q1, q2, by show 2 ≤ l.length + 1 + 1; omega⟩)
theorem num_f : ∀ x, x < 1000 → ¬ nI x = 3000 ∧ nI x < 2000 ∧ nI x - 1000 < 0 ∧ nI x < 1000 := by decide +kernel
theorem thing_f : ∀ x, x < 7 → ¬ (1000 + nI x : Int32) = 3000 ∧ (1000 + nI x : Int32) < 2000 ∧ ¬ (1000 + nI x : Int32) - 1000 < 0 ∧ (1000 + nI x : Int32) - 1000 < nI 7 ∧ ((1000 + nI x : Int32) - 1000).toNatClampNeg = x ∧ ¬ (1000 + nI x : Int32) < 1000 := by decide +kernel
theorem segC_num {cd : Nat → Int32} {a x : Nat} (hx : x < 1000) (e : cd a = nI x) : segC cd a (a + 1) (fun _ => nI x) := by
  refine ⟨1, rfl, fun tf l => ?_⟩
  show cSt tf l (cd (a + 0)) = _
  rw [Nat.add_zero, e]
  obtain ⟨q1, q2, q3, -⟩ := num_f x hx
  unfold cSt
  rw [if_neg q1, if_neg (fun z => z q2), if_neg (fun z => z.1 q3)]
theorem segM_num {cd : Nat → Int32} {a x : Nat} (hx : x < 1000) (e : cd a = nI x) : segM cd a (a + 1) (fun _ => nI x) := by
  obtain ⟨q1, q2, q3, q4⟩ := num_f x hx
  refine ⟨1, rfl, fun tf l => ?_, fun tf l j hj => ?_⟩
  · show rS tf l (cd (a + 0)) = _
    rw [Nat.add_zero, e]
    unfold rS
    rw [if_neg q1, if_neg (fun z => z q2), if_pos q4]
  · have : j = 0 := by omega
    subst this
    rw [Nat.add_zero, e]
    exact Or.inr (Or.inr ⟨q1, q2, Or.inl q4⟩)
theorem segC_thing {cd : Nat → Int32} {a x : Nat} (hx : x < 7) (e : cd a = 1000 + nI x) : segC cd a (a + 1) (fun tf => tf x) := by
  refine ⟨1, rfl, fun tf l => ?_⟩
  show cSt tf l (cd (a + 0)) = _
  rw [Nat.add_zero, e]
  obtain ⟨q1, q2, q3, q4, q5, -⟩ := thing_f x hx
  unfold cSt
  rw [if_neg q1, if_neg (fun z => z q2), if_pos ⟨q3, q4⟩, q5]
theorem segM_thing {cd : Nat → Int32} {a x : Nat} (hx : x < 7) (e : cd a = 1000 + nI x) : segM cd a (a + 1) (fun tf => tf x) := by
  obtain ⟨q1, q2, q3, q4, q5, q6⟩ := thing_f x hx
  refine ⟨1, rfl, fun tf l => ?_, fun tf l j hj => ?_⟩
  · show rS tf l (cd (a + 0)) = _
    rw [Nat.add_zero, e]
    unfold rS
    rw [if_neg q1, if_neg (fun z => z q2), if_neg q6, q5]
  · have : j = 0 := by omega
    subst this
    rw [Nat.add_zero, e]
    refine Or.inr (Or.inr ⟨q1, q2, Or.inr ?_⟩)
    unfold vp_in
    rw [q5]
    rintro (z | z)
    · exact q3 z
    · omega
/-- the class's stack and the list -/
theorem wAll_l {tf cd st : Nat → Int32} : ∀ k, k ≤ 40 → (wAll 7 tf cd st k).2 = (rnC tf cd 0 k []).length ∧ stR (wAll 7 tf cd st k).1 (rnC tf cd 0 k []) ∧ (rnC tf cd 0 k []).length ≤ k := by
  intro k
  induction k with
  | zero => exact fun _ => ⟨rfl, trivial, Nat.le_refl _⟩
  | succ k ih =>
    intro hk
    obtain ⟨i1, i2, i3⟩ := ih (by omega)
    show (wStep 7 tf (wAll 7 tf cd st k) (cd k)).2 = (cSt tf (rnC tf cd 0 k []) (cd (0 + k))).length ∧ stR (wStep 7 tf (wAll 7 tf cd st k) (cd k)).1 (cSt tf (rnC tf cd 0 k []) (cd (0 + k))) ∧ (cSt tf (rnC tf cd 0 k []) (cd (0 + k))).length ≤ k + 1
    rw [Nat.zero_add]
    generalize wAll 7 tf cd st k = q at *
    generalize rnC tf cd 0 k [] = l at *
    generalize cd k = x
    obtain ⟨q1, q2⟩ := q
    simp only at i1 i2
    subst i1
    unfold wStep cSt
    by_cases c1 : x = 3000
    · rw [if_pos c1, if_pos c1]
      cases l with
      | nil =>
        rw [if_neg (show ¬ 1 ≤ ([] : List Int32).length by decide)]
        exact ⟨rfl, trivial, Nat.zero_le _⟩
      | cons a r =>
        rw [if_pos (show 1 ≤ (a :: r).length by show 1 ≤ r.length + 1; omega)]
        refine ⟨rfl, ?_, by show r.length + 1 ≤ k + 1; have : r.length + 1 ≤ k := i3; omega⟩
        show upd q1 (r.length + 1 - 1) _ r.length = -a ∧ stR (upd q1 (r.length + 1 - 1) _) r
        rw [Nat.add_sub_cancel]
        exact ⟨by rw [upd_s]; show -(q1 (r.length + 1 - 1)) = -a; rw [Nat.add_sub_cancel, i2.1], stR_upd (Nat.le_refl _) i2.2⟩
    · rw [if_neg c1, if_neg c1]
      by_cases c2 : x < 2000
      · simp only [if_neg (show ¬ ¬ x < 2000 from fun z => z c2), if_pos (show l.length < 40 by omega)]
        refine ⟨rfl, ⟨upd_s _ _ _, stR_upd (Nat.le_refl _) i2⟩, by show l.length + 1 ≤ k + 1; omega⟩
      · rw [if_pos c2, if_pos c2]
        match l, i2, i3 with
        | [], i2, i3 => exact ⟨rfl, trivial, Nat.zero_le _⟩
        | [a], i2, i3 => exact ⟨rfl, i2, by show 1 ≤ k + 1; omega⟩
        | b :: a :: r, i2, i3 =>
          rw [if_pos (show 2 ≤ (b :: a :: r).length by show 2 ≤ r.length + 1 + 1; omega)]
          refine ⟨rfl, ?_, by show r.length + 1 ≤ k + 1; have : r.length + 1 + 1 ≤ k := i3; omega⟩
          obtain ⟨b1, b2, b3⟩ := i2
          have b1' : q1 (r.length + 1) = b := b1
          show upd q1 (r.length + 1 + 1 - 2) (dnV (x - 2000) (q1 (r.length + 1 + 1 - 2)) (q1 (r.length + 1 + 1 - 1))) r.length = dnV (x - 2000) a b ∧ stR (upd q1 (r.length + 1 + 1 - 2) _) r
          rw [show r.length + 1 + 1 - 2 = r.length by omega, show r.length + 1 + 1 - 1 = r.length + 1 by omega, b1', b2]
          exact ⟨upd_s _ _ _, stR_upd (Nat.le_refl _) b3⟩
/-- worth by the class's codes -/
theorem wV_seg {tf cd st : Nat → Int32} {sz : Nat} {v : (Nat → Int32) → Int32} (hz : sz ≤ 40) (h : segC cd 0 sz v) : wV 7 tf cd st sz = clV99 (v tf) := by
  obtain ⟨k, e, h1⟩ := h
  rw [Nat.zero_add] at e
  subst e
  obtain ⟨-, i2, -⟩ := wAll_l (tf := tf) (cd := cd) (st := st) sz hz
  rw [h1] at i2
  have e0 : (wAll 7 tf cd st sz).1 0 = v tf := i2.1
  unfold wV clV99
  rw [e0]
theorem rnM_L (tf cd : Nat → Int32) : ∀ k, rnM tf cd 0 k [] = rL tf cd k := by
  intro k
  induction k with
  | zero => rfl
  | succ k ih =>
    show rS tf (rnM tf cd 0 k []) (cd (0 + k)) = rS tf (rL tf cd k) (cd k)
    rw [ih, Nat.zero_add]
/-- worth by the model's codes -/
theorem rlV_seg {tf cd : Nat → Int32} {L : Nat} {v : (Nat → Int32) → Int32} (h0 : 0 < L) (h : segM cd 0 L v) : rlV tf cd L = v tf := by
  obtain ⟨k, e, h1, -⟩ := h
  rw [Nat.zero_add] at e
  subst e
  unfold rlV
  rw [if_neg (by omega), ← rnM_L, h1]
  rfl
theorem rW_seg {cd : Nat → Int32} {L : Nat} {v : (Nat → Int32) → Int32} (hL : L ≤ 80) (h : segM cd 0 L v) : rW cd L := by
  obtain ⟨k, e, h1, h2⟩ := h
  rw [Nat.zero_add] at e
  subst e
  refine ⟨hL, fun _ tf => ?_, fun tf j hj => ?_⟩
  · rw [← rnM_L, h1]; rfl
  · have := h2 tf [] j hj
    rw [Nat.zero_add, rnM_L] at this
    have hl := rL_len tf cd j
    rcases this with q | q | ⟨q1, q2, q3⟩
    · exact Or.inl q
    · exact Or.inr (Or.inl q)
    · exact Or.inr (Or.inr ⟨q1, q2, by omega, q3⟩)
theorem rW_0 (cd : Nat → Int32) : rW cd 0 := ⟨by decide, fun h => absurd h (by decide), fun tf k hk => absurd hk (Nat.not_lt_zero k)⟩

