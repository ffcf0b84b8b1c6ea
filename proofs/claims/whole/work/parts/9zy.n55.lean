/-! outcomes of open pairs: masks against counts -/
theorem or_add : ∀ a, a < 64 → ∀ j, j < 6 → a.testBit j = false → a + 2 ^ j = a ||| 2 ^ j ∧ a ||| 2 ^ j < 64 := by decide +kernel
theorem or_add2 : ∀ a, a < 64 → ∀ b, b < 64 → a &&& b = 0 → a + b = a ||| b := by decide +kernel
/-- the pair of that number -/
def nuP (m : Nat) (O W : Nat → Nat) (a b i : Nat) : Prop := i < m ∧ ((O i = a ∧ W i = b) ∨ (O i = b ∧ W i = a))
section N55
variable {n m : Nat} {O W : Nat → Nat} {op : Nat → Int32} {opn : Nat → Nat → Bool} {mt nt rm : Nat → Nat} {fm : Bool} {now : Nat → Int32}
theorem nu_op (hP : numP opn n m O W op (fun _ _ => True)) {a b i : Nat} (h : nuP m O W a b i) : op (a * 7 + b) = nI i ∧ a < n ∧ b < n ∧ a ≠ b := by
  obtain ⟨h1, h2⟩ := h
  obtain ⟨a1, a2, -, -, a5, a6⟩ := hP.2 i h1
  rcases h2 with ⟨rfl, rfl⟩ | ⟨rfl, rfl⟩
  · exact ⟨a5, by omega, a2, by omega⟩
  · exact ⟨a6, a2, by omega, by omega⟩
theorem nu_uni (hP : numP opn n m O W op (fun _ _ => True)) {a b b' i : Nat} (h : nuP m O W a b i) (h' : nuP m O W a b' i) : b = b' := by
  obtain ⟨-, h2⟩ := h
  obtain ⟨h1, h3⟩ := h'
  have := (hP.2 i h1).1
  omega
theorem nu_ex (hP : numP opn n m O W op (fun _ _ => True)) (hs : ∀ a b, a < n → b < n → opn a b = opn b a) {a b : Nat} (ha : a < n) (hb : b < n) (hab : a ≠ b) : (opn a b = true → ∃ i, nuP m O W a b i) ∧ (opn a b = false → op (a * 7 + b) = -1 ∧ ∀ i, ¬ nuP m O W a b i) := by
  have no : opn a b = false → ∀ i, ¬ nuP m O W a b i := by
    rintro h i ⟨h1, h2⟩
    have := (hP.2 i h1).2.2.2.1
    rcases h2 with ⟨e1, e2⟩ | ⟨e1, e2⟩
    · rw [e1, e2, h] at this; exact absurd this (by decide)
    · rw [e1, e2, ← hs a b ha hb, h] at this; exact absurd this (by decide)
  rcases Nat.lt_or_ge a b with c | c
  · obtain ⟨q1, q2⟩ := hP.1 a b c hb trivial
    refine ⟨fun h => ?_, fun h => ⟨(q2 h).1, no h⟩⟩
    obtain ⟨i, i1, i2, i3, -⟩ := q1 h
    exact ⟨i, i1, Or.inl ⟨i2, i3⟩⟩
  · obtain ⟨q1, q2⟩ := hP.1 b a (by omega) ha trivial
    rw [← hs a b ha hb] at q1 q2
    refine ⟨fun h => ?_, fun h => ⟨(q2 h).2, no h⟩⟩
    obtain ⟨i, i1, i2, i3, -⟩ := q1 h
    exact ⟨i, i1, Or.inr ⟨i2, i3⟩⟩
/-- what one who comes adds: its bits -/
theorem ns_bit (hP : numP opn n m O W op (fun _ _ => True)) (hs : ∀ a b, a < n → b < n → opn a b = opn b a) (hm : m ≤ 6) {ins g : Nat} (hg : g < n) (hgi : ins.testBit g = false) : ∀ k, k ≤ n → nsO op ins g k < 64 ∧ ∀ i, (nsO op ins g k).testBit i = true ↔ ∃ b, b < k ∧ ins.testBit b = true ∧ nuP m O W g b i := by
  intro k
  induction k with
  | zero => intro _; exact ⟨(by decide : 0 < 64), fun i => ⟨fun h => absurd h (by show ¬ (0 : Nat).testBit i = true; rw [Nat.zero_testBit]; decide), fun ⟨b, h, _⟩ => absurd h (Nat.not_lt_zero _)⟩⟩
  | succ k ih =>
    intro hk
    obtain ⟨i1, i2⟩ := ih (by omega)
    have e0 : nsO op ins g (k + 1) = if ins.testBit k = true ∧ ¬ op (g * 7 + k) < 0 ∧ op (g * 7 + k) < 6 then nsO op ins g k + 2 ^ (op (g * 7 + k)).toNatClampNeg else nsO op ins g k := rfl
    rw [e0]
    by_cases c : ins.testBit k = true
    · have hgk : g ≠ k := fun e => by rw [e, c] at hgi; exact absurd hgi (by decide)
      obtain ⟨x1, x2⟩ := nu_ex hP hs hg (show k < n by omega) hgk
      cases eo : opn g k
      · obtain ⟨y1, y2⟩ := x2 eo
        rw [if_neg (by rw [y1]; exact fun z => z.2.1 (by decide))]
        refine ⟨i1, fun i => ?_⟩
        rw [i2 i]
        constructor
        · rintro ⟨b, b1, b2, b3⟩
          exact ⟨b, by omega, b2, b3⟩
        · rintro ⟨b, b1, b2, b3⟩
          by_cases e : b = k
          · subst e; exact absurd b3 (y2 i)
          · exact ⟨b, by omega, b2, b3⟩
      · obtain ⟨j, hj⟩ := x1 eo
        have oj := (nu_op hP hj).1
        have jm := hj.1
        have fct : ∀ j, j < 6 → ¬ nI j < 0 ∧ nI j < 6 := by decide
        obtain ⟨f1, f2⟩ := fct j (by omega)
        rw [if_pos (by rw [oj]; exact ⟨c, f1, f2⟩), oj, nI_clamp (by omega)]
        have nj : (nsO op ins g k).testBit j = false := by
          cases e : (nsO op ins g k).testBit j
          · rfl
          · obtain ⟨b, b1, b2, b3⟩ := (i2 j).mp e
            have := nu_uni hP b3 hj
            omega
        obtain ⟨z1, z2⟩ := or_add _ i1 j (by omega) nj
        rw [z1]
        refine ⟨z2, fun i => ?_⟩
        rw [Nat.testBit_or, Bool.or_eq_true, i2 i, Nat.testBit_two_pow, decide_eq_true_eq]
        constructor
        · rintro (⟨b, b1, b2, b3⟩ | h)
          · exact ⟨b, by omega, b2, b3⟩
          · subst h; exact ⟨k, by omega, c, hj⟩
        · rintro ⟨b, b1, b2, b3⟩
          by_cases e : b = k
          · subst e
            refine Or.inr ?_
            have := (nu_op hP b3).1
            rw [oj] at this
            have hi := b3.1
            rw [nI_eqI (by omega) (by omega)] at this
            exact this
          · exact Or.inl ⟨b, by omega, b2, b3⟩
    · rw [if_neg (fun z => c z.1)]
      refine ⟨i1, fun i => ?_⟩
      rw [i2 i]
      constructor
      · rintro ⟨b, b1, b2, b3⟩
        exact ⟨b, by omega, b2, b3⟩
      · rintro ⟨b, b1, b2, b3⟩
        by_cases e : b = k
        · subst e; exact absurd b2 c
        · exact ⟨b, by omega, b2, b3⟩
/-- who has met by then, if it comes out as x says -/
def paT (m : Nat) (O W : Nat → Nat) (x s : Nat) : Nat := itr (fun i r => if x.testBit i = true ∧ ¬ dg s (O i) = 0 ∧ ¬ dg s (W i) = 0 then r ||| 2 ^ i else r) 0 m
theorem pa_bit {x s : Nat} : ∀ k i, (itr (fun i r => if x.testBit i = true ∧ ¬ dg s (O i) = 0 ∧ ¬ dg s (W i) = 0 then r ||| 2 ^ i else r) 0 k).testBit i = true ↔ i < k ∧ x.testBit i = true ∧ ¬ dg s (O i) = 0 ∧ ¬ dg s (W i) = 0 := by
  intro k
  induction k with
  | zero => intro i; exact ⟨fun h => absurd h (by rw [itr_0, Nat.zero_testBit]; decide), fun h => absurd h.1 (Nat.not_lt_zero _)⟩
  | succ k ih =>
    intro i
    rw [itr_s]
    have ih := ih i
    generalize itr (fun i r => if x.testBit i = true ∧ ¬ dg s (O i) = 0 ∧ ¬ dg s (W i) = 0 then r ||| 2 ^ i else r) 0 k = r at *
    by_cases c : x.testBit k = true ∧ ¬ dg s (O k) = 0 ∧ ¬ dg s (W k) = 0
    · rw [if_pos c, Nat.testBit_or, Bool.or_eq_true, ih, Nat.testBit_two_pow, decide_eq_true_eq]
      constructor
      · rintro (h | h)
        · exact ⟨by omega, h.2⟩
        · subst h; exact ⟨by omega, c⟩
      · rintro ⟨h1, h2⟩
        by_cases e : i = k
        · exact Or.inr e.symm
        · exact Or.inl ⟨by omega, h2⟩
    · rw [if_neg c, ih]
      constructor
      · rintro ⟨h1, h2⟩; exact ⟨by omega, h2⟩
      · rintro ⟨h1, h2⟩
        by_cases e : i = k
        · subst e; exact absurd h2 c
        · exact ⟨by omega, h2⟩
theorem pa_b {x s i : Nat} : (paT m O W x s).testBit i = true ↔ i < m ∧ x.testBit i = true ∧ ¬ dg s (O i) = 0 ∧ ¬ dg s (W i) = 0 := pa_bit m i
theorem pa_lt (hm : m ≤ 6) {x s : Nat} : paT m O W x s < 64 := by
  apply Nat.lt_pow_two_of_testBit (n := 6)
  intro i hi
  cases e : (paT m O W x s).testBit i
  · rfl
  · have := (pa_b.mp e).1; omega
/-- an event that goes with an outcome -/
def qX (q : Nat → Nat → Bool) (m n : Nat) (O W : Nat → Nat) (x : Nat) (qx : Nat → Nat → Bool) : Prop := ∀ s g, s < 3 ^ n → g < n → (qx s g = true ↔ q s g = true ∧ (dg s g = 0 → ∀ b i, b < n → nuP m O W g b i → (dg s b = 1 → x.testBit i = true) ∧ (dg s b = 2 → x.testBit i = false)))
variable {A : Nat → Nat → Nat} {p q qx : Nat → Nat → Bool} {TC TM Tx : Nat → Nat} {gd : Nat → Prop} {w : Nat → Int64} {x : Nat}
theorem dg_up {s i j : Nat} (h : dg s i ≤ 1) (hj : ¬ dg s j = 0) : ¬ dg (s + 3 ^ i) j = 0 := by
  obtain ⟨e1, e2⟩ := dg_step h
  by_cases e : j = i
  · rw [e, e1]; omega
  · rw [e2 j e]; exact hj
/-- masks hold only pairs both of whom have come -/
theorem mk_in (H : twoH n A p q TC TM gd) (hA : digA n A) (hP : numP opn n m O W op (fun _ _ => True)) (hs : ∀ a b, a < n → b < n → opn a b = opn b a) (hm : m ≤ 6) (hw : ∀ t p, t < 3 ^ n → btM (w t) p = true → t = 0 ∧ p = 0) : ∀ t, t < 3 ^ n → ∀ p, p < 64 → btM (ooS A op n w t t) p = true → gd t ∧ ∀ i, p.testBit i = true → i < m ∧ ¬ dg t (O i) = 0 ∧ ¬ dg t (W i) = 0 := by
  have hn := H.1
  intro t
  induction t using Nat.strongRecOn with
  | ind t ih =>
    intro ht p hp h
    rcases (fin_at ht hp).mp h with h | ⟨s, j, s1, j1, j2, j3, j4⟩
    · obtain ⟨e1, e2⟩ := hw t p ht h
      subst e1 e2
      exact ⟨H.2.1, fun i hi => absurd hi (by rw [Nat.zero_testBit]; decide)⟩
    · obtain ⟨a1, a2, a3, a4, a5⟩ := two_in H s1 j2
      have hd : dg s j ≤ 1 := H.2.2.1 s j s1 j1 a3
      have hp3 := p3_pos j
      subst j3
      unfold oTx at j4
      have hin := (hA.2.2 s s1 j (by omega)).1
      by_cases c : (A 0 s).testBit j = true
      · rw [if_pos c] at j4
        obtain ⟨g1, g2⟩ := ih s (by omega) s1 p hp j4
        exact ⟨two_gd H s1 g1 j2, fun i hi => ⟨(g2 i hi).1, dg_up hd (g2 i hi).2.1, dg_up hd (g2 i hi).2.2⟩⟩
      · have c' : (A 0 s).testBit j = false := by cases e : (A 0 s).testBit j <;> simp_all
        have d0 : dg s j = 0 := by
          rw [hin] at c'
          have := of_decide_eq_false c'
          omega
        rw [if_neg c, oTS_bt n p hp, Bool.and_eq_true, decide_eq_true_eq] at j4
        obtain ⟨n1, n2⟩ := ns_bit hP hs hm j1 c' n (Nat.le_refl _)
        obtain ⟨g1, g2⟩ := ih s (by omega) s1 (p - nsO op (A 0 s) j n) (by omega) j4.2
        refine ⟨two_gd H s1 g1 j2, ?_⟩
        have dz : (p - nsO op (A 0 s) j n) &&& nsO op (A 0 s) j n = 0 := by
          rw [and0]
          rintro i ⟨z1, z2⟩
          obtain ⟨b, b1, b2, b3⟩ := (n2 i).mp z2
          obtain ⟨-, y1, y2⟩ := g2 i z1
          rcases b3.2 with ⟨e1, e2⟩ | ⟨e1, e2⟩
          · rw [e1] at y1; exact y1 d0
          · rw [e2] at y2; exact y2 d0
        have ep : p = (p - nsO op (A 0 s) j n) ||| nsO op (A 0 s) j n := by
          rw [← or_add2 _ (by omega) _ n1 dz]; omega
        intro i hi
        rw [ep, Nat.testBit_or, Bool.or_eq_true] at hi
        rcases hi with hi | hi
        · exact ⟨(g2 i hi).1, dg_up hd (g2 i hi).2.1, dg_up hd (g2 i hi).2.2⟩
        · obtain ⟨b, b1, b2, b3⟩ := (n2 i).mp hi
          have db : ¬ dg s b = 0 := by
            rw [(hA.2.2 s s1 b (by omega)).1] at b2
            have := of_decide_eq_true b2
            omega
          have dj : ¬ dg (s + 3 ^ j) j = 0 := by rw [(dg_step hd).1]; omega
          refine ⟨b3.1, ?_⟩
          rcases b3.2 with ⟨e1, e2⟩ | ⟨e1, e2⟩
          · rw [e1, e2]; exact ⟨dj, dg_up hd db⟩
          · rw [e1, e2]; exact ⟨dg_up hd db, dj⟩
/-- a step: the outcome so far, before and after -/
theorem pa_st (hA : digA n A) (hn : n ≤ 7) (hP : numP opn n m O W op (fun _ _ => True)) (hs : ∀ a b, a < n → b < n → opn a b = opn b a) (hm : m ≤ 6) {s j : Nat} (s1 : s < 3 ^ n) (j1 : j < n) (hd : dg s j = 0) (hc : ∀ b i, b < n → nuP m O W j b i → (dg s b = 1 → x.testBit i = true) ∧ (dg s b = 2 → x.testBit i = false)) : paT m O W x (s + 3 ^ j) = paT m O W x s + nsO op (A 0 s) j n := by
  have hin := (hA.2.2 s s1 j (by omega)).1
  have c' : (A 0 s).testBit j = false := by rw [hin, hd]; rfl
  obtain ⟨n1, n2⟩ := ns_bit hP hs hm j1 c' n (Nat.le_refl _)
  obtain ⟨e1, e2⟩ := dg_step (s := s) (i := j) (by omega)
  have dz : paT m O W x s &&& nsO op (A 0 s) j n = 0 := by
    rw [and0]
    rintro i ⟨z1, z2⟩
    obtain ⟨b, b1, b2, b3⟩ := (n2 i).mp z2
    obtain ⟨-, -, y1, y2⟩ := pa_b.mp z1
    rcases b3.2 with ⟨q1, q2⟩ | ⟨q1, q2⟩
    · rw [q1] at y1; exact y1 hd
    · rw [q2] at y2; exact y2 hd
  rw [or_add2 _ (pa_lt hm) _ n1 dz]
  apply Nat.eq_of_testBit_eq
  intro i
  rw [Bool.eq_iff_iff, Nat.testBit_or, Bool.or_eq_true, pa_b, pa_b, n2]
  constructor
  · rintro ⟨h1, h2, h3, h4⟩
    by_cases q1 : O i = j
    · refine Or.inr ⟨W i, (hP.2 i h1).2.1, ?_, h1, Or.inl ⟨q1, rfl⟩⟩
      have hW := (hP.2 i h1).2.1
      have hne := (hP.2 i h1).1
      rw [e2 (W i) (by omega)] at h4
      rw [(hA.2.2 s s1 (W i) (by omega)).1]
      refine decide_eq_true ?_
      have l := dg_lt s (W i)
      rcases (show dg s (W i) = 1 ∨ dg s (W i) = 2 by omega) with z | z
      · exact z
      · have := (hc (W i) i hW ⟨h1, Or.inl ⟨q1, rfl⟩⟩).2 z
        rw [this] at h2; exact absurd h2 (by decide)
    · by_cases q2 : W i = j
      · have hW := (hP.2 i h1).2.1
        have hne := (hP.2 i h1).1
        refine Or.inr ⟨O i, by omega, ?_, h1, Or.inr ⟨rfl, q2⟩⟩
        rw [e2 (O i) q1] at h3
        rw [(hA.2.2 s s1 (O i) (by omega)).1]
        refine decide_eq_true ?_
        have l := dg_lt s (O i)
        rcases (show dg s (O i) = 1 ∨ dg s (O i) = 2 by omega) with z | z
        · exact z
        · have := (hc (O i) i (by omega) ⟨h1, Or.inr ⟨rfl, q2⟩⟩).2 z
          rw [this] at h2; exact absurd h2 (by decide)
      · rw [e2 _ q1] at h3
        rw [e2 _ q2] at h4
        exact Or.inl ⟨h1, h2, h3, h4⟩
  · rintro (⟨h1, h2, h3, h4⟩ | ⟨b, b1, b2, b3⟩)
    · exact ⟨h1, h2, dg_up (by omega) h3, dg_up (by omega) h4⟩
    · have db : dg s b = 1 := by
        rw [(hA.2.2 s s1 b (by omega)).1] at b2
        exact of_decide_eq_true b2
      have xb := (hc b i b1 b3).1 db
      have dj : ¬ dg (s + 3 ^ j) j = 0 := by rw [e1]; omega
      refine ⟨b3.1, xb, ?_⟩
      rcases b3.2 with ⟨q1, q2⟩ | ⟨q1, q2⟩
      · rw [q1, q2]; exact ⟨dj, dg_up (by omega) (by omega)⟩
      · rw [q1, q2]; exact ⟨dg_up (by omega) (by omega), dj⟩
theorem pa_go {s j : Nat} (hd : dg s j = 1) : paT m O W x (s + 3 ^ j) = paT m O W x s := by
  obtain ⟨e1, e2⟩ := dg_step (s := s) (i := j) (by omega)
  have e : ∀ k, (dg (s + 3 ^ j) k = 0) ↔ (dg s k = 0) := fun k => by
    by_cases q : k = j
    · rw [q, e1]; omega
    · rw [e2 k q]
  apply Nat.eq_of_testBit_eq
  intro i
  rw [Bool.eq_iff_iff, pa_b, pa_b, e, e]
end N55

