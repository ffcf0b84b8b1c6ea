/-! the first order, on both sides -/
theorem srch_eq {p : Nat → Bool} : ∀ N i k, i ≤ k → k < i + N → p k = true → (∀ j, i ≤ j → j < k → p j = false) → srch p i N = k := by
  intro N
  induction N with
  | zero => intro i k h1 h2; omega
  | succ N ih =>
    intro i k h1 h2 h3 h4
    rw [srch_s]
    by_cases c : i = k
    · subst c; rw [if_pos h3]
    · rw [if_neg (by rw [h4 i (Nat.le_refl _) (by omega)]; decide)]
      exact ih (i + 1) k (by omega) (by omega) h3 (fun j a b => h4 j (by omega) b)
theorem lowB_eq : ∀ x, x < 128 → ∀ k, k < 7 → x.testBit k = true → (∀ j, j < k → x.testBit j = false) → lowB x = k := by decide +kernel
theorem ex_least {p : Nat → Bool} : ∀ N, (∃ i, i < N ∧ p i = true) → ∃ k, k < N ∧ p k = true ∧ ∀ j, j < k → p j = false := by
  intro N
  induction N with
  | zero => intro ⟨i, h, _⟩; exact absurd h (Nat.not_lt_zero _)
  | succ N ih =>
    intro ⟨i, h1, h2⟩
    by_cases c : ∃ i, i < N ∧ p i = true
    · obtain ⟨k, a, b, d⟩ := ih c
      exact ⟨k, by omega, b, d⟩
    · refine ⟨N, by omega, ?_, fun j hj => ?_⟩
      · by_cases q : i = N
        · rw [← q]; exact h2
        · exact absurd ⟨i, by omega, h2⟩ c
      · cases e : p j
        · rfl
        · exact absurd ⟨j, hj, e⟩ c
theorem sumN_ex {f : Nat → Nat} : ∀ n, ¬ sumN f n = 0 → ∃ i, i < n ∧ ¬ f i = 0 := by
  intro n
  induction n with
  | zero => intro h; exact absurd rfl h
  | succ n ih =>
    intro h
    by_cases c : f n = 0
    · rw [sumN_s, c] at h
      obtain ⟨i, a, b⟩ := ih (by omega)
      exact ⟨i, by omega, b⟩
    · exact ⟨n, by omega, c⟩
theorem sumN_mem {f : Nat → Nat} : ∀ n i, i < n → f i ≤ sumN f n := by
  intro n
  induction n with
  | zero => intro i h; exact absurd h (Nat.not_lt_zero _)
  | succ n ih =>
    intro i h
    rw [sumN_s]
    by_cases c : i = n
    · subst c; omega
    · have := ih i (by omega); omega
theorem all_2 : ∀ n s, s < 3 ^ n → (∀ i, i < n → dg s i = 2) → s = 3 ^ n - 1 := by
  intro n
  induction n with
  | zero => intro s hs _; rw [Nat.pow_zero] at *; omega
  | succ n ih =>
    intro s hs h
    have hp := p3_pos n
    have e3 : 3 ^ (n + 1) = 3 ^ n * 3 := Nat.pow_succ _ _
    have hd : s / 3 ^ n % 3 = 2 := h n (by omega)
    have hq : s / 3 ^ n < 3 := by rw [Nat.div_lt_iff_lt_mul hp]; omega
    have h2 : s / 3 ^ n = 2 := by
      generalize s / 3 ^ n = y at hd hq
      omega
    have hr := Nat.div_add_mod s (3 ^ n)
    have hm := Nat.mod_lt s hp
    have key := ih (s % 3 ^ n) hm (fun i hi => by
      have := h i (by omega)
      have e : s = 3 ^ n + (3 ^ n + s % 3 ^ n) := by rw [h2] at hr; omega
      rw [e] at this
      rw [dg_low hi, dg_low hi] at this
      exact this)
    rw [h2] at hr
    omega
theorem ev_0 {n s : Nat} (hs : s < 3 ^ n) (h : evL n s = 0) : s = 3 ^ n - 1 := by
  refine all_2 n s hs (fun i hi => ?_)
  have := sumN_mem (f := fun i => 2 - dg s i) n i hi
  have h2 := dg_lt s i
  have h3 : sumN (fun i => 2 - dg s i) n = 0 := h
  omega
theorem ev_last (n : Nat) : evL n (3 ^ n - 1) = 0 := sumN_0 n (fun i hi => by rw [dg_last hi])
theorem ev_start (n : Nat) : evL n 0 = 2 * n := by
  unfold evL
  have e : ∀ i, dg 0 i = 0 := fun i => by unfold dg; rw [Nat.zero_div]
  induction n with
  | zero => rfl
  | succ n ih => rw [sumN_s, ih, e]; omega
section N6
variable {n : Nat} {A : Nat → Nat → Nat} {ld : Nat → Nat → Bool} {T : Nat → Nat} {W : Nat → Int64} {gd : Nat → Prop}
/-- what both sides know of a state: who may be next -/
def usH (n : Nat) (A : Nat → Nat → Nat) (ld : Nat → Nat → Bool) (T : Nat → Nat) (gd : Nat → Prop) : Prop := n ≤ 7 ∧ gd 0 ∧ pOK n (qOf ld) ∧ cntT n (qOf ld) T ∧ (∀ s i, s < 3 ^ n → i < n → (ld s (2 * i) = true → dg s i = 0) ∧ (ld s (2 * i + 1) = true → dg s i = 1)) ∧ (∀ s, s < 3 ^ n → ∀ i, i < n → (A 0 s).testBit i = decide (dg s i = 1)) ∧ (∀ s, s < 3 ^ n - 1 → gd s → A 2 s < 128 ∧ ∀ i, (A 2 s).testBit i = decide (i < n ∧ qOf ld s i = true ∧ ¬ T (s + 3 ^ i) = 0)) ∧ ∀ s i, s < 3 ^ n → i < n → gd s → qOf ld s i = true → ¬ T (s + 3 ^ i) = 0 → gd (s + 3 ^ i)
theorem nx_st (hU : usH n A ld T gd) (hW : ∀ s, s < 3 ^ n → (W s = 0) = (T s = 0)) {s : Nat} (hs : s < 3 ^ n - 1) (hg : gd s) (hT : ¬ T s = 0) : ∃ g, g < n ∧ dg s g ≤ 1 ∧ s + 3 ^ g < 3 ^ n ∧ gd (s + 3 ^ g) ∧ ¬ T (s + 3 ^ g) = 0 ∧ lowB (A 2 s) = g ∧ srch (fiB ld W s) 0 (2 * n) = 2 * g + dg s g ∧ (A 0 s).testBit g = decide (dg s g = 1) := by
  obtain ⟨hn, -, hp, hC, hld, hA0, hA2, hgn⟩ := hU
  have hs' : s < 3 ^ n := by omega
  rw [hC.2 s hs] at hT
  obtain ⟨i, hi, hne⟩ := sumN_ex n hT
  have hq : qOf ld s i = true ∧ ¬ T (s + 3 ^ i) = 0 := by
    by_cases c : qOf ld s i = true
    · rw [if_pos c] at hne; exact ⟨c, hne⟩
    · rw [if_neg c] at hne; exact absurd rfl hne
  obtain ⟨g, g1, g2, g3⟩ := ex_least (p := fun i => qOf ld s i && decide (¬ T (s + 3 ^ i) = 0)) n ⟨i, hi, by rw [hq.1, decide_eq_true hq.2]; rfl⟩
  rw [Bool.and_eq_true] at g2
  have g2a := g2.1
  have g2b := of_decide_eq_true g2.2
  have hd := hp s g hs' g1 g2a
  have hl := dg_add g1 hs' hd
  obtain ⟨b1, b2⟩ := hA2 s hs hg
  have fi : ∀ e, e < 2 * n → fiB ld W s e = true → qOf ld s (e / 2) = true ∧ ¬ T (s + 3 ^ (e / 2)) = 0 := by
    intro e he h
    unfold fiB at h
    rw [Bool.and_eq_true] at h
    have hq : qOf ld s (e / 2) = true := by
      unfold qOf
      rcases (show e = 2 * (e / 2) ∨ e = 2 * (e / 2) + 1 by omega) with q | q
      · rw [← q, h.1]; rfl
      · rw [← q, h.1, Bool.or_true]
    have hl2 := dg_add (show e / 2 < n by omega) hs' (hp s (e / 2) hs' (by omega) hq)
    refine ⟨hq, fun e0 => of_decide_eq_true h.2 ?_⟩
    rw [hW _ hl2]; exact e0
  refine ⟨g, g1, hd, hl, hgn s g hs' g1 hg g2a g2b, g2b, ?_, ?_, hA0 s hs' g g1⟩
  · refine lowB_eq _ b1 g (by omega) ?_ (fun j hj => ?_)
    · rw [b2, decide_eq_true ⟨g1, g2a, g2b⟩]
    · rw [b2]
      have := g3 j hj
      apply decide_eq_false
      intro q
      rw [q.2.1, decide_eq_true q.2.2] at this
      exact absurd this (by decide)
  · refine srch_eq (2 * n) 0 _ (Nat.zero_le _) (by omega) ?_ (fun j _ hj => ?_)
    · unfold fiB
      have hW' : ¬ W (s + 3 ^ g) = 0 := by rw [hW _ hl]; exact g2b
      have hor : ld s (2 * g) = true ∨ ld s (2 * g + 1) = true := by
        unfold qOf at g2a
        rw [Bool.or_eq_true] at g2a
        exact g2a
      rcases hor with q | q
      · have e := (hld s g hs' g1).1 q
        rw [e, Nat.add_zero, q, show 2 * g / 2 = g by omega, decide_eq_true hW']
        rfl
      · have e := (hld s g hs' g1).2 q
        rw [e, q, show (2 * g + 1) / 2 = g by omega, decide_eq_true hW']
        rfl
    · cases e : fiB ld W s j
      · rfl
      · exfalso
        have f1 := fi j (by omega) e
        by_cases c : j / 2 < g
        · have := g3 (j / 2) c
          rw [f1.1, decide_eq_true f1.2] at this
          exact absurd this (by decide)
        · have hj2 : j = 2 * g := by omega
          have hd1 : dg s g = 1 := by omega
          unfold fiB at e
          rw [Bool.and_eq_true, hj2] at e
          have := (hld s g hs' g1).1 e.1
          omega
theorem first_eq (hU : usH n A ld T gd) (hW : ∀ s, s < 3 ^ n → (W s = 0) = (T s = 0)) (h0 : ¬ T 0 = 0) (rf row : Nat → Int64) : pthG (fiB ld W) n (3 ^ n - 1) (2 * n) 0 ∧ (lrS A n rf (2 * n)).2.1 = 2 * n ∧ (pthR (fiB ld W) n (3 ^ n - 1) (2 * n) 0 (0, row)).1 = 2 * n ∧ ∀ i, i < 2 * n → (pthR (fiB ld W) n (3 ^ n - 1) (2 * n) 0 (0, row)).2 i = (lrS A n rf (2 * n)).2.2 i := by
  have h3 := p3_pos n
  have key : ∀ k, k ≤ 2 * n → (lrS A n rf k).1 < 3 ^ n ∧ gd (lrS A n rf k).1 ∧ ¬ T (lrS A n rf k).1 = 0 ∧ evL n (lrS A n rf k).1 + k = 2 * n ∧ (lrS A n rf k).2.1 = k ∧ ∃ r, (∀ i, i < k → r i = (lrS A n rf k).2.2 i) ∧ pthR (fiB ld W) n (3 ^ n - 1) (2 * n) 0 (0, row) = pthR (fiB ld W) n (3 ^ n - 1) (2 * n - k) (lrS A n rf k).1 (k, r) ∧ (pthG (fiB ld W) n (3 ^ n - 1) (2 * n - k) (lrS A n rf k).1 → pthG (fiB ld W) n (3 ^ n - 1) (2 * n) 0) := by
    intro k
    induction k with
    | zero => intro _; exact ⟨h3, hU.2.1, h0, by rw [Nat.add_zero]; exact ev_start n, rfl, row, fun i hi => absurd hi (Nat.not_lt_zero _), rfl, fun q => q⟩
    | succ k ih =>
      intro hk
      obtain ⟨a1, a2, a3, a4, a5, r, a6, a7, a8⟩ := ih (by omega)
      rw [lrS_s]
      generalize lrS A n rf k = q at *
      obtain ⟨s, c, f⟩ := q
      simp only at a1 a2 a3 a4 a5 a6 a7 a8 ⊢
      have hne : s ≠ 3 ^ n - 1 := fun e => by rw [e, ev_last] at a4; omega
      obtain ⟨g, g1, g2, g3, g4, g5, g6, g7, g8⟩ := nx_st hU hW (show s < 3 ^ n - 1 by omega) a2 a3
      rw [g6, if_pos g1, a5]
      have hev := ev_step g1 g2
      have e2 : 2 * n - k = (2 * n - (k + 1)) + 1 := by omega
      have hdv : (2 * g + dg s g) / 2 = g := by omega
      have eb : 2 * g + (if (A 0 s).testBit g = true then 1 else 0) = 2 * g + dg s g := by
        rw [g8]
        by_cases c1 : dg s g = 1
        · simp [c1]
        · have : dg s g = 0 := by omega
          simp [this]
      refine ⟨g3, g4, g5, by show evL n (s + 3 ^ g) + (k + 1) = 2 * n; omega, rfl, vp_updL r k (lN (2 * g + dg s g)), fun i hi => ?_, ?_, ?_⟩
      · rw [eb]
        show vp_updL r k (lN (2 * g + dg s g)) i = vp_updL f k (lN (2 * g + dg s g)) i
        unfold vp_updL
        by_cases c1 : i = k
        · rw [if_pos c1, if_pos c1]
        · rw [if_neg c1, if_neg c1]; exact a6 i (by omega)
      · rw [a7, e2]
        show (if s = 3 ^ n - 1 then (k, r) else pthR (fiB ld W) n (3 ^ n - 1) (2 * n - (k + 1)) (s + 3 ^ (srch (fiB ld W s) 0 (2 * n) / 2)) (k + 1, vp_updL r k (lN (srch (fiB ld W s) 0 (2 * n))))) = _
        rw [if_neg hne, g7, hdv]
      · intro hG
        refine a8 ?_
        rw [e2]
        refine Or.inr ⟨by omega, hne, by rw [g7]; omega, ?_⟩
        rw [g7, hdv]
        exact hG
  obtain ⟨a1, a2, a3, a4, a5, r, a6, a7, a8⟩ := key (2 * n) (Nat.le_refl _)
  have hl := ev_0 a1 (by omega)
  rw [Nat.sub_self] at a7 a8
  refine ⟨a8 hl, a5, by rw [a7]; rfl, fun i hi => ?_⟩
  rw [a7]
  exact a6 i hi
end N6

