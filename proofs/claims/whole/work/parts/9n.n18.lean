/-! the cheapest way, the way of the fewest lies -/
section N18
variable {n : Nat} {A : Nat → Nat → Nat} {pr wt : Nat → Nat → Int32} {co y : Nat → Int32} {ev : Nat → Nat} {cn cp : Nat → Nat → Bool} {G : Nat → Prop}
theorem path_mn (hn : n ≤ 7) (U : usG n pr wt ev cn G) (hc : lcT n pr ev co) (hm : lmT n wt cn y) (hA : ∀ s, s < 3 ^ n → ∀ i, i < n → (A 0 s).testBit i = decide (dg s i = 1)) (hcp : ∀ s i, s < 3 ^ n - 1 → G s → i < n → cp s (2 * i) = ((ev s).testBit i && decide (dg s i = 0)) ∧ cp s (2 * i + 1) = ((ev s).testBit i && decide (dg s i = 1))) {P : Nat → Nat → Bool} (hP : ∀ s e, P s e = (cp s e && decide (wt s e + y (s + 3 ^ (e / 2)) = y s))) : ∀ s, s < 3 ^ n - 1 → G s → ∃ g, g < n ∧ dg s g ≤ 1 ∧ s + 3 ^ g < 3 ^ n ∧ G (s + 3 ^ g) ∧ srch (cgB pr co (ev s) s) 0 n = g ∧ srch (P s) 0 (2 * n) = 2 * g + dg s g ∧ (A 0 s).testBit g = decide (dg s g = 1) := by
  intro s hs hG
  have hs' : s < 3 ^ n := by omega
  have L := least_eq hn U hc hm
  obtain ⟨u1, u2, u3, u4⟩ := U
  have hco := hc.2 s hs
  have hex : ∃ i, i < n ∧ cgB pr co (ev s) s i = true := by
    cases e : mnO (fun i => (ev s).testBit i) (fun i => pr s i + co (s + 3 ^ i)) n with
    | none =>
      obtain ⟨i, i1, i2⟩ := u1 s hs hG
      have := (mnO_is (us := fun i => (ev s).testBit i) n).2 e i i1
      rw [this] at i2
      exact absurd i2 (by decide)
    | some m =>
      obtain ⟨⟨i, i1, i2, i3⟩, -⟩ := (mnO_is (us := fun i => (ev s).testBit i) n).1 m e
      rw [e] at hco
      refine ⟨i, i1, ?_⟩
      unfold cgB
      rw [i2, Bool.true_and]
      apply decide_eq_true
      rw [hco]
      exact i3
  obtain ⟨g, g1, g2, g3⟩ := ex_least n hex
  have g2' := g2
  unfold cgB at g2'
  rw [Bool.and_eq_true] at g2'
  obtain ⟨a1, a2, a3, a4, a5, a6⟩ := u2 s g hs hG g1 g2'.1
  have hval : ∀ i, i < n → (ev s).testBit i = true → ((wt s (2 * i + dg s i) + y (s + 3 ^ i) = y s) ↔ (pr s i + co (s + 3 ^ i) = co s)) := by
    intro i hi hu
    obtain ⟨b1, b2, b3, b4, b5, b6⟩ := u2 s i hs hG hi hu
    rw [b4, (L _ b2 b3).1, (L s hs' hG).1]
  refine ⟨g, g1, a1, a2, a3, srch_eq n 0 g (Nat.zero_le _) (by omega) g2 (fun j _ hj => g3 j hj), ?_, hA s hs' g g1⟩
  have hcpg : ∀ i, i < n → ∀ e, e / 2 = i → cp s e = true → (ev s).testBit i = true ∧ e = 2 * i + dg s i := by
    intro i hi e he h
    obtain ⟨c0, c1⟩ := hcp s i hs hG hi
    rcases (show e = 2 * i ∨ e = 2 * i + 1 by omega) with z | z
    · rw [z, c0, Bool.and_eq_true] at h
      have := of_decide_eq_true h.2
      exact ⟨h.1, by omega⟩
    · rw [z, c1, Bool.and_eq_true] at h
      have := of_decide_eq_true h.2
      exact ⟨h.1, by omega⟩
  refine srch_eq (2 * n) 0 _ (Nat.zero_le _) (by omega) ?_ (fun j _ hj => ?_)
  · rw [hP, show (2 * g + dg s g) / 2 = g by omega]
    have hcpt : cp s (2 * g + dg s g) = true := by
      obtain ⟨c0, c1⟩ := hcp s g hs hG g1
      rcases (show dg s g = 0 ∨ dg s g = 1 by omega) with z | z
      · rw [z, Nat.add_zero, c0, g2'.1, z]; rfl
      · rw [z, c1, g2'.1, z]; rfl
    rw [hcpt, Bool.true_and]
    exact decide_eq_true ((hval g g1 g2'.1).mpr (of_decide_eq_true g2'.2))
  · cases e : P s j
    · rfl
    · exfalso
      rw [hP, Bool.and_eq_true] at e
      obtain ⟨f1, f2⟩ := hcpg (j / 2) (by omega) j rfl e.1
      have hv := of_decide_eq_true e.2
      rw [f2, show (2 * (j / 2) + dg s (j / 2)) / 2 = j / 2 by omega] at hv
      have hpr := (hval (j / 2) (by omega) f1).mp hv
      by_cases c : j / 2 < g
      · have := g3 (j / 2) c
        unfold cgB at this
        rw [f1, decide_eq_true hpr] at this
        exact absurd this (by decide)
      · have : j / 2 = g := by omega
        rw [this] at f2
        omega
end N18
/-! the dearest: the most, and how many ways have it -/
def mxO (us : Nat → Bool) (v : Nat → Int32) (c : Nat → Nat) : Nat → Option (Int32 × Nat)
  | 0 => none
  | k + 1 => if us k = true then (match mxO us v c k with | none => some (v k, c k) | some m => some (if m.1 < v k then (v k, c k) else if v k = m.1 then (m.1, m.2 + c k) else m)) else mxO us v c k
theorem mxO_s (us : Nat → Bool) (v : Nat → Int32) (c : Nat → Nat) (k : Nat) : mxO us v c (k + 1) = if us k = true then (match mxO us v c k with | none => some (v k, c k) | some m => some (if m.1 < v k then (v k, c k) else if v k = m.1 then (m.1, m.2 + c k) else m)) else mxO us v c k := rfl
theorem mxO_is {us : Nat → Bool} {v : Nat → Int32} {c : Nat → Nat} : ∀ k, (∀ i, i < k → us i = true → 0 < c i) → (∀ m, mxO us v c k = some m → (∃ i, i < k ∧ us i = true ∧ v i = m.1) ∧ 0 < m.2 ∧ m.2 ≤ sumN (fun i => if us i = true then c i else 0) k) ∧ (mxO us v c k = none → ∀ i, i < k → us i = false) := by
  intro k
  induction k with
  | zero => intro _; exact ⟨fun m h => (by cases h), fun _ i h => absurd h (Nat.not_lt_zero _)⟩
  | succ k ih =>
    intro hc
    obtain ⟨i1, i2⟩ := ih (fun i hi => hc i (by omega))
    rw [mxO_s, sumN_s]
    by_cases cu : us k = true
    · rw [if_pos cu, if_pos cu]
      have hk := hc k (by omega) cu
      cases e : mxO us v c k with
      | none =>
        refine ⟨fun m h => ?_, fun h => (by cases h)⟩
        simp only [Option.some.injEq] at h
        rw [← h]
        exact ⟨⟨k, by omega, cu, rfl⟩, hk, by show c k ≤ _; omega⟩
      | some m0 =>
        obtain ⟨⟨j, j1, j2, j3⟩, j4, j5⟩ := i1 m0 e
        refine ⟨fun m h => ?_, fun h => (by cases h)⟩
        simp only [Option.some.injEq] at h
        by_cases c1 : m0.1 < v k
        · rw [if_pos c1] at h
          rw [← h]
          exact ⟨⟨k, by omega, cu, rfl⟩, hk, by show c k ≤ _; omega⟩
        · rw [if_neg c1] at h
          by_cases c2 : v k = m0.1
          · rw [if_pos c2] at h
            rw [← h]
            exact ⟨⟨k, by omega, cu, c2⟩, by show 0 < m0.2 + c k; omega, by show m0.2 + c k ≤ _; omega⟩
          · rw [if_neg c2] at h
            rw [← h]
            exact ⟨⟨j, by omega, j2, j3⟩, j4, by omega⟩
    · rw [if_neg cu, if_neg cu, Nat.add_zero]
      have cu : us k = false := by cases e : us k <;> simp_all
      refine ⟨fun m h => ?_, fun h i hi => ?_⟩
      · obtain ⟨⟨j, j1, j2, j3⟩, j4⟩ := i1 m h
        exact ⟨⟨j, by omega, j2, j3⟩, j4⟩
      · by_cases q : i = k
        · rw [q]; exact cu
        · exact i2 h i (by omega)
theorem fgI_mx {pr : Nat → Nat → Int32} {co : Nat → Int32} {w : Nat → Int64} {s e : Nat} {c : Nat → Nat} : ∀ k, (∀ i, i < k → e.testBit i = true → w (s + 3 ^ i) = lN (c i) ∧ 0 < c i) → (sumN (fun i => if e.testBit i = true then c i else 0) k < 2147483648) → itr (fgI pr co w s e) (0, 0) k = (match mxO (fun i => e.testBit i) (fun i => pr s i + co (s + 3 ^ i)) c k with | none => (0, 0) | some m => (m.1, lN m.2)) := by
  intro k
  induction k with
  | zero => intro _ _; rfl
  | succ k ih =>
    intro h hb
    rw [sumN_s] at hb
    have ih := ih (fun i hi => h i (by omega)) (by omega)
    rw [itr_s, ih, mxO_s]
    unfold fgI
    by_cases cu : e.testBit k = true
    · obtain ⟨h1, h2⟩ := h k (by omega) cu
      rw [if_pos cu, if_pos cu, h1]
      cases q : mxO (fun i => e.testBit i) (fun i => pr s i + co (s + 3 ^ i)) c k with
      | none =>
        simp only
        rw [if_pos trivial, Int64.zero_add]
      | some m =>
        have hm2 : 0 < m.2 ∧ m.2 < 2147483648 := by
          have := (mxO_is (us := fun i => e.testBit i) (v := fun i => pr s i + co (s + 3 ^ i)) (c := c) k (fun i hi hu => (h i (by omega) hu).2)).1 m q
          exact ⟨this.2.1, by have := this.2.2; omega⟩
        simp only
        have hz : ¬ lN m.2 = 0 := by rw [lN_z hm2.2]; omega
        rw [if_neg hz]
        by_cases c1 : m.1 < pr s k + co (s + 3 ^ k)
        · rw [if_pos c1, if_pos c1, Int64.zero_add]
        · rw [if_neg c1, if_neg c1]
          by_cases c2 : pr s k + co (s + 3 ^ k) = m.1
          · rw [if_pos c2, if_pos c2, lN_add]
          · rw [if_neg c2, if_neg c2]
    · rw [if_neg cu, if_neg cu]

