/-! the class's table, and that both count alike -/
theorem and0 {x y : Nat} : x &&& y = 0 ↔ ∀ k, ¬ (x.testBit k = true ∧ y.testBit k = true) := by
  constructor
  · intro h k q
    have := congrArg (fun z => z.testBit k) h
    simp only [Nat.testBit_and, Nat.zero_testBit] at this
    rw [q.1, q.2] at this
    exact absurd this (by decide)
  · intro h
    apply Nat.eq_of_testBit_eq
    intro k
    rw [Nat.testBit_and, Nat.zero_testBit]
    have := h k
    cases c1 : x.testBit k <;> cases c2 : y.testBit k <;> simp_all
theorem bit_out {x k : Nat} (hx : x < 128) (hk : 7 ≤ k) : x.testBit k = false := Nat.testBit_lt_two_pow (Nat.lt_of_lt_of_le hx (Nat.pow_le_pow_right (n := 2) (by decide) hk))
theorem cpl_bit {x k : Nat} (hx : x < 128) : (127 - x).testBit k = (decide (k < 7) && !x.testBit k) := by
  by_cases c : k < 7
  · rw [decide_eq_true c, Bool.true_and]
    exact (show ∀ x, x < 128 → ∀ k, k < 7 → (127 - x).testBit k = !x.testBit k by decide +kernel) x hx k c
  · rw [decide_eq_false c, Bool.false_and]
    exact bit_out (by omega) (by omega)
theorem pw_and {x k : Nat} : (x &&& 2 ^ k = 0) = (x.testBit k = false) := by
  apply propext
  rw [and0]
  constructor
  · intro h
    have := h k
    rw [Nat.testBit_two_pow_self] at this
    cases c : x.testBit k
    · rfl
    · exact absurd ⟨c, rfl⟩ this
  · intro h j q
    rw [Nat.testBit_two_pow] at q
    have e := of_decide_eq_true q.2
    subst e
    rw [h] at q
    exact absurd q.1 (by decide)
section N3
variable {n : Nat} {mt br : Nat → Nat} {I G : Nat → Nat}
/-- who may have the next event, by sets of guests -/
def posC (mt br I G : Nat → Nat) (s i : Nat) : Bool := (decide (dg s i = 1) && gB (mt i) i (I s ||| G s)) || (cB (br i) i (I s) && !decide (dg s i = 2))
theorem posC_ok : pOK n (posC mt br I G) := by
  intro s i hs hi h
  have := dg_lt s i
  by_cases c2 : dg s i = 2
  · unfold posC at h
    simp [c2] at h
  · omega
theorem lbS_2 {bh : Nat → Int64} {ps s : Nat} {T : Nat → Nat} {p : Nat → Bool} (hT : ∀ i, i < n → p i = true → bh (s + 3 ^ i) = lN (T (s + 3 ^ i)) ∧ T (s + 3 ^ i) ≤ 681080400) (hp : ∀ i, i < n → ps.testBit i = p i) : ∀ k, k ≤ n → (lbS bh ps s k).2 = lN (sumN (fun i => if p i = true then T (s + 3 ^ i) else 0) k) ∧ ∀ j, (lbS bh ps s k).1.testBit j = decide (j < k ∧ p j = true ∧ ¬ T (s + 3 ^ j) = 0) := by
  intro k
  induction k with
  | zero => intro _; exact ⟨rfl, fun j => by rw [decide_eq_false (fun q => Nat.not_lt_zero _ q.1)]; exact Nat.zero_testBit _⟩
  | succ k ih =>
    intro hk
    obtain ⟨i1, i2⟩ := ih (by omega)
    have hpk := hp k (by omega)
    have e : lbS bh ps s (k + 1) = if ps.testBit k = true ∧ 0 < bh (s + 3 ^ k) then ((lbS bh ps s k).1 ||| 2 ^ k, (lbS bh ps s k).2 + bh (s + 3 ^ k)) else lbS bh ps s k := rfl
    rw [e, sumN_s, hpk]
    by_cases c1 : p k = true
    · obtain ⟨h1, h2⟩ := hT k (by omega) c1
      have h3 : (0 < bh (s + 3 ^ k)) = (0 < T (s + 3 ^ k)) := by rw [h1]; exact lN_pos (by omega)
      by_cases c2 : 0 < T (s + 3 ^ k)
      · rw [if_pos ⟨c1, h3.mpr c2⟩]
        refine ⟨?_, fun j => ?_⟩
        · show (lbS bh ps s k).2 + bh (s + 3 ^ k) = _
          rw [i1, h1, if_pos c1, lN_add]
        · show ((lbS bh ps s k).1 ||| 2 ^ k).testBit j = _
          rw [Nat.testBit_or, i2, Nat.testBit_two_pow]
          by_cases c3 : k = j
          · subst c3
            have c2' : ¬ T (s + 3 ^ k) = 0 := by omega
            simp [c1, c2']
          · simp only [c3, decide_false, Bool.or_false]
            congr 1
            apply propext
            constructor
            · exact fun q => ⟨by omega, q.2⟩
            · exact fun q => ⟨by have := q.1; omega, q.2⟩
      · rw [if_neg (fun q => c2 (h3.mp q.2))]
        have c2' : T (s + 3 ^ k) = 0 := by omega
        refine ⟨?_, fun j => ?_⟩
        · rw [i1, if_pos c1, c2', Nat.add_zero]
        · rw [i2]
          congr 1
          apply propext
          constructor
          · exact fun q => ⟨by omega, q.2⟩
          · refine fun q => ⟨?_, q.2⟩
            have h4 : j ≠ k := fun e => q.2.2 (e ▸ c2')
            have := q.1
            omega
    · rw [if_neg (fun q => c1 q.1)]
      refine ⟨?_, fun j => ?_⟩
      · rw [i1, if_neg c1, Nat.add_zero]
      · rw [i2]
        congr 1
        apply propext
        constructor
        · exact fun q => ⟨by omega, q.2⟩
        · refine fun q => ⟨?_, q.2⟩
          have h4 : j ≠ k := fun e => c1 (e ▸ q.2.1)
          have := q.1
          omega
/-- the class's table counts; its other one says who may be next -/
theorem od_tab (hn : n ≤ 7) {b : Nat → Int64} {nx ps : Nat → Nat} {p : Nat → Nat → Bool} (hp : pOK n p) (h1 : b (3 ^ n - 1) = 1) (h2 : ∀ s, s < 3 ^ n - 1 → nx s = (lbS b (ps s) s n).1 ∧ b s = (lbS b (ps s) s n).2) (h3 : ∀ s, s < 3 ^ n → ∀ i, i < n → (ps s).testBit i = p s i) : (∀ s, s < 3 ^ n → b s = lN (tabN n p s)) ∧ ∀ s, s < 3 ^ n - 1 → ∀ j, (nx s).testBit j = decide (j < n ∧ p s j = true ∧ ¬ tabN n p (s + 3 ^ j) = 0) := by
  have hT := tab_cnt n p
  have hle := fun s hs => cnt_le hn hp hT (s := s) hs
  generalize tabN n p = T at *
  have h30 := p3_pos n
  have key : ∀ s, s < 3 ^ n → b s = lN (T s) := by
    refine dw_ind (fun s hs ih => ?_)
    by_cases c : s = 3 ^ n - 1
    · rw [c, h1, hT.1]; rfl
    · rw [(h2 s (by omega)).2, hT.2 s (by omega)]
      refine (lbS_2 (p := p s) (fun i hi c1 => ?_) (h3 s hs) n (Nat.le_refl _)).1
      have hp3 := p3_pos i
      have hl := dg_add hi hs (hp s i hs hi c1)
      exact ⟨ih _ (by omega) hl, hle _ hl⟩
  refine ⟨key, fun s hs j => ?_⟩
  rw [(h2 s hs).1]
  refine (lbS_2 (p := p s) (fun i hi c1 => ?_) (h3 s (by omega)) n (Nat.le_refl _)).2 j
  have hl := dg_add hi (show s < 3 ^ n by omega) (hp s i (by omega) hi c1)
  exact ⟨key _ hl, hle _ hl⟩
/-- all gone ones' friends have come -/
def goodS (n : Nat) (mt : Nat → Nat) (s : Nat) : Prop := ∀ i, i < n → dg s i = 2 → ∀ j, j < n → (mt i).testBit j = true → dg s j ≠ 0
/-- one is gone and another whom it met has not come -/
def badS (n : Nat) (mt : Nat → Nat) (s : Nat) : Prop := ∃ i j, i < n ∧ j < n ∧ dg s i = 2 ∧ (mt i).testBit j = true ∧ dg s j = 0
theorem two_f (hn : n ≤ 7) {nN mN rN : Nat → Nat} (hD : digOK (I, G) (3 ^ n)) (hI : ∀ s, I s < 128) (hG : ∀ s, G s < 128) (hsy : ∀ i j, i < n → j < n → (mt i).testBit j = (mt j).testBit i) (hmb : ∀ i, i < n → mt i < 2 ^ n) (hm : ∀ i, i < n → mN i = mt i) (hbr : ∀ i, i < n → nN i ||| rN i = br i) : (∀ s i, s < 3 ^ n → i < n → badS n mt s → qOf (ldB I G nN mN rN) s i = true → badS n mt (s + 3 ^ i)) ∧ ¬ badS n mt (3 ^ n - 1) ∧ (∀ s i, s < 3 ^ n → i < n → goodS n mt s → posC mt br I G s i = true → qOf (ldB I G nN mN rN) s i = true ∧ goodS n mt (s + 3 ^ i)) ∧ ∀ s i, s < 3 ^ n → i < n → goodS n mt s → qOf (ldB I G nN mN rN) s i = true → ¬ posC mt br I G s i = true → badS n mt (s + 3 ^ i) := by
  have hbit : ∀ s, s < 3 ^ n → ∀ k, ((I s).testBit k = true → k < 7) ∧ ((G s).testBit k = true → k < 7) := by
    intro s hs k
    constructor
    · intro q
      by_cases c : k < 7
      · exact c
      · rw [bit_out (hI s) (by omega)] at q; exact absurd q (by decide)
    · intro q
      by_cases c : k < 7
      · exact c
      · rw [bit_out (hG s) (by omega)] at q; exact absurd q (by decide)
  have hin : ∀ s, s < 3 ^ n → ∀ k, (I s).testBit k = decide (k < 7 ∧ dg s k = 1) := by
    intro s hs k
    by_cases c : k < 7
    · rw [(hD s hs k c).1]; simp [c]
    · rw [bit_out (hI s) (by omega), decide_eq_false (fun q => c q.1)]
  have hgo : ∀ s, s < 3 ^ n → ∀ k, (G s).testBit k = decide (k < 7 ∧ dg s k = 2) := by
    intro s hs k
    by_cases c : k < 7
    · rw [(hD s hs k c).2]; simp [c]
    · rw [bit_out (hG s) (by omega), decide_eq_false (fun q => c q.1)]
  have hmn : ∀ i, i < n → ∀ k, (mt i).testBit k = true → k < n := by
    intro i hi k q
    by_cases c : k < n
    · exact c
    · rw [Nat.testBit_lt_two_pow (Nat.lt_of_lt_of_le (hmb i hi) (Nat.pow_le_pow_right (n := 2) (by decide) (by omega)))] at q
      exact absurd q (by decide)
  have come : ∀ s i, s < 3 ^ n → i < n → (cB (br i) i (I s) && !decide (dg s i = 2)) = (decide (dg s i = 0) && decide (I s &&& (nN i ||| rN i) = 0)) := by
    intro s i hs hi
    unfold cB
    rw [hbr i hi, Nat.and_comm (br i)]
    simp only [pw_and, hin s hs i]
    have h3 := dg_lt s i
    have h7 : i < 7 := by omega
    by_cases c0 : dg s i = 0
    · simp [c0]
    · by_cases c1 : dg s i = 1
      · simp [c1, h7]
      · have c2 : dg s i = 2 := by omega
        simp [c2]
  have go : ∀ s i, s < 3 ^ n → i < n → (decide (dg s i = 1) && gB (mt i) i (I s ||| G s)) = true → dg s i = 1 ∧ ∀ j, j < n → (mt i).testBit j = true → dg s j ≠ 0 := by
    intro s i hs hi q
    rw [Bool.and_eq_true] at q
    refine ⟨of_decide_eq_true q.1, fun j hj hm e => ?_⟩
    have g := (of_decide_eq_true q.2).2
    rw [and0] at g
    refine g j ⟨hm, ?_⟩
    rw [cpl_bit (q_or_lt (hI s) (hG s)), Nat.testBit_or, hin s hs, hgo s hs, e]
    have : j < 7 := by omega
    simp [this]
  have nogo : ∀ s i, s < 3 ^ n → i < n → dg s i = 1 → ¬ (decide (dg s i = 1) && gB (mt i) i (I s ||| G s)) = true → ∃ j, j < n ∧ (mt i).testBit j = true ∧ dg s j = 0 := by
    intro s i hs hi h1 q
    apply Classical.byContradiction
    intro hne
    apply q
    rw [decide_eq_true h1, Bool.true_and]
    unfold gB
    apply decide_eq_true
    constructor
    · rw [pw_and, Nat.testBit_or, hin s hs i, h1]
      have : i < 7 := by omega
      simp [this]
    · rw [and0]
      intro k hk
      rw [cpl_bit (q_or_lt (hI s) (hG s)), Nat.testBit_or, hin s hs, hgo s hs] at hk
      have hkn := hmn i hi k hk.1
      have h7 : k < 7 := by omega
      apply hne
      refine ⟨k, hkn, hk.1, ?_⟩
      have h3 := dg_lt s k
      have hk2 := hk.2
      simp only [h7, decide_true, true_and, Bool.true_and] at hk2
      by_cases e1 : dg s k = 1
      · simp [e1] at hk2
      · by_cases e2 : dg s k = 2
        · simp [e2] at hk2
        · omega
  have qc : ∀ s i, s < 3 ^ n → i < n → qOf (ldB I G nN mN rN) s i = true → (dg s i = 1) ∨ (dg s i = 0 ∧ I s &&& (nN i ||| rN i) = 0 ∧ ∀ k, k < n → (mt i).testBit k = true → dg s k ≠ 2) := by
    intro s i hs hi q
    unfold qOf at q
    rw [ld_c hD hn hs hi, ld_g hD hn hs hi, Bool.or_eq_true] at q
    rcases q with q | q
    · rw [Bool.and_eq_true] at q
      have m := q.2
      unfold mcB at m
      rw [Bool.and_eq_true] at m
      refine Or.inr ⟨of_decide_eq_true q.1, of_decide_eq_true m.1, fun k hk hmk e => ?_⟩
      have g := of_decide_eq_true m.2
      rw [and0] at g
      refine g k ⟨?_, by rw [hm i hi]; exact hmk⟩
      rw [hgo s hs, e]
      have : k < 7 := by omega
      simp [this]
    · exact Or.inl (of_decide_eq_true q)
  have pq : ∀ s i, s < 3 ^ n → i < n → dg s i = 0 → I s &&& (nN i ||| rN i) = 0 → (∀ k, k < n → (mt i).testBit k = true → dg s k ≠ 2) → qOf (ldB I G nN mN rN) s i = true := by
    intro s i hs hi h0 h1 h2
    unfold qOf
    rw [ld_c hD hn hs hi, Bool.or_eq_true]
    left
    unfold mcB
    rw [decide_eq_true h0, decide_eq_true h1, Bool.true_and, Bool.true_and]
    apply decide_eq_true
    rw [and0]
    intro k hk
    rw [hm i hi, hgo s hs] at hk
    exact h2 k (hmn i hi k hk.2) hk.2 (of_decide_eq_true hk.1).2
  refine ⟨?_, ?_, ?_, ?_⟩
  · intro s k hs hk ⟨i, j, hi, hj, e1, e2, e3⟩ hq
    have hd := q_ok hD hn s k hs hk hq
    obtain ⟨a, b⟩ := dg_step hd
    have hki : i ≠ k := fun e => by rw [e] at e1; omega
    by_cases c : j = k
    · subst c
      rcases qc s j hs hk hq with q | q
      · omega
      · exact absurd e1 (q.2.2 i hi (by rw [hsy j i hj hi]; exact e2))
    · exact ⟨i, j, hi, hj, by rw [b i hki]; exact e1, e2, by rw [b j c]; exact e3⟩
  · intro ⟨i, j, hi, hj, e1, e2, e3⟩
    have := dg_last hj
    omega
  · intro s i hs hi hg hp
    have hd := posC_ok s i hs hi hp
    obtain ⟨a, b⟩ := dg_step hd
    unfold posC at hp
    rw [Bool.or_eq_true] at hp
    rcases hp with hp | hp
    · obtain ⟨g1, g2⟩ := go s i hs hi hp
      refine ⟨?_, ?_⟩
      · unfold qOf
        rw [ld_g hD hn hs hi, decide_eq_true g1, Bool.or_true]
      · intro k hk ek j hj hmk
        by_cases c : k = i
        · subst c
          by_cases cj : j = k
          · rw [cj, a]; omega
          · rw [b j cj]; exact g2 j hj hmk
        · rw [b k c] at ek
          by_cases cj : j = i
          · rw [cj, a]; omega
          · rw [b j cj]; exact hg k hk ek j hj hmk
    · rw [come s i hs hi, Bool.and_eq_true] at hp
      have h0 := of_decide_eq_true hp.1
      refine ⟨pq s i hs hi h0 (of_decide_eq_true hp.2) (fun k hk hmk e => ?_), ?_⟩
      · exact hg k hk e i hi (by rw [hsy k i hk hi]; exact hmk) h0
      · intro k hk ek j hj hmk
        by_cases c : k = i
        · rw [c, a, h0] at ek; omega
        · rw [b k c] at ek
          by_cases cj : j = i
          · rw [cj, a]; omega
          · rw [b j cj]; exact hg k hk ek j hj hmk
  · intro s i hs hi hg hq hp
    rcases qc s i hs hi hq with h1 | ⟨h0, h2, h3⟩
    · have hp1 : ¬ (decide (dg s i = 1) && gB (mt i) i (I s ||| G s)) = true := fun e => hp (by unfold posC; rw [e]; rfl)
      obtain ⟨j, hj, e1, e2⟩ := nogo s i hs hi h1 hp1
      obtain ⟨a, b⟩ := dg_step (s := s) (i := i) (by omega)
      have hji : j ≠ i := fun e => by rw [e] at e2; omega
      exact ⟨i, j, hi, hj, by rw [a]; omega, e1, by rw [b j hji]; exact e2⟩
    · exfalso
      apply hp
      unfold posC
      rw [come s i hs hi, decide_eq_true h0, decide_eq_true h2]
      simp
theorem two_eq (hn : n ≤ 7) {nN mN rN : Nat → Nat} (hD : digOK (I, G) (3 ^ n)) (hI : ∀ s, I s < 128) (hG : ∀ s, G s < 128) (hsy : ∀ i j, i < n → j < n → (mt i).testBit j = (mt j).testBit i) (hmb : ∀ i, i < n → mt i < 2 ^ n) (hm : ∀ i, i < n → mN i = mt i) (hbr : ∀ i, i < n → nN i ||| rN i = br i) : ∀ s, s < 3 ^ n → goodS n mt s → tabN n (posC mt br I G) s = tabN n (qOf (ldB I G nN mN rN)) s := by
  obtain ⟨h1, h2, h3, h4⟩ := two_f (nN := nN) (mN := mN) (rN := rN) (br := br) hn hD hI hG hsy hmb hm hbr
  exact cnt_eq posC_ok (q_ok hD hn) (tab_cnt _ _) (tab_cnt _ _) h1 h2 h3 h4
theorem two_bad (hn : n ≤ 7) {nN mN rN : Nat → Nat} (hD : digOK (I, G) (3 ^ n)) (hI : ∀ s, I s < 128) (hG : ∀ s, G s < 128) (hsy : ∀ i j, i < n → j < n → (mt i).testBit j = (mt j).testBit i) (hmb : ∀ i, i < n → mt i < 2 ^ n) (hm : ∀ i, i < n → mN i = mt i) (hbr : ∀ i, i < n → nN i ||| rN i = br i) : ∀ s, s < 3 ^ n → badS n mt s → tabN n (qOf (ldB I G nN mN rN)) s = 0 := by
  obtain ⟨h1, h2, h3, h4⟩ := two_f (nN := nN) (mN := mN) (rN := rN) (br := br) hn hD hI hG hsy hmb hm hbr
  exact cnt_bad (q_ok hD hn) (tab_cnt _ _) h1 h2
theorem two_us (hn : n ≤ 7) {nN mN rN : Nat → Nat} (hD : digOK (I, G) (3 ^ n)) (hI : ∀ s, I s < 128) (hG : ∀ s, G s < 128) (hsy : ∀ i j, i < n → j < n → (mt i).testBit j = (mt j).testBit i) (hmb : ∀ i, i < n → mt i < 2 ^ n) (hm : ∀ i, i < n → mN i = mt i) (hbr : ∀ i, i < n → nN i ||| rN i = br i) {s i : Nat} (hs : s < 3 ^ n) (hi : i < n) (hgo : goodS n mt s) : (posC mt br I G s i = true ∧ ¬ tabN n (posC mt br I G) (s + 3 ^ i) = 0) ↔ (qOf (ldB I G nN mN rN) s i = true ∧ ¬ tabN n (qOf (ldB I G nN mN rN)) (s + 3 ^ i) = 0) := by
  obtain ⟨h1, h2, h3, h4⟩ := two_f (nN := nN) (mN := mN) (rN := rN) (br := br) hn hD hI hG hsy hmb hm hbr
  have he := two_eq (nN := nN) (mN := mN) (rN := rN) (br := br) hn hD hI hG hsy hmb hm hbr
  have hz := two_bad (nN := nN) (mN := mN) (rN := rN) (br := br) hn hD hI hG hsy hmb hm hbr
  constructor
  · intro ⟨a, b⟩
    obtain ⟨c, d⟩ := h3 s i hs hi hgo a
    have hl := dg_add hi hs (posC_ok s i hs hi a)
    exact ⟨c, by rw [← he _ hl d]; exact b⟩
  · intro ⟨a, b⟩
    have hl := dg_add hi hs (q_ok hD hn s i hs hi a)
    by_cases c : posC mt br I G s i = true
    · obtain ⟨e, f⟩ := h3 s i hs hi hgo c
      exact ⟨c, by rw [he _ hl f]; exact b⟩
    · exact absurd (hz _ hl (h4 s i hs hi hgo a c)) b
end N3

