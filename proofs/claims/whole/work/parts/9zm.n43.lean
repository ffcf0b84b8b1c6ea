/-! the fewest lies, on both sides -/
theorem ld_at {n : Nat} {rm mt nt : Nat → Nat} {fm : Bool} {ma wi wg : Nat → Nat} : ∀ k i, i < k → (itr (ldF n rm mt nt fm) (ma, wi, wg) k).1 i = matesOf n rm fm i ∧ (itr (ldF n rm mt nt fm) (ma, wi, wg) k).2.1 i = nt i ∧ (itr (ldF n rm mt nt fm) (ma, wi, wg) k).2.2 i = mt i := by
  intro k
  induction k with
  | zero => exact fun i h => absurd h (Nat.not_lt_zero _)
  | succ k ih =>
    intro i hi
    rw [itr_s]
    generalize itr (ldF n rm mt nt fm) (ma, wi, wg) k = q at *
    show z_up q.1 k _ i = _ ∧ z_up q.2.1 k _ i = _ ∧ z_up q.2.2 k _ i = _
    by_cases c : i = k
    · subst c
      exact ⟨zup_eq _ _ _, zup_eq _ _ _, zup_eq _ _ _⟩
    · rw [zup_ne _ _ c, zup_ne _ _ c, zup_ne _ _ c]
      exact ih i (by omega)
theorem lz_at {q : nnT} : ∀ k i, i < k → (itr lzF q k).1 i = 0 ∧ (itr lzF q k).2 i = 0 := by
  intro k
  induction k with
  | zero => exact fun i h => absurd h (Nat.not_lt_zero _)
  | succ k ih =>
    intro i hi
    rw [itr_s]
    generalize itr lzF q k = w at *
    show z_up w.1 k 0 i = _ ∧ z_up w.2 k 0 i = _
    by_cases c : i = k
    · subst c
      exact ⟨zup_eq _ _ _, zup_eq _ _ _⟩
    · rw [zup_ne _ _ c, zup_ne _ _ c]
      exact ih i (by omega)
theorem evF_bit {ma : Nat → Nat} {x y z : Nat} : ∀ k i, (itr (evF ma x y) z k).testBit i = (z.testBit i || decide (i < k ∧ (x ||| y).testBit i = false ∧ ma i &&& x = 0)) := by
  intro k
  induction k with
  | zero => intro i; rw [itr_0, decide_eq_false (fun w => absurd w.1 (Nat.not_lt_zero _)), Bool.or_false]
  | succ k ih =>
    intro i
    rw [itr_s]
    have ih := ih i
    generalize itr (evF ma x y) z k = r at *
    unfold evF
    simp only [pw_and]
    by_cases e : i = k
    · subst e
      rw [decide_eq_false (fun w => absurd w.1 (Nat.lt_irrefl _)), Bool.or_false] at ih
      by_cases c1 : (x ||| y).testBit i = false
      · rw [if_pos c1]
        by_cases c2 : ma i &&& x = 0
        · rw [if_pos c2, Nat.testBit_or, Nat.testBit_two_pow_self, Bool.or_true, decide_eq_true ⟨Nat.lt_succ_self _, c1, c2⟩, Bool.or_true]
        · rw [if_neg c2, ih, decide_eq_false (fun w => c2 w.2.2), Bool.or_false]
      · rw [if_neg c1, ih, decide_eq_false (fun w => c1 w.2.1), Bool.or_false]
    · have hk : ∀ v, (v ||| 2 ^ k).testBit i = v.testBit i := fun v => by
        rw [Nat.testBit_or, Nat.testBit_two_pow, decide_eq_false (fun w => e w.symm), Bool.or_false]
      have e2 : decide (i < k + 1 ∧ (x ||| y).testBit i = false ∧ ma i &&& x = 0) = decide (i < k ∧ (x ||| y).testBit i = false ∧ ma i &&& x = 0) := decide_eq_decide.mpr ⟨fun w => ⟨by omega, w.2⟩, fun w => ⟨by omega, w.2⟩⟩
      rw [e2, ← ih]
      split
      · split
        · exact hk r
        · rfl
      · rfl
section N43
variable {n : Nat} {A : Nat → Nat → Nat} {rm mt nt : Nat → Nat} {fm : Bool} {now : Nat → Int32} {ma wi wg z1 z2 rN : Nat → Nat} {wo : Nat → Int32}
theorem ev_lie (hA : digA n A) (hn : n ≤ 7) {s i : Nat} (hs : s < 3 ^ n) (hi : i < n) : (evV true A ma n s).testBit i = decide (dg s i = 1 ∨ (dg s i = 0 ∧ ma i &&& A 0 s = 0)) := by
  unfold evV
  rw [if_pos rfl, evF_bit, (hA.2.2 s hs i (by omega)).1, (set_bit hA hs).1]
  have := dg_lt s i
  by_cases c : dg s i = 0
  · rw [c]
    by_cases c2 : ma i &&& A 0 s = 0 <;> simp [c2, hi]
  · by_cases c1 : dg s i = 1
    · rw [c1]; simp
    · simp [c, c1, show i < 7 by omega]
theorem ev_hi (hA : digA n A) (hn : n ≤ 7) {s i : Nat} (hs : s < 3 ^ n) (hi : (evV true A ma n s).testBit i = true) : i < n := by
  unfold evV at hi
  rw [if_pos rfl, evF_bit] at hi
  rcases Nat.lt_or_ge i n with c | c
  · exact c
  · exfalso
    rw [decide_eq_false (fun w => by omega), Bool.or_false, (set_bit hA hs).2] at hi
    have := of_decide_eq_true hi
    rw [dg_hi hs c] at this
    exact absurd this.2 (by decide)
/-- what both know of the states when told ones count for nothing -/
theorem us_lie (hg : gdT n mt nt) (hR : nowR n rm mt nt fm now) (hr : ∀ i, rm i ≤ 9) (hA : digA n A) (hma : ∀ i, i < n → ma i = matesOf n rm fm i) (hwi : ∀ i, i < n → wi i = nt i) (hwg : ∀ i, i < n → wg i = mt i) (hz : ∀ i, i < n → z1 i = 0 ∧ z2 i = 0) (hrN : ∀ i, i < n → rN i = rmV now n i) : usG n (prV true A wo wi wg) (wrV now n iV gV) (fun s => evV true A ma n s) (ldB iV gV z1 z2 rN) (fun _ => True) := by
  have hn := hg.1
  have hp := p3_pos n
  have hD := tb_dig hn
  have dE : ∀ s, s < 3 ^ n → A 0 s = iV s ∧ A 1 s = gV s := fun s hs => dig_eq hA.2.2 hD hA.1 hA.2.1 iV_lt gV_lt hs
  refine ⟨fun s hs _ => ?_, fun s i hs _ hi hv => ?_, fun s i hs _ hi => ?_, fun e he => ?_⟩
  · have hs' : s < 3 ^ n := by omega
    by_cases c : ∃ i, i < n ∧ dg s i = 1
    · obtain ⟨i, hi, hd⟩ := c
      exact ⟨i, hi, by rw [ev_lie hA hn hs' hi]; exact decide_eq_true (Or.inl hd)⟩
    · have e0 : A 0 s = 0 := by
        apply Nat.eq_of_testBit_eq
        intro b
        rw [Nat.zero_testBit, (set_bit hA hs').2]
        refine decide_eq_false (fun w => ?_)
        rcases Nat.lt_or_ge b n with q | q
        · exact c ⟨b, q, w.2⟩
        · rw [dg_hi hs' q] at w; exact absurd w.2 (by decide)
      have : ∃ i, i < n ∧ dg s i = 0 := by
        apply Classical.byContradiction
        intro w
        have h2 : ∀ i, i < n → dg s i = 2 := fun i hi => by
          have a1 := dg_lt s i
          have a2 : ¬ dg s i = 0 := fun z => w ⟨i, hi, z⟩
          have a3 : ¬ dg s i = 1 := fun z => c ⟨i, hi, z⟩
          omega
        have : s = 3 ^ n - 1 := all_2 n s hs' h2
        omega
      obtain ⟨i, hi, hd⟩ := this
      exact ⟨i, hi, by rw [ev_lie hA hn hs' hi]; exact decide_eq_true (Or.inr ⟨hd, by rw [e0, Nat.and_zero]⟩)⟩
  · have hs' : s < 3 ^ n := by omega
    rw [ev_lie hA hn hs' hi] at hv
    have hv := of_decide_eq_true hv
    have hd : dg s i ≤ 1 := by omega
    obtain ⟨d1, d2⟩ := dE s hs'
    have hw : wrV now n iV gV s (2 * i + dg s i) = prV true A wo wi wg s i ∧ ∃ x, x ≤ 14 ∧ prV true A wo wi wg s i = nI x := by
      unfold wrV prV
      rw [if_pos rfl, (hA.2.2 s hs' i (by omega)).1]
      rcases (show dg s i = 0 ∨ dg s i = 1 by omega) with c | c
      · rw [c, Nat.add_zero, if_neg (by omega), if_neg (by decide), show 2 * i / 2 = i by omega, Nat.one_mul, tho_0 hg hR hi, tho_1 hg hR hi, ← d1, ← d2, hwi i hi, hwg i hi]
        have hz0 : (nt i &&& A 0 s) &&& (mt i &&& A 1 s) = 0 := by
          apply Nat.eq_of_testBit_eq
          intro b
          rw [Nat.zero_testBit, Nat.testBit_and, Nat.testBit_and, Nat.testBit_and]
          rcases Nat.lt_or_ge b 7 with q | q
          · rw [(hA.2.2 s hs' b q).1, (hA.2.2 s hs' b q).2]
            by_cases c1 : dg s b = 1
            · rw [decide_eq_false (show ¬ dg s b = 2 by omega), Bool.and_false, Bool.and_false]
            · rw [decide_eq_false c1, Bool.and_false, Bool.false_and]
          · rw [Nat.testBit_lt_two_pow (Nat.lt_of_lt_of_le (hA.1 s) (Nat.pow_le_pow_right (n := 2) (by decide) q)), Bool.and_false, Bool.false_and]
        have hl1 : nt i &&& A 0 s < 128 := q_and_lt (Nat.lt_of_lt_of_le (hg.2.1 i hi).2 (Nat.pow_le_pow_right (n := 2) (j := 7) (by decide) hn))
        have hl2 : mt i &&& A 1 s < 128 := q_and_lt (Nat.lt_of_lt_of_le (hg.2.1 i hi).1 (Nat.pow_le_pow_right (n := 2) (j := 7) (by decide) hn))
        have ep := pop_or _ hl1 _ hl2 hz0
        rw [Nat.and_comm (A 0 s), Nat.and_comm (A 1 s), ep]
        have p1 := pop_le (nt i &&& A 0 s)
        have p2 := pop_le (mt i &&& A 1 s)
        exact ⟨rfl, _, by omega, rfl⟩
      · rw [c, if_pos (by omega), if_pos (by decide), Nat.zero_mul]
        exact ⟨rfl, 0, by decide, rfl⟩
    obtain ⟨w1, x, w2, w3⟩ := hw
    have e3 : (prV true A wo wi wg s i).toInt = (x : Int) := by rw [w3, nI_toInt (by omega)]
    exact ⟨hd, dg_add hi hs' hd, trivial, w1, by omega, by omega⟩
  · have hs' : s < 3 ^ n := by omega
    obtain ⟨d1, d2⟩ := dE s hs'
    rw [ld_c hD hn hs' hi, ld_g hD hn hs' hi, ev_lie hA hn hs' hi]
    unfold mcB
    rw [(hz i hi).1, (hz i hi).2, hrN i hi, rm_m hr hR hi, ← hma i hi, Nat.zero_or, Nat.and_zero, ← d1, Nat.and_comm]
    have := dg_lt s i
    constructor
    · by_cases c : dg s i = 0
      · rw [c]; simp
      · simp [c]
    · by_cases c : dg s i = 1
      · rw [c]; simp
      · simp [c]
  · have z : dg (3 ^ n - 1) (e / 2) = 2 := dg_last (by omega)
    rcases (show e = 2 * (e / 2) ∨ e = 2 * (e / 2) + 1 by omega) with c | c
    · rw [c, ld_c hD hn (by omega) (by omega), z]; rfl
    · rw [c, ld_g hD hn (by omega) (by omega), z]; rfl
end N43

