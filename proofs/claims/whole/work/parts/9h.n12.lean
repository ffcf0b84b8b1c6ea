/-! both sides together: what each knows of the states -/
/-- the class's rows A and the model's events q, with counts -/
def twoH (n : Nat) (A : Nat → Nat → Nat) (p q : Nat → Nat → Bool) (TC TM : Nat → Nat) (gd : Nat → Prop) : Prop :=
  n ≤ 7 ∧ gd 0 ∧ pOK n p ∧ pOK n q ∧ cntT n p TC ∧ cntT n q TM ∧
  (∀ s, s < 3 ^ n → ∀ i, i < n → (A 0 s).testBit i = decide (dg s i = 1)) ∧
  (∀ s, s < 3 ^ n - 1 → ∀ j, (A 2 s).testBit j = decide (j < n ∧ p s j = true ∧ ¬ TC (s + 3 ^ j) = 0)) ∧
  (A 2 (3 ^ n - 1) = 0) ∧
  (∀ s i, s < 3 ^ n → i < n → gd s → p s i = true → q s i = true ∧ gd (s + 3 ^ i)) ∧
  (∀ s, s < 3 ^ n → gd s → TC s = TM s) ∧
  (∀ s, s < 3 ^ n → ¬ gd s → TM s = 0) ∧
  (∀ s i, s < 3 ^ n → i < n → gd s → q s i = true → ¬ p s i = true → ¬ gd (s + 3 ^ i))
section N12
variable {n : Nat} {A : Nat → Nat → Nat} {p q : Nat → Nat → Bool} {TC TM : Nat → Nat} {gd : Nat → Prop}
theorem cnt_mono {T : Nat → Nat} {r : Nat → Nat → Bool} (hr : pOK n r) (hT : cntT n r T) {s i : Nat} (hs : s < 3 ^ n) (hi : i < n) (h : r s i = true) : T (s + 3 ^ i) ≤ T s := by
  have hd := hr s i hs hi h
  have hl := dg_add hi hs hd
  have hp := p3_pos i
  rw [hT.2 s (by omega)]
  have := sumN_mem (f := fun i => if r s i = true then T (s + 3 ^ i) else 0) n i hi
  rw [if_pos h] at this
  exact this
theorem two_nx (H : twoH n A p q TC TM gd) {s i : Nat} (hs : s < 3 ^ n - 1) (hi : i < n) (hg : gd s) : (A 2 s).testBit i = (q s i && decide (¬ TM (s + 3 ^ i) = 0)) := by
  obtain ⟨h1, h2, h3, h4, h5, h6, h7, h8, h9, h10, h11, h12, h13⟩ := H
  have hs' : s < 3 ^ n := by omega
  rw [h8 s hs i]
  by_cases c : p s i = true
  · obtain ⟨a, b⟩ := h10 s i hs' hi hg c
    rw [h11 _ (dg_add hi hs' (h3 s i hs' hi c)) b, a]
    simp [hi, c]
  · rw [decide_eq_false (fun z => c z.2.1)]
    by_cases c2 : q s i = true
    · have hb := h13 s i hs' hi hg c2 c
      have hl := dg_add hi hs' (h4 s i hs' hi c2)
      rw [h12 _ hl hb]
      simp
    · have : q s i = false := by cases e : q s i <;> simp_all
      rw [this]; rfl
theorem two_in (H : twoH n A p q TC TM gd) {s i : Nat} (hs : s < 3 ^ n) (h : (A 2 s).testBit i = true) : i < n ∧ s < 3 ^ n - 1 ∧ p s i = true ∧ ¬ TC (s + 3 ^ i) = 0 ∧ s + 3 ^ i < 3 ^ n := by
  obtain ⟨h1, h2, h3, h4, h5, h6, h7, h8, h9, h10, h11, h12, h13⟩ := H
  by_cases c : s = 3 ^ n - 1
  · rw [c, h9, Nat.zero_testBit] at h; exact absurd h (by decide)
  · rw [h8 s (by omega) i] at h
    have h := of_decide_eq_true h
    exact ⟨h.1, by omega, h.2.1, h.2.2, dg_add h.1 hs (h3 s i hs h.1 h.2.1)⟩
theorem two_gd (H : twoH n A p q TC TM gd) {s i : Nat} (hs : s < 3 ^ n) (hg : gd s) (h : rCA A s i = true) : gd (s + 3 ^ i) := by
  obtain ⟨a, b, c, d, e⟩ := two_in H hs h
  exact (H.2.2.2.2.2.2.2.2.2.1 s i hs a hg c).2
/-- ways from the start to states that lead on -/
theorem two_a (H : twoH n A p q TC TM gd) {k t : Nat} (hk : k ≤ 3 ^ n) (ht : ¬ TM t = 0) (ht3 : t < 3 ^ n) : aN (rCA A) n k t = aN q n k t := by
  have H' := H
  obtain ⟨h1, h2, h3, h4, h5, h6, h7, h8, h9, h10, h11, h12, h13⟩ := H'
  refine aN_live (N := 3 ^ n) (gd := gd) (lv := fun s => s < 3 ^ n ∧ ¬ TM s = 0) h2 (fun s i hs _ hg h => two_gd H hs hg h) (fun s hs hl => ?_) (fun s i hs hi hq hl => ⟨hs, fun e => ?_⟩) (fun s i hs hi hg hl => ?_) k hk t ⟨ht3, ht⟩
  · exact Classical.byContradiction (fun hg => hl.2 (h12 s hs hg))
  · have := cnt_mono h4 h6 hs hi hq
    exact hl.2 (by omega)
  · by_cases c : s = 3 ^ n - 1
    · have hp := p3_pos i
      have := hl.1
      omega
    · show (A 2 s).testBit i = q s i
      rw [two_nx H (by omega) hi hg, decide_eq_true hl.2, Bool.and_true]
theorem two_a0 (H : twoH n A p q TC TM gd) {k t : Nat} (hk : k ≤ 3 ^ n) (ht : ¬ gd t) : aN (rCA A) n k t = 0 := aN_bad (N := 3 ^ n) H.2.1 (fun s i hs _ hg h => two_gd H hs hg h) k hk t ht
/-- the ways from the start stay small -/
theorem two_b (H : twoH n A p q TC TM gd) (h0 : ¬ TC 0 = 0) {k : Nat} (hk : k < 3 ^ n) : aN (rCA A) n k k ≤ 681080400 := by
  have H' := H
  obtain ⟨h1, h2, h3, h4, h5, h6, h7, h8, h9, h10, h11, h12, h13⟩ := H'
  have hT0 := cnt_le h1 h3 h5 (p3_pos n)
  have hle := aT_le (r := rCA A) (T := TC) (n := n) (fun s i hs _ h => (two_in H hs h).2.2.2.2) (fun s hs => by
    by_cases c : s = 3 ^ n - 1
    · rw [sumN_0 n (fun i _ => by rw [if_neg (fun h => by have := (two_in H hs h).2.1; omega)])]; exact Nat.zero_le _
    · rw [h5.2 s (by omega)]
      refine sumN_le n (fun i hi => ?_)
      by_cases c1 : rCA A s i = true
      · rw [if_pos c1, if_pos (two_in H hs c1).2.2.1]; exact Nat.le_refl _
      · rw [if_neg c1]; exact Nat.zero_le _) hk
  by_cases c : TC k = 0
  · rw [aN_bad (rC := rCA A) (n := n) (N := 3 ^ n) (gd := fun s => ¬ TC s = 0) h0 (fun s i hs _ _ h => (two_in H hs h).2.2.2.1) k (by omega) k (fun e => e c)]
    exact Nat.zero_le _
  · have : aN (rCA A) n k k * 1 ≤ aN (rCA A) n k k * TC k := Nat.mul_le_mul_left _ (by omega)
    omega
/-- what is gathered where guest a comes, in states of a kind -/
def gatN (q : Nat → Nat → Bool) (T : Nat → Nat) (n a : Nat) (cd : Nat → Bool) : Nat := sumN (fun s => aN q n (3 ^ n) s * (if cd s = true ∧ q s a = true ∧ dg s a = 0 then T (s + 3 ^ a) else 0)) (3 ^ n)
theorem two_g (H : twoH n A p q TC TM gd) {a : Nat} (ha : a < n) {cd : Nat → Bool} {pc : Nat → Bool} {c : Nat → Nat} (hc : ∀ s, s < 3 ^ n - 1 → pc (c s) = cd s) : sumN (fun s => if rCA A s a = true ∧ (A 0 s).testBit a = false ∧ pc (c s) = true then aN (rCA A) n s s * TC (s + 3 ^ a) else 0) (3 ^ n - 1) = gatN q TM n a cd := by
  have H' := H
  obtain ⟨h1, h2, h3, h4, h5, h6, h7, h8, h9, h10, h11, h12, h13⟩ := H'
  have h30 := p3_pos n
  unfold gatN
  have e : sumN (fun s => aN q n (3 ^ n) s * (if cd s = true ∧ q s a = true ∧ dg s a = 0 then TM (s + 3 ^ a) else 0)) (3 ^ n) = sumN (fun s => aN q n (3 ^ n) s * (if cd s = true ∧ q s a = true ∧ dg s a = 0 then TM (s + 3 ^ a) else 0)) (3 ^ n - 1) := by
    rw [show 3 ^ n = (3 ^ n - 1) + 1 by omega, sumN_s]
    have hd := dg_last ha
    rw [show (3 ^ n - 1) + 1 - 1 = 3 ^ n - 1 by omega, if_neg (fun z => by rw [hd] at z; exact absurd z.2.2 (by decide)), Nat.mul_zero, Nat.add_zero]
  rw [e]
  refine sumN_cg _ (fun s hs => ?_)
  have hs' : s < 3 ^ n := by omega
  rw [hc s hs]
  have hf : aN q n (3 ^ n) s = aN q n s s := by
    have := aN_fin (r := q) (n := n) (t := s) (3 ^ n - s)
    rw [show s + (3 ^ n - s) = 3 ^ n by omega] at this
    exact this
  have hin := h7 s hs' a ha
  by_cases c1 : rCA A s a = true ∧ (A 0 s).testBit a = false ∧ cd s = true
  · rw [if_pos c1]
    obtain ⟨i1, i2, i3, i4, i5⟩ := two_in H hs' c1.1
    have hd : dg s a = 0 := by
      have k1 := h3 s a hs' ha i3
      have k2 := c1.2.1
      rw [hin] at k2
      have := of_decide_eq_false k2
      omega
    by_cases hg : gd s
    · obtain ⟨j1, j2⟩ := h10 s a hs' ha hg i3
      have ht : ¬ TM (s + 3 ^ a) = 0 := by rw [← h11 _ i5 j2]; exact i4
      have hm := cnt_mono h4 h6 hs' ha j1
      rw [if_pos ⟨c1.2.2, j1, hd⟩, hf, two_a H (by omega) (by omega) hs', h11 _ i5 j2]
    · rw [two_a0 H (by omega) hg, Nat.zero_mul]
      by_cases c2 : cd s = true ∧ q s a = true ∧ dg s a = 0
      · have hm := cnt_mono h4 h6 hs' ha c2.2.1
        have z := h12 s hs' hg
        rw [if_pos c2, show TM (s + 3 ^ a) = 0 by omega, Nat.mul_zero]
      · rw [if_neg c2, Nat.mul_zero]
  · rw [if_neg c1]
    by_cases c2 : cd s = true ∧ q s a = true ∧ dg s a = 0
    · rw [if_pos c2]
      by_cases ct : TM (s + 3 ^ a) = 0
      · rw [ct, Nat.mul_zero]
      · exfalso
        have hm := cnt_mono h4 h6 hs' ha c2.2.1
        have hg : gd s := Classical.byContradiction (fun hg => by have := h12 s hs' hg; omega)
        apply c1
        refine ⟨?_, ?_, c2.1⟩
        · show (A 2 s).testBit a = true
          rw [two_nx H hs ha hg, c2.2.1, decide_eq_true ct]; rfl
        · rw [hin, c2.2.2]; rfl
    · rw [if_neg c2, Nat.mul_zero]
theorem gatN_le (H : twoH n A p q TC TM gd) {a : Nat} (ha : a < n) {cd : Nat → Bool} : gatN q TM n a cd ≤ TM 0 := gat_le H.2.2.2.1 H.2.2.2.2.2.1 ha
end N12

