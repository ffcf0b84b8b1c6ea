/-! prices, on both sides -/
theorem rnC_tf {tf tf' cd : Nat → Int32} {a : Nat} {l : List Int32} (h : ∀ i, i < 7 → tf i = tf' i) : ∀ k, rnC tf cd a k l = rnC tf' cd a k l := by
  intro k
  induction k with
  | zero => rfl
  | succ k ih =>
    show cSt tf (rnC tf cd a k l) (cd (a + k)) = cSt tf' (rnC tf' cd a k l) (cd (a + k))
    rw [ih]
    generalize cd (a + k) = x
    unfold cSt
    by_cases c : ¬ x - 1000 < 0 ∧ x - 1000 < nI 7
    · have e : (x - 1000).toNatClampNeg < 7 := by
        obtain ⟨c1, c2⟩ := c
        have c2' : (x - 1000).toInt < 7 := by
          have := Int32.lt_iff_toInt_lt.mp c2
          exact this
        have c1' : ¬ (x - 1000).toInt < 0 := fun z => c1 (Int32.lt_iff_toInt_lt.mpr z)
        show (x - 1000).toInt.toNat < 7
        omega
      simp only [if_pos c, h _ e]
    · simp only [if_neg c]
theorem seg_tf {cd : Nat → Int32} {a b : Nat} {v : (Nat → Int32) → Int32} (hs : segC cd a b v) {tf tf' : Nat → Int32} (h : ∀ i, i < 7 → tf i = tf' i) : v tf = v tf' := by
  obtain ⟨k, -, h1⟩ := hs
  have e := rnC_tf (cd := cd) (a := a) (l := []) h k
  rw [h1, h1] at e
  exact (List.cons.inj e).1
theorem ru_v2 {r : cRule} {code : Nat → Int32} {L : Nat} (h : ruR r code L) {tf tf' st : Nat → Int32} (ht : ∀ i, i < 7 → tf i = tf' i) : wV 7 tf r.1 st r.2.2.2.1 = clV99 (rlV tf' code L) := by
  obtain ⟨h0, v, h1, (⟨rfl, h2⟩ | ⟨h2, h3, h4⟩)⟩ := h
  · rw [wV_seg h0 h1, seg_tf h1 ht, h2]; rfl
  · rw [wV_seg h0 h1, seg_tf h1 ht, rlV_seg h2 h4]
theorem cl_b (x : Int32) : -99 ≤ (clV99 x).toInt ∧ (clV99 x).toInt ≤ 99 := by
  unfold clV99
  have q1 : (99 : Int32).toInt = 99 := rfl
  have q2 : (-99 : Int32).toInt = -99 := rfl
  by_cases c1 : x < 99
  · have c1' := Int32.lt_iff_toInt_lt.mp c1
    rw [if_pos c1]
    by_cases c2 : -99 < x
    · have c2' := Int32.lt_iff_toInt_lt.mp c2
      rw [if_pos c2]
      omega
    · rw [if_neg c2]; decide
  · rw [if_neg c1, if_pos (by decide)]; decide
section N39
variable {cd : Nat → Int32} {sz n g : Nat} {E : Nat → Nat → Nat → Int32} {a b e : Int32}
/-- things that stay while one guest's worths are found -/
def fwP (a b e : Int32) (q : fwT) : Prop := q.2.1 0 = a ∧ q.2.1 1 = b ∧ q.2.1 6 = e
theorem thX_p {a b e : Int32} {th : Nat → Int32} {c i l : Nat} (h : th 0 = a ∧ th 1 = b ∧ th 6 = e) : (thX th c i l) 0 = a ∧ (thX th c i l) 1 = b ∧ (thX th c i l) 6 = e := by
  unfold thX
  refine ⟨?_, ?_, ?_⟩
  · rw [upd_o _ _ (by decide), upd_o _ _ (by decide), upd_o _ _ (by decide), upd_o _ _ (by decide)]; exact h.1
  · rw [upd_o _ _ (by decide), upd_o _ _ (by decide), upd_o _ _ (by decide), upd_o _ _ (by decide)]; exact h.2.1
  · rw [upd_o _ _ (by decide), upd_o _ _ (by decide), upd_o _ _ (by decide), upd_o _ _ (by decide)]; exact h.2.2
theorem fwL_v (hE : ∀ c i l th st, th 0 = a ∧ th 1 = b ∧ th 6 = e → wV 7 (thX th c i l) cd st sz = E c i l) {q : fwT} (hq : fwP a b e q) {o : Nat} (hn : n ≤ 7) (ho : o < n) : ∀ m, m ≤ n - o → fwP a b e (itr (fwL cd sz g o) q m) ∧ (∀ l, l < m → (itr (fwL cd sz g o) q m).1 (g * 128 + 1 * 64 + o * 8 + l) = E 1 o l ∧ (itr (fwL cd sz g o) q m).1 (g * 128 + 0 * 64 + (o + 1) * 8 + l) = E 0 (o + 1) l) ∧ ∀ x, (∀ l, l < m → x ≠ g * 128 + 1 * 64 + o * 8 + l ∧ x ≠ g * 128 + 0 * 64 + (o + 1) * 8 + l) → (itr (fwL cd sz g o) q m).1 x = q.1 x := by
  intro m
  induction m with
  | zero => exact fun _ => ⟨hq, fun l hl => absurd hl (Nat.not_lt_zero _), fun _ _ => rfl⟩
  | succ m ih =>
    intro hm
    obtain ⟨i1, i2, i3⟩ := ih (by omega)
    rw [itr_s]
    generalize itr (fwL cd sz g o) q m = r at *
    obtain ⟨r1, r2, r3⟩ := r
    have p1 : fwP a b e (fwE cd sz g 1 o m (r1, r2, r3)) := thX_p (c := 1) (i := o) (l := m) i1
    have e1 : (fwE cd sz g 1 o m (r1, r2, r3)).1 = upd r1 (g * 128 + 1 * 64 + o * 8 + m) (E 1 o m) := by
      show upd r1 _ (wV 7 (thX r2 1 o m) cd r3 sz) = _
      rw [hE 1 o m r2 r3 i1]
    have e2 : (fwL cd sz g o m (r1, r2, r3)).1 = upd (upd r1 (g * 128 + 1 * 64 + o * 8 + m) (E 1 o m)) (g * 128 + 0 * 64 + (o + 1) * 8 + m) (E 0 (o + 1) m) := by
      show upd (fwE cd sz g 1 o m (r1, r2, r3)).1 _ (wV 7 (thX (fwE cd sz g 1 o m (r1, r2, r3)).2.1 0 (o + 1) m) cd (fwE cd sz g 1 o m (r1, r2, r3)).2.2 sz) = _
      rw [hE 0 (o + 1) m _ _ p1, e1]
    refine ⟨thX_p (c := 0) (i := o + 1) (l := m) p1, fun l hl => ?_, fun x hx => ?_⟩
    · rw [e2]
      by_cases c : l = m
      · subst c
        exact ⟨by rw [upd_o _ _ (by omega), upd_s], upd_s _ _ _⟩
      · obtain ⟨j1, j2⟩ := i2 l (by omega)
        exact ⟨by rw [upd_o _ _ (by omega), upd_o _ _ (by omega)]; exact j1, by rw [upd_o _ _ (by omega), upd_o _ _ (by omega)]; exact j2⟩
    · obtain ⟨x1, x2⟩ := hx m (by omega)
      rw [e2, upd_o _ _ x2, upd_o _ _ x1]
      exact i3 x (fun l hl => hx l (by omega))
theorem fwO_v (hE : ∀ c i l th st, th 0 = a ∧ th 1 = b ∧ th 6 = e → wV 7 (thX th c i l) cd st sz = E c i l) {q : fwT} (hq : fwP a b e q) (hn : n ≤ 7) : ∀ m, m ≤ n → fwP a b e (itr (fwO cd sz n g) q m) ∧ (∀ o l, o < m → l < n - o → (itr (fwO cd sz n g) q m).1 (g * 128 + 1 * 64 + o * 8 + l) = E 1 o l ∧ (itr (fwO cd sz n g) q m).1 (g * 128 + 0 * 64 + (o + 1) * 8 + l) = E 0 (o + 1) l) ∧ ∀ x, (∀ o l, o < m → l < n - o → x ≠ g * 128 + 1 * 64 + o * 8 + l ∧ x ≠ g * 128 + 0 * 64 + (o + 1) * 8 + l) → (itr (fwO cd sz n g) q m).1 x = q.1 x := by
  intro m
  induction m with
  | zero => exact fun _ => ⟨hq, fun o l hl => absurd hl (Nat.not_lt_zero _), fun _ _ => rfl⟩
  | succ m ih =>
    intro hm
    obtain ⟨i1, i2, i3⟩ := ih (by omega)
    rw [itr_s]
    generalize itr (fwO cd sz n g) q m = r at *
    obtain ⟨j1, j2, j3⟩ := fwL_v (g := g) hE i1 hn (show m < n by omega) (n - m) (Nat.le_refl _)
    refine ⟨j1, fun o l ho hl => ?_, fun x hx => ?_⟩
    · by_cases c : o = m
      · subst c
        exact j2 l hl
      · obtain ⟨k1, k2⟩ := i2 o l (by omega) hl
        exact ⟨(j3 _ (fun l' hl' => by omega)).trans k1, (j3 _ (fun l' hl' => by omega)).trans k2⟩
    · exact (j3 x (fun l hl => hx m l (by omega) hl)).trans (i3 x (fun o l ho hl => hx o l (by omega) hl))
theorem fwG_v {rm mt : Nat → Nat} {E : Nat → Nat → Nat → Nat → Int32} (hE : ∀ g c i l th st, g < n → th 0 = nI g ∧ th 1 = nI (rm g) ∧ th 6 = nI (pop (mt g)) → wV 7 (thX th c i l) cd st sz = E g c i l) {q : fwT} (hn : n ≤ 7) : ∀ m, m ≤ n → ∀ g o l, g < m → o < n → l < n - o → (itr (fwG cd sz n rm mt) q m).1 (g * 128 + 1 * 64 + o * 8 + l) = E g 1 o l ∧ (itr (fwG cd sz n rm mt) q m).1 (g * 128 + 0 * 64 + (o + 1) * 8 + l) = E g 0 (o + 1) l := by
  intro m
  induction m with
  | zero => exact fun _ g o l hl => absurd hl (Nat.not_lt_zero _)
  | succ m ih =>
    intro hm g o l hg ho hl
    have ih := ih (by omega)
    rw [itr_s]
    generalize itr (fwG cd sz n rm mt) q m = r at *
    obtain ⟨r1, r2, r3⟩ := r
    have hq : fwP (nI m) (nI (rm m)) (nI (pop (mt m))) (r1, upd (upd (upd r2 0 (nI m)) 1 (nI (rm m))) 6 (nI (pop (mt m))), r3) := by
      refine ⟨?_, ?_, ?_⟩
      · show upd (upd (upd r2 0 (nI m)) 1 (nI (rm m))) 6 (nI (pop (mt m))) 0 = _
        rw [upd_o _ _ (by decide), upd_o _ _ (by decide), upd_s]
      · show upd (upd (upd r2 0 (nI m)) 1 (nI (rm m))) 6 (nI (pop (mt m))) 1 = _
        rw [upd_o _ _ (by decide), upd_s]
      · show upd (upd (upd r2 0 (nI m)) 1 (nI (rm m))) 6 (nI (pop (mt m))) 6 = _
        rw [upd_s]
    obtain ⟨-, j2, j3⟩ := fwO_v (g := m) (E := E m) (fun c i l th st h => hE m c i l th st (by omega) h) hq hn n (Nat.le_refl _)
    show (itr (fwO cd sz n m) (r1, upd (upd (upd r2 0 (nI m)) 1 (nI (rm m))) 6 (nI (pop (mt m))), r3) n).1 _ = _ ∧ (itr (fwO cd sz n m) (r1, upd (upd (upd r2 0 (nI m)) 1 (nI (rm m))) 6 (nI (pop (mt m))), r3) n).1 _ = _
    by_cases c : g = m
    · subst c
      exact j2 o l ho hl
    · obtain ⟨k1, k2⟩ := ih g o l (by omega) ho hl
      exact ⟨(j3 _ (fun o' l' ho' hl' => by omega)).trans k1, (j3 _ (fun o' l' ho' hl' => by omega)).trans k2⟩
end N39
/-- sizes of a state's sets -/
theorem pop_or : ∀ x, x < 128 → ∀ y, y < 128 → x &&& y = 0 → pop (x ||| y) = pop x + pop y := by decide +kernel
theorem pop_all : ∀ n, n < 8 → ∀ x, x < 2 ^ n → pop x ≤ n := by decide +kernel
theorem pop_io {n s : Nat} {A : Nat → Nat → Nat} (hA : digA n A) (hn : n ≤ 7) (hs : s < 3 ^ n) {i : Nat} (hi : i < n) : (dg s i = 0 → pop (A 0 s) + pop (A 1 s) < n) ∧ (dg s i = 1 → 1 ≤ pop (A 0 s)) ∧ pop (A 0 s) + pop (A 1 s) ≤ n := by
  obtain ⟨l1, l2⟩ := set_lt hA hn hs
  have hz : A 0 s &&& A 1 s = 0 := by
    apply Nat.eq_of_testBit_eq
    intro b
    rw [Nat.testBit_and, Nat.zero_testBit]
    by_cases c : b < 7
    · rw [(hA.2.2 s hs b c).1, (hA.2.2 s hs b c).2]
      by_cases c1 : dg s b = 1
      · rw [decide_eq_false (show ¬ dg s b = 2 by omega), Bool.and_false]
      · rw [decide_eq_false c1, Bool.false_and]
    · rw [Nat.testBit_lt_two_pow (Nat.lt_of_lt_of_le (hA.1 s) (Nat.pow_le_pow_right (n := 2) (by decide) (show 7 ≤ b by omega))), Bool.false_and]
  have e := pop_or _ (hA.1 s) _ (hA.2.1 s) hz
  have e2 := pop_all n (by omega) _ l1
  refine ⟨fun h => ?_, fun h => ?_, by omega⟩
  · have h1 := pop_but n (by omega) i hi _ l1 (by rw [(set_bit hA hs).1]; exact decide_eq_false (fun z => z.2 h))
    omega
  · have h1 : (A 0 s).testBit i = true := by rw [(set_bit hA hs).2]; exact decide_eq_true ⟨by omega, h⟩
    rcases Nat.eq_zero_or_pos (pop (A 0 s)) with z | z
    · rw [pop_0 _ (hA.1 s)] at z
      rw [z, Nat.zero_testBit] at h1
      exact absurd h1 (by decide)
    · exact z
section N39b
variable {n : Nat} {A : Nat → Nat → Nat} {rm mt nt : Nat → Nat} {fm : Bool} {now : Nat → Int32} {TC TM : Nat → Nat} {p q : Nat → Nat → Bool} {gd : Nat → Prop} {code : Nat → Int32} {L : Nat} {r : cRule}
/-- what both know of the states on the way to an end -/
theorem us_mk (H : twoH n A p q TC TM gd) {ld : Nat → Nat → Bool} {W : Nat → Int64} {pr wt : Nat → Nat → Int32} (hq : ∀ s i, s < 3 ^ n → i < n → (ld s (2 * i) = (q s i && decide (dg s i = 0))) ∧ ld s (2 * i + 1) = (q s i && decide (dg s i = 1))) (hW : ∀ s, s < 3 ^ n → W s = lN (TM s)) (hb : ∀ s, s < 3 ^ n → TM s ≤ 681080400) (hp : ∀ s i, s < 3 ^ n - 1 → i < n → dg s i ≤ 1 → wt s (2 * i + dg s i) = pr s i ∧ -99 ≤ (pr s i).toInt ∧ (pr s i).toInt ≤ 99) : usG n pr wt (A 2) (lgC ld W) (fun s => gd s ∧ ¬ TM s = 0) := by
  have H' := H
  obtain ⟨h1, h2, h3, h4, h5, h6, h7, h8, h9, h10, h11, h12, h13⟩ := H'
  have hp3 := p3_pos n
  have wp : ∀ s, s < 3 ^ n → decide (0 < W s) = decide (¬ TM s = 0) := by
    intro s hs
    rw [hW s hs, decide_eq_decide, lN_pos' (hb s hs)]
    omega
  refine ⟨fun s hs ⟨hg, ht⟩ => ?_, fun s i hs ⟨hg, ht⟩ hi hv => ?_, fun s i hs ⟨hg, ht⟩ hi => ?_, fun e he => ?_⟩
  · rw [← h11 s (by omega) hg] at ht
    rw [h5.2 s hs] at ht
    obtain ⟨i, hi, hv⟩ := sumN_ex _ ht
    refine ⟨i, hi, ?_⟩
    rw [h8 s hs i]
    split at hv
    · rename_i c; exact decide_eq_true ⟨hi, c, hv⟩
    · exact absurd rfl hv
  · obtain ⟨a1, a2, a3, a4, a5⟩ := two_in H (by omega) hv
    have hd := h3 s i (by omega) hi a3
    obtain ⟨b1, b2⟩ := h10 s i (by omega) hi hg a3
    have hd' : dg s i ≤ 1 := by omega
    obtain ⟨c1, c2, c3⟩ := hp s i hs hi hd'
    exact ⟨hd', a5, ⟨b2, by rw [← h11 _ a5 b2]; exact a4⟩, c1, c2, c3⟩
  · rw [two_nx H hs hi hg]
    unfold lgC
    rw [(hq s i (by omega) hi).1, (hq s i (by omega) hi).2, show 2 * i / 2 = i by omega, show (2 * i + 1) / 2 = i by omega]
    by_cases c : q s i = true
    · rw [c, wp _ (dg_add hi (by omega) (h4 s i (by omega) hi c))]
      cases decide (¬ TM (s + 3 ^ i) = 0) <;> cases decide (dg s i = 0) <;> cases decide (dg s i = 1) <;> exact ⟨rfl, rfl⟩
    · have c : q s i = false := by cases e : q s i <;> simp_all
      rw [c]
      exact ⟨rfl, rfl⟩
  · unfold lgC
    have z : dg (3 ^ n - 1) (e / 2) = 2 := dg_last (by omega)
    obtain ⟨z1, z2⟩ := hq (3 ^ n - 1) (e / 2) (by omega) (by omega)
    rw [z] at z1 z2
    rcases (show e = 2 * (e / 2) ∨ e = 2 * (e / 2) + 1 by omega) with c | c
    · rw [← c] at z1
      rw [z1]
      simp
    · rw [← c] at z2
      rw [z2]
      simp
/-- prices by a rule are alike -/
theorem pr_eq (hg : gdT n mt nt) (hR : nowR n rm mt nt fm now) (hA : digA n A) (hu : ruR r code L) {wo th st : Nat → Int32} {wi wg : Nat → Nat} {s i : Nat} (hs : s < 3 ^ n - 1) (hi : i < n) (hd : dg s i ≤ 1) : wtV now n iV gV code L s (2 * i + dg s i) = prV false A (fwW r.1 r.2.2.2.1 n rm mt wo th st).1 wi wg s i ∧ -99 ≤ (prV false A (fwW r.1 r.2.2.2.1 n rm mt wo th st).1 wi wg s i).toInt ∧ (prV false A (fwW r.1 r.2.2.2.1 n rm mt wo th st).1 wi wg s i).toInt ≤ 99 := by
  have hn := hg.1
  have hs' : s < 3 ^ n := by omega
  obtain ⟨e1, e2⟩ := dig_eq hA.2.2 (tb_dig hn) hA.1 hA.2.1 iV_lt gV_lt hs'
  have hb := (hA.2.2 s hs' i (by omega)).1
  obtain ⟨p1, p2, p3⟩ := pop_io hA hn hs' hi
  have hv := fwG_v (cd := r.1) (sz := r.2.2.2.1) (n := n) (rm := rm) (mt := mt) (q := (wo, th, st)) (E := fun g c i l => clV99 (rlV (fun t => if t = 0 then nI g else if t = 1 then nI (rm g) else if t = 2 then nI c else if t = 3 then nI i else if t = 4 then nI l else if t = 5 then nI (i + 2 * l) else nI (pop (mt g))) code L)) (fun g c i l th st hgn ht => ru_v2 hu (fun t h7 => by
    obtain ⟨t0, t1, t6⟩ := ht
    unfold thX
    match t, h7 with
    | 0, _ => rw [upd_o _ _ (by decide), upd_o _ _ (by decide), upd_o _ _ (by decide), upd_o _ _ (by decide)]; exact t0
    | 1, _ => rw [upd_o _ _ (by decide), upd_o _ _ (by decide), upd_o _ _ (by decide), upd_o _ _ (by decide)]; exact t1
    | 2, _ => rw [upd_o _ _ (by decide), upd_o _ _ (by decide), upd_o _ _ (by decide), upd_s]; rfl
    | 3, _ => rw [upd_o _ _ (by decide), upd_o _ _ (by decide), upd_s]; rfl
    | 4, _ => rw [upd_o _ _ (by decide), upd_s]; rfl
    | 5, _ => rw [upd_s]; rfl
    | 6, _ => rw [upd_o _ _ (by decide), upd_o _ _ (by decide), upd_o _ _ (by decide), upd_o _ _ (by decide)]; exact t6)) hn n (Nat.le_refl _) i
  have key : wtV now n iV gV code L s (2 * i + dg s i) = prV false A (fwW r.1 r.2.2.2.1 n rm mt wo th st).1 wi wg s i := by
    unfold wtV prV fwW
    rw [if_neg Bool.false_ne_true, hb]
    have et : thM now n iV gV s (2 * i + dg s i) = (fun t => if t = 0 then nI i else if t = 1 then nI (rm i) else if t = 2 then nI (1 - dg s i) else if t = 3 then nI (pop (A 0 s)) else if t = 4 then nI (pop (A 1 s)) else if t = 5 then nI (pop (A 0 s) + 2 * pop (A 1 s)) else nI (pop (mt i))) := by
      unfold thM
      funext t
      rw [show (2 * i + dg s i) / 2 = i by omega, show (2 * i + dg s i) % 2 = dg s i by omega, hR.2.1 i hi, tho_1 hg hR hi, e1, e2]
    rw [et]
    rcases (show dg s i = 0 ∨ dg s i = 1 by omega) with c | c
    · rw [c, if_neg (by decide)]
      exact ((hv (pop (A 0 s)) (pop (A 1 s)) hi (by have := p1 c; omega) (by have := p1 c; omega)).1).symm
    · rw [c, if_pos (by decide)]
      have q := p2 c
      have h2 := (hv (pop (A 0 s) - 1) (pop (A 1 s)) hi (by omega) (by omega)).2
      rw [show pop (A 0 s) - 1 + 1 = pop (A 0 s) by omega] at h2
      exact h2.symm
  refine ⟨key, ?_⟩
  rw [← key]
  exact cl_b _
end N39b

