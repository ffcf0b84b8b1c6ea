/-! threes: both sides alike -/
section N24
variable {n : Nat} {rm mt nt : Nat → Nat} {fm : Bool} {now : Nat → Int32}
theorem fr_bit (hn : n ≤ 7) (hg : gdT n mt nt) {c : Nat} (hc : c < n) (t : Nat) : ((2 ^ n - 1) &&& (127 - (mt c ||| 2 ^ c))).testBit t = true ↔ t < n ∧ ¬ t = c ∧ (mt c).testBit t = false := by
  have hm := mt_lt hg hc
  have hb : mt c ||| 2 ^ c < 128 := q_or_lt hm (q_pow_lt (by omega))
  rw [and_bit, cpl_bit hb, Nat.testBit_two_pow_sub_one, Nat.testBit_or, Nat.testBit_two_pow]
  constructor
  · intro ⟨a, b⟩
    have a := of_decide_eq_true a
    rw [Bool.and_eq_true] at b
    refine ⟨a, fun e => ?_, ?_⟩
    · rw [e] at b
      simp at b
    · cases e : (mt c).testBit t
      · rfl
      · rw [e] at b; simp at b
  · intro ⟨a, b, d⟩
    have h7 : t < 7 := by omega
    have b' : ¬ c = t := fun e => b e.symm
    simp [a, h7, d, b']
theorem hg_bit (hn : n ≤ 7) (hg : gdT n mt nt) (hR : nowR n rm mt nt fm now) {c a : Nat} (hc : c < n) (ha : a < n) (t : Nat) : (thoV now n a 1 &&& (127 - (2 ^ c ||| thoV now n c 1))).testBit t = true ↔ (mt a).testBit t = true ∧ ((2 ^ n - 1) &&& (127 - (mt c ||| 2 ^ c))).testBit t = true := by
  rw [tho_1 hg hR ha, tho_1 hg hR hc, Nat.or_comm, and_bit, and_bit]
  constructor
  · intro ⟨x, y⟩
    refine ⟨x, ?_, y⟩
    rw [Nat.testBit_two_pow_sub_one]
    apply decide_eq_true
    by_cases e : t < n
    · exact e
    · rw [bit_n (hg.2.1 a ha).1 (by omega)] at x; exact absurd x (by decide)
  · rintro ⟨x, -, y⟩
    exact ⟨x, y⟩
theorem ht_eq (hg : gdT n mt nt) (hR : nowR n rm mt nt fm now) {a b c : Nat} (ha : a < n) (hc : c < n) (hac : a ≠ c) (hno : (mt c).testBit a = false) : htB now n a b c = wayB mt n a b c := by
  have hn := hg.1
  have hm := mt_lt hg hc
  unfold htB wayB hgV
  have h0 : 2 ^ a &&& (127 - (2 ^ c ||| thoV now n c 1)) = 2 ^ a := by
    rw [tho_1 hg hR hc]
    apply sbs_and
    intro t h
    rw [Nat.testBit_two_pow] at h
    have e := of_decide_eq_true h
    subst e
    have hb : 2 ^ c ||| mt c < 128 := q_or_lt (q_pow_lt (by omega)) hm
    rw [cpl_bit hb, Nat.testBit_or, Nat.testBit_two_pow, hno]
    have h7 : a < 7 := by omega
    have : ¬ c = a := fun e => hac e.symm
    simp [h7, this]
  rw [h0]
  have hgb := fun i hi t => hg_bit hn hg hR hc (a := i) hi t
  have hfrn : (2 ^ n - 1) &&& (127 - (mt c ||| 2 ^ c)) < 2 ^ n := Nat.lt_of_le_of_lt Nat.and_le_left (by have := Nat.two_pow_pos n; omega)
  generalize 2 ^ c ||| thoV now n c 1 = bu at *
  generalize (2 ^ n - 1) &&& (127 - (mt c ||| 2 ^ c)) = fr at *
  have hC := rc_cls (mt := mt) (fr := fr) (f := a) hn ha hfrn
  have inn : ∀ k r, k ≤ n → sbs r (itr (hgE now n bu) r k) ∧ (∀ i t, i < k → r.testBit i = true → (mt i).testBit t = true → fr.testBit t = true → (itr (hgE now n bu) r k).testBit t = true) ∧ ∀ C, clsd mt n fr C → sbs r C → sbs (itr (hgE now n bu) r k) C := by
    intro k r
    induction k with
    | zero => intro _; exact ⟨fun t h => h, fun i t h => absurd h (Nat.not_lt_zero _), fun C _ h => h⟩
    | succ k ih =>
      intro hk
      obtain ⟨i1, i2, i3⟩ := ih (by omega)
      rw [itr_s]
      generalize hx : itr (hgE now n bu) r k = x at *
      unfold hgE
      by_cases c1 : x.testBit k = true
      · rw [if_pos c1]
        refine ⟨fun t h => or_bit.mpr (Or.inl (i1 t h)), fun i t hi h1 h2 h3 => ?_, fun C hCl hs t h => ?_⟩
        · by_cases e : i = k
          · rw [e] at h2
            exact or_bit.mpr (Or.inr ((hgb k (by omega) t).mpr ⟨h2, h3⟩))
          · exact or_bit.mpr (Or.inl (i2 i t (by omega) h1 h2 h3))
        · rcases or_bit.mp h with h | h
          · exact i3 C hCl hs t h
          · obtain ⟨h1, h2⟩ := (hgb k (by omega) t).mp h
            exact hCl k t (by omega) (i3 C hCl hs k c1) h1 h2
      · rw [if_neg c1]
        refine ⟨i1, fun i t hi h1 h2 h3 => ?_, i3⟩
        by_cases e : i = k
        · rw [e] at h1
          exact absurd (i1 k h1) c1
        · exact i2 i t (by omega) h1 h2 h3
  have key : ∀ k, sbs (itr (rcF mt n fr) (2 ^ a) k) (itr (hgO now n bu) (2 ^ a) k) ∧ sbs (itr (hgO now n bu) (2 ^ a) k) (itr (rcF mt n fr) (2 ^ a) n) := by
    intro k
    induction k with
    | zero =>
      refine ⟨fun t h => h, fun t h => ?_⟩
      have : ∀ j, sbs (2 ^ a) (itr (rcF mt n fr) (2 ^ a) j) := by
        intro j
        induction j with
        | zero => exact fun t h => h
        | succ j ihj => exact fun t h => rc_grow j (2 ^ a) t (ihj t h)
      exact this n t h
    | succ k ih =>
      obtain ⟨i1, i2⟩ := ih
      rw [itr_s, itr_s]
      obtain ⟨j1, j2, j3⟩ := inn n (itr (hgO now n bu) (2 ^ a) k) (Nat.le_refl _)
      refine ⟨fun t h => ?_, j3 _ hC i2⟩
      rcases (rc_bit (itr (rcF mt n fr) (2 ^ a) k) t).mp h with h | ⟨⟨i, h1, h2, h3⟩, h4⟩
      · exact j1 t (i1 t h)
      · exact j2 i t h1 (i1 i h2) h3 h4
  have e := sbs_eq (key n).1 (key n).2
  rw [e]
theorem not_str (hg : gdT n mt nt) (hR : nowR n rm mt nt fm now) {a b : Nat} (ha : a < n) (hb : b < n) (hab : a ≠ b) : notB now a b = strB mt nt a b := by
  unfold notB strB
  have e : (now (7 * a + b) = 0) = (abt mt nt a b = 0) := now_v hR (v := 0) ha hb hab (by decide)
  simp only [e, abt_0 hg.2.2.2.2 ha]
  have hd := hg.2.2.2.2 a b ha
  cases c1 : (mt a).testBit b <;> cases c2 : (nt a).testBit b <;> simp_all
theorem far_eq (hg : gdT n mt nt) (hR : nowR n rm mt nt fm now) {a b c : Nat} (ha : a < n) (hb : b < n) (hc : c < n) (hab : a ≠ b) (hac : a ≠ c) (hbc : b ≠ c) : f3B now n a b c = farB mt nt n a b c := by
  unfold f3B farB
  rw [not_str hg hR ha hb hab, not_str hg hR ha hc hac, not_str hg hR hb hc hbc]
  have sm : ∀ {x y : Nat}, x < n → y < n → strB mt nt x y = true → (mt y).testBit x = false ∧ (mt x).testBit y = false := by
    intro x y hx hy h
    unfold strB at h
    rw [Bool.and_eq_true] at h
    have h1 : (mt x).testBit y = false := by
      cases e : (mt x).testBit y
      · rfl
      · rw [e] at h; exact absurd h.1 (by decide)
    exact ⟨by rw [(hg.2.2.1 y x hy hx).1]; exact h1, h1⟩
  cases s1 : strB mt nt a b
  · simp
  · cases s2 : strB mt nt a c
    · simp
    · cases s3 : strB mt nt b c
      · simp
      · rw [ht_eq hg hR ha hc hac (sm ha hc s2).1, ht_eq hg hR ha hb hab (sm ha hb s1).1, ht_eq hg hR hb ha (fun e => hab e.symm) (sm ha hb s1).2]
        simp [Bool.and_assoc]
end N24

