/-! what is told changes alike on both sides -/
/-- the class's told and the model's row say the same -/
def relT (t : cTold) (now : Nat → Int32) : Prop := oldT t ∧ gdT t.1 t.2.2.1 t.2.2.2.1 ∧ nowR t.1 t.2.1 t.2.2.1 t.2.2.2.1 t.2.2.2.2.1 now
section N29
variable {n : Nat} {rm mt nt : Nat → Nat} {fm : Bool} {vr : Int32} {now : Nat → Int32}
theorem put_bit {f : Nat → Nat} {i j : Nat} {b : Bool} (hf : ∀ a, f a < 128) (hi : i < 7) (hj : j < 7) (hij : i ≠ j) (a t : Nat) (ht : t < 7) : (putM f i j b a).testBit t = if (a = i ∧ t = j) ∨ (a = j ∧ t = i) then b else (f a).testBit t := by
  unfold putM
  by_cases c1 : a = j
  · subst c1
    rw [zup_eq, sbit_tb _ (hf a) i hi t ht b]
    by_cases c2 : t = i
    · rw [if_pos c2, if_pos (Or.inr ⟨rfl, c2⟩)]
    · rw [if_neg c2, if_neg (fun q => q.elim (fun z => hij z.1.symm) (fun z => c2 z.2))]
  · rw [zup_ne _ _ c1]
    by_cases c2 : a = i
    · subst c2
      rw [zup_eq, sbit_tb _ (hf a) j hj t ht b]
      by_cases c3 : t = j
      · rw [if_pos c3, if_pos (Or.inl ⟨rfl, c3⟩)]
      · rw [if_neg c3, if_neg (fun q => q.elim (fun z => c3 z.2) (fun z => c1 z.1))]
    · rw [zup_ne _ _ c2, if_neg (fun q => q.elim (fun z => c2 z.1) (fun z => c1 z.1))]
theorem bit7 {x t : Nat} (hx : x < 128) (h : x.testBit t = true) : t < 7 := by
  by_cases c : t < 7
  · exact c
  · rw [bit_out hx (by omega)] at h; exact absurd h (by decide)
theorem lt_bits {x : Nat} (hx : x < 128) (h : ∀ t, t < 7 → x.testBit t = true → t < n) : x < 2 ^ n := by
  apply Nat.lt_pow_two_of_testBit
  intro t ht
  cases e : x.testBit t
  · rfl
  · have := h t (bit7 hx e) e; omega
theorem put_gd (hm : ∀ a, mt a < 128) (hN : ∀ a, nt a < 128) (hg : gdT n mt nt) {i j v : Nat} (hi : i < n) (hj : j < n) (hij : i ≠ j) : gdT n (putM mt i j (decide (v = 1))) (putM nt i j (decide (v = 0))) := by
  obtain ⟨g1, g2, g3, g4, g5⟩ := hg
  have bm := fun a t ht => put_bit (f := mt) (i := i) (j := j) (b := decide (v = 1)) hm (by omega) (by omega) hij a t ht
  have bn := fun a t ht => put_bit (f := nt) (i := i) (j := j) (b := decide (v = 0)) hN (by omega) (by omega) hij a t ht
  have lm := putM_lt (b := decide (v = 1)) (i := i) (j := j) hm (by omega) (by omega)
  have ln := putM_lt (b := decide (v = 0)) (i := i) (j := j) hN (by omega) (by omega)
  refine ⟨g1, fun a ha => ⟨lt_bits (lm a) (fun t ht h => ?_), lt_bits (ln a) (fun t ht h => ?_)⟩, fun a b ha hb => ⟨?_, ?_⟩, fun a ha => ⟨?_, ?_⟩, fun a t ha h => ?_⟩
  · rw [bm a t ht] at h
    by_cases c : (a = i ∧ t = j) ∨ (a = j ∧ t = i)
    · rcases c with c | c <;> omega
    · rw [if_neg c] at h
      by_cases q : t < n
      · exact q
      · rw [bit_n (g2 a ha).1 (by omega)] at h; exact absurd h (by decide)
  · rw [bn a t ht] at h
    by_cases c : (a = i ∧ t = j) ∨ (a = j ∧ t = i)
    · rcases c with c | c <;> omega
    · rw [if_neg c] at h
      by_cases q : t < n
      · exact q
      · rw [bit_n (g2 a ha).2 (by omega)] at h; exact absurd h (by decide)
  · rw [bm a b (by omega), bm b a (by omega)]
    by_cases c : (a = i ∧ b = j) ∨ (a = j ∧ b = i)
    · rw [if_pos c, if_pos (c.elim (fun z => Or.inr ⟨z.2, z.1⟩) (fun z => Or.inl ⟨z.2, z.1⟩))]
    · rw [if_neg c, if_neg (fun z => c (z.elim (fun z => Or.inr ⟨z.2, z.1⟩) (fun z => Or.inl ⟨z.2, z.1⟩)))]
      exact (g3 a b ha hb).1
  · rw [bn a b (by omega), bn b a (by omega)]
    by_cases c : (a = i ∧ b = j) ∨ (a = j ∧ b = i)
    · rw [if_pos c, if_pos (c.elim (fun z => Or.inr ⟨z.2, z.1⟩) (fun z => Or.inl ⟨z.2, z.1⟩))]
    · rw [if_neg c, if_neg (fun z => c (z.elim (fun z => Or.inr ⟨z.2, z.1⟩) (fun z => Or.inl ⟨z.2, z.1⟩)))]
      exact (g3 a b ha hb).2
  · rw [bm a a (by omega), if_neg (fun z => by rcases z with z | z <;> omega)]
    exact (g4 a ha).1
  · rw [bn a a (by omega), if_neg (fun z => by rcases z with z | z <;> omega)]
    exact (g4 a ha).2
  · have ht := bit7 (lm a) h.1
    rw [bm a t ht, bn a t ht] at h
    by_cases c : (a = i ∧ t = j) ∨ (a = j ∧ t = i)
    · rw [if_pos c, if_pos c] at h
      have a1 := of_decide_eq_true h.1
      have a2 := of_decide_eq_true h.2
      omega
    · rw [if_neg c, if_neg c] at h
      exact g5 a t ha h
theorem put_now (hm : ∀ a, mt a < 128) (hN : ∀ a, nt a < 128) (hg : gdT n mt nt) (hR : nowR n rm mt nt fm now) {i j v : Nat} (hi : i < n) (hj : j < n) (hij : i ≠ j) (hv : v ≤ 2) : nowR n rm (putM mt i j (decide (v = 1))) (putM nt i j (decide (v = 0))) fm (upd (upd now (7 * i + j) (nI v)) (7 * j + i) (nI v)) := by
  have hn := hg.1
  obtain ⟨r1, r2, r3⟩ := hR
  refine ⟨fun a b ha hb hab => ?_, fun g hgn => ?_, ?_⟩
  · have e : abt (putM mt i j (decide (v = 1))) (putM nt i j (decide (v = 0))) a b = if (a = i ∧ b = j) ∨ (a = j ∧ b = i) then v else abt mt nt a b := by
      unfold abt
      rw [put_bit hm (by omega) (by omega) hij a b (by omega), put_bit hN (by omega) (by omega) hij a b (by omega)]
      by_cases c : (a = i ∧ b = j) ∨ (a = j ∧ b = i)
      · rw [if_pos c, if_pos c, if_pos c]
        rcases (show v = 0 ∨ v = 1 ∨ v = 2 by omega) with z | z | z <;> subst z <;> rfl
      · rw [if_neg c, if_neg c, if_neg c]
    rw [e]
    unfold upd
    by_cases c1 : 7 * a + b = 7 * j + i
    · rw [if_pos c1, if_pos (Or.inr ⟨by omega, by omega⟩)]
    · rw [if_neg c1]
      by_cases c2 : 7 * a + b = 7 * i + j
      · rw [if_pos c2, if_pos (Or.inl ⟨by omega, by omega⟩)]
      · rw [if_neg c2, if_neg (fun z => by rcases z with z | z <;> omega)]
        exact r1 a b ha hb hab
  · unfold upd
    rw [if_neg (by omega), if_neg (by omega)]
    exact r2 g hgn
  · unfold upd
    rw [if_neg (by omega), if_neg (by omega)]
    exact r3
theorem same_now (hg : gdT n mt nt) (hR : nowR n rm mt nt fm now) {i j v : Nat} (hi : i < n) (hj : j < n) (hij : i ≠ j) (hv : abt mt nt i j = v) : nowR n rm mt nt fm (upd (upd now (7 * i + j) (nI v)) (7 * j + i) (nI v)) := by
  have hn := hg.1
  obtain ⟨r1, r2, r3⟩ := hR
  have hsym : abt mt nt j i = v := by
    rw [← hv]
    unfold abt
    rw [(hg.2.2.1 i j hi hj).1, (hg.2.2.1 i j hi hj).2]
  refine ⟨fun a b ha hb hab => ?_, fun g hgn => ?_, ?_⟩
  · unfold upd
    by_cases c1 : 7 * a + b = 7 * j + i
    · have e1 : a = j := by omega
      have e2 : b = i := by omega
      rw [if_pos c1, e1, e2, hsym]
    · rw [if_neg c1]
      by_cases c2 : 7 * a + b = 7 * i + j
      · have e1 : a = i := by omega
        have e2 : b = j := by omega
        rw [if_pos c2, e1, e2, hv]
      · rw [if_neg c2]
        exact r1 a b ha hb hab
  · unfold upd
    rw [if_neg (by omega), if_neg (by omega)]
    exact r2 g hgn
  · unfold upd
    rw [if_neg (by omega), if_neg (by omega)]
    exact r3
/-- a meeting told: alike -/
theorem tell_eq {t : cTold} (h : relT t now) {i j v : Nat} (hi : i < 2147483648) (hj : j < 2147483648) (hv : v < 2147483648) : (tellO t (nI i) (nI j) (nI v)).1 = (tlN now t.1 i j v).1 ∧ relT (tellO t (nI i) (nI j) (nI v)).2 (tlN now t.1 i j v).2 := by
  obtain ⟨n, rm, mt, nt, fm, vr⟩ := t
  obtain ⟨hO, hg, hR⟩ := h
  simp only at hg hR
  have hn := hg.1
  unfold tellO tlN
  simp only
  simp only [hasB_nI hn hi, hasB_nI hn hj, decide_eq_true_iff, nI_clamp hi, nI_clamp hj, nI_clamp hv]
  have e1 : (nI i = nI j) = (i = j) := nI_eqI hi hj
  have e2 : (nI v < 0) = False := eq_false (nI_pos hv)
  have e3 : ((2 : Int32) < nI v) = (2 < v) := nI_ult (a := 2) (by decide) hv
  by_cases c : i < n ∧ j < n ∧ i ≠ j ∧ v ≤ 2
  · obtain ⟨c1, c2, c3, c4⟩ := c
    have ev : (now (7 * i + j) = nI v) = (abt mt nt i j = v) := now_v hR c1 c2 c3 (by omega)
    have hal := abt_le mt nt i j
    have h5 : i < n ∧ j < n ∧ ¬ nI i = nI j ∧ ¬ nI v < 0 ∧ ¬ 2 < nI v := ⟨c1, c2, by rw [e1]; exact c3, by rw [e2]; exact not_false, by rw [e3]; omega⟩
    have h6 : i < n ∧ j < n ∧ i ≠ j ∧ v ≤ 2 := ⟨c1, c2, c3, c4⟩
    simp only [if_pos h5, if_pos h6]
    by_cases ce : abt mt nt i j = v
    · rw [if_pos ce, if_pos (ev.mpr ce)]
      exact ⟨rfl, hO, hg, same_now hg hR c1 c2 c3 ce⟩
    · rw [if_neg ce, if_neg (fun z => ce (ev.mp z))]
      refine ⟨?_, ⟨hO.1, hO.2.1, putM_lt hO.2.2.1 (by omega) (by omega), putM_lt hO.2.2.2 (by omega) (by omega)⟩, put_gd hO.2.2.1 hO.2.2.2 hg c1 c2 c3, put_now hO.2.2.1 hO.2.2.2 hg hR c1 c2 c3 c4⟩
      rw [hR.1 i j c1 c2 c3]
      exact (nI_add 10 _).symm
  · have h5 : ¬ (i < n ∧ j < n ∧ ¬ nI i = nI j ∧ ¬ nI v < 0 ∧ ¬ 2 < nI v) := fun z => c ⟨z.1, z.2.1, fun q => z.2.2.1 (by rw [q]), by have := z.2.2.2.2; rw [e3] at this; omega⟩
    simp only [if_neg c, if_neg h5]
    exact ⟨trivial, hO, hg, hR⟩
theorem pop_rest : ∀ n, n < 8 → ∀ g, g < n → ∀ x, x < 2 ^ n → x.testBit g = false → pop x + pop ((2 ^ n - 1) ^^^ x ^^^ 2 ^ g) = n - 1 := by decide +kernel
theorem tho_2x (hg : gdT n mt nt) (hR : nowR n rm mt nt fm now) {g : Nat} (h : g < n) : thoV now n g 2 = (2 ^ n - 1) ^^^ (mt g ||| nt g) ^^^ 2 ^ g := by
  obtain ⟨g1, g2, g3, g4, g5⟩ := hg
  apply Nat.eq_of_testBit_eq
  intro b
  rw [tho_2 hR h b, Nat.testBit_xor, Nat.testBit_xor, Nat.testBit_or, Nat.testBit_two_pow_sub_one, Nat.testBit_two_pow]
  by_cases c1 : b < n
  · by_cases c2 : b = g
    · subst c2
      simp [c1, (g4 b h).1, (g4 b h).2]
    · have c3 : ¬ g = b := fun e => c2 e.symm
      cases c4 : (mt g).testBit b <;> cases c5 : (nt g).testBit b <;> simp [c1, c2, c3]
  · have c3 : ¬ g = b := by omega
    simp [c1, c3, bit_n (g2 g h).1 (show n ≤ b by omega), bit_n (g2 g h).2 (show n ≤ b by omega)]
theorem pop_two (hg : gdT n mt nt) (hR : nowR n rm mt nt fm now) {g : Nat} (h : g < n) : pop (mt g ||| nt g) + pop (thoV now n g 2) = n - 1 := by
  rw [tho_2x hg hR h]
  exact pop_rest n (by have := hg.1; omega) g h _ (Nat.or_lt_two_pow (hg.2.1 g h).1 (hg.2.1 g h).2) (by rw [Nat.testBit_or, (hg.2.2.2.1 g h).1, (hg.2.2.2.1 g h).2]; rfl)
theorem pop_0 : ∀ x, x < 128 → (pop x = 0) = (x = 0) := by
  intro x hx
  apply propext
  revert x
  decide +kernel
theorem hd_rel (hm : ∀ a, mt a < 128) (hN : ∀ a, nt a < 128) (hg : gdT n mt nt) (hR : nowR n rm mt nt fm now) {g : Nat} (h : g < n) : ∀ k, k ≤ n → gdT n (hdF mt g k) (hdF nt g k) ∧ nowR n rm (hdF mt g k) (hdF nt g k) fm (itr (hiF g) now k) := by
  intro k
  induction k with
  | zero => exact fun _ => ⟨hg, hR⟩
  | succ k ih =>
    intro hk
    have hn := hg.1
    obtain ⟨i1, i2⟩ := ih (by omega)
    rw [itr_s]
    show gdT n (if k = g then hdF mt g k else putM (hdF mt g k) g k false) (if k = g then hdF nt g k else putM (hdF nt g k) g k false) ∧ nowR n rm (if k = g then hdF mt g k else putM (hdF mt g k) g k false) (if k = g then hdF nt g k else putM (hdF nt g k) g k false) fm (if k = g then itr (hiF g) now k else upd (upd (itr (hiF g) now k) (7 * g + k) 2) (7 * k + g) 2)
    by_cases c : k = g
    · simp only [if_pos c]
      exact ⟨i1, i2⟩
    · simp only [if_neg c]
      have l1 := hdF_lt (f := mt) (i := g) hm (by omega) k (by omega)
      have l2 := hdF_lt (f := nt) (i := g) hN (by omega) k (by omega)
      exact ⟨put_gd (v := 2) l1 l2 i1 h (by omega) (fun e => c e.symm), put_now (v := 2) l1 l2 i1 i2 h (by omega) (fun e => c e.symm) (by decide)⟩
theorem hd_same (hg : gdT n mt nt) (hR : nowR n rm mt nt fm now) {g : Nat} (h : g < n) (h0 : mt g ||| nt g = 0) : ∀ k, k ≤ n → nowR n rm mt nt fm (itr (hiF g) now k) := by
  intro k
  induction k with
  | zero => exact fun _ => hR
  | succ k ih =>
    intro hk
    rw [itr_s]
    show nowR n rm mt nt fm (if k = g then itr (hiF g) now k else upd (upd (itr (hiF g) now k) (7 * g + k) 2) (7 * k + g) 2)
    by_cases c : k = g
    · rw [if_pos c]; exact ih (by omega)
    · rw [if_neg c]
      refine same_now (v := 2) hg (ih (by omega)) h (by omega) (fun e => c e.symm) ?_
      rw [abt_2]
      have hb : (mt g ||| nt g).testBit k = false := by rw [h0]; exact Nat.zero_testBit k
      rw [Nat.testBit_or, Bool.or_eq_false_iff] at hb
      exact hb
/-- a guest hidden: alike -/
theorem hide_eq {t : cTold} (h : relT t now) {g : Nat} (hi : g < 2147483648) : (hideO t (nI g)).1 = (hdN now t.1 g).1 ∧ relT (hideO t (nI g)).2 (hdN now t.1 g).2 := by
  obtain ⟨n, rm, mt, nt, fm, vr⟩ := t
  obtain ⟨hO, hg, hR⟩ := h
  simp only at hg hR
  have hn := hg.1
  unfold hideO hdN
  simp only [hasB_nI hn hi, decide_eq_true_iff, nI_clamp hi]
  by_cases c : g < n
  · simp only [if_pos c]
    have e : n - 1 - pop (thoV now n g 2) = pop (mt g ||| nt g) := by have := pop_two hg hR c; omega
    rw [e]
    have hlt : mt g ||| nt g < 128 := Nat.or_lt_two_pow (n := 7) (hO.2.2.1 g) (hO.2.2.2 g)
    by_cases c2 : pop (mt g ||| nt g) = 0
    · rw [if_pos c2, if_pos c2]
      exact ⟨rfl, hO, hg, hd_same hg hR c (by rw [pop_0 _ hlt] at c2; exact c2) n (Nat.le_refl n)⟩
    · rw [if_neg c2, if_neg c2]
      obtain ⟨i1, i2⟩ := hd_rel hO.2.2.1 hO.2.2.2 hg hR c n (Nat.le_refl n)
      exact ⟨rfl, ⟨hO.1, hO.2.1, hdF_lt hO.2.2.1 (by omega) n hn, hdF_lt hO.2.2.2 (by omega) n hn⟩, i1, i2⟩
  · simp only [if_neg c]
    exact ⟨trivial, hO, hg, hR⟩
theorem cp_rel (hm : ∀ a, mt a < 128) (hN : ∀ a, nt a < 128) (hg : gdT n mt nt) (hR : nowR n rm mt nt fm now) {a b : Nat} (ha : a < n) (hb : b < n) (hab : a ≠ b) : ∀ k, k ≤ n → gdT n (cpM mt nt a b k).1 (cpM mt nt a b k).2.1 ∧ nowR n rm (cpM mt nt a b k).1 (cpM mt nt a b k).2.1 fm (itr (cpF a b) (0, now) k).2 ∧ (itr (cpF a b) (0, now) k).1 = nI (cpM mt nt a b k).2.2 := by
  intro k
  induction k with
  | zero => exact fun _ => ⟨hg, hR, rfl⟩
  | succ k ih =>
    intro hk
    have hn := hg.1
    obtain ⟨i1, i2, i3⟩ := ih (by omega)
    obtain ⟨l1, l2, l3⟩ := cpM_ok (i := a) hm hN (show b < 7 by omega) k (by omega)
    rw [itr_s]
    have eC : cpM mt nt a b (k + 1) = if k = a ∨ k = b ∨ abt (cpM mt nt a b k).1 (cpM mt nt a b k).2.1 a k = abt (cpM mt nt a b k).1 (cpM mt nt a b k).2.1 b k then cpM mt nt a b k else (putM (cpM mt nt a b k).1 b k (decide (abt (cpM mt nt a b k).1 (cpM mt nt a b k).2.1 a k = 1)), putM (cpM mt nt a b k).2.1 b k (decide (abt (cpM mt nt a b k).1 (cpM mt nt a b k).2.1 a k = 0)), (cpM mt nt a b k).2.2 + 1) := rfl
    rw [eC]
    generalize itr (cpF a b) (0, now) k = r at *
    generalize cpM mt nt a b k = q at *
    obtain ⟨q1, q2, q3⟩ := q
    obtain ⟨r1, r2⟩ := r
    simp only at i1 i2 i3 l1 l2 l3 ⊢
    unfold cpF
    by_cases c1 : k = a
    · rw [if_pos c1, if_pos (Or.inl c1)]; exact ⟨i1, i2, i3⟩
    · rw [if_neg c1]
      by_cases c2 : k = b
      · rw [if_pos c2, if_pos (Or.inr (Or.inl c2))]; exact ⟨i1, i2, i3⟩
      · rw [if_neg c2]
        have e1 := i2.1 a k ha (by omega) (fun e => c1 e.symm)
        have e2 := i2.1 b k hb (by omega) (fun e => c2 e.symm)
        have la := abt_le q1 q2 a k
        have lb := abt_le q1 q2 b k
        simp only
        rw [e1, e2]
        have ee : (nI (abt q1 q2 b k) = nI (abt q1 q2 a k)) = (abt q1 q2 b k = abt q1 q2 a k) := nI_eqI (by omega) (by omega)
        by_cases c3 : abt q1 q2 a k = abt q1 q2 b k
        · rw [if_pos (Or.inr (Or.inr c3)), if_pos (ee.mpr c3.symm)]
          refine ⟨i1, same_now i1 i2 hb (by omega) (fun e => c2 e.symm) c3.symm, ?_⟩
          rw [i3]; exact Int32.add_zero _
        · rw [if_neg (fun z => z.elim c1 (fun z => z.elim c2 c3)), if_neg (fun z => c3 (ee.mp z).symm)]
          refine ⟨put_gd l1 l2 i1 hb (by omega) (fun e => c2 e.symm), put_now l1 l2 i1 i2 hb (by omega) (fun e => c2 e.symm) la, ?_⟩
          rw [i3]; exact nI_add _ 1
/-- a guest's meetings copied: alike -/
theorem copy_eq {t : cTold} (h : relT t now) {i j : Nat} (hi : i < 2147483648) (hj : j < 2147483648) : (copyO t (nI i) (nI j)).1 = (cyN now t.1 i j).1 ∧ relT (copyO t (nI i) (nI j)).2 (cyN now t.1 i j).2 := by
  obtain ⟨n, rm, mt, nt, fm, vr⟩ := t
  obtain ⟨hO, hg, hR⟩ := h
  simp only at hg hR
  have hn := hg.1
  unfold copyO cyN
  have e1 : (nI i = nI j) = (i = j) := nI_eqI hi hj
  simp only [hasB_nI hn hi, hasB_nI hn hj, decide_eq_true_iff, nI_clamp hi, nI_clamp hj, e1]
  by_cases c : i < n ∧ j < n ∧ i ≠ j
  · obtain ⟨i1, i2, i3⟩ := cp_rel hO.2.2.1 hO.2.2.2 hg hR c.1 c.2.1 c.2.2 n (Nat.le_refl n)
    obtain ⟨l1, l2, l3⟩ := cpM_ok (i := i) hO.2.2.1 hO.2.2.2 (show j < 7 by have := c.2.1; omega) n hn
    simp only at l1 l2 l3
    simp only [if_pos c, if_pos (show i < n ∧ j < n ∧ ¬ i = j from c)]
    refine ⟨?_, ⟨hO.1, hO.2.1, l1, l2⟩, i1, i2⟩
    have ez : (nI (cpM mt nt i j n).2.2 = 0) = ((cpM mt nt i j n).2.2 = 0) := nI_eqI (b := 0) (by omega) (by decide)
    rw [i3]
    by_cases c2 : (cpM mt nt i j n).2.2 = 0
    · rw [if_pos c2, if_pos (ez.mpr c2)]
    · rw [if_neg c2, if_neg (fun z => c2 (ez.mp z))]
  · simp only [if_neg c, if_neg (show ¬ (i < n ∧ j < n ∧ ¬ i = j) from c)]
    exact ⟨trivial, hO, hg, hR⟩
theorem mv_now (hR : nowR n rm mt nt fm now) (hn : n ≤ 7) {g w : Nat} : nowR n (z_up rm g w) mt nt fm (upd now (49 + g) (nI w)) ∨ ¬ g < n := by
  by_cases c : g < n
  · refine Or.inl ⟨fun a b ha hb hab => ?_, fun x hx => ?_, ?_⟩
    · unfold upd
      rw [if_neg (by omega)]
      exact hR.1 a b ha hb hab
    · unfold upd z_up
      by_cases e : x = g
      · rw [if_pos (by omega), if_pos e]
      · rw [if_neg (by omega), if_neg e]
        exact hR.2.1 x hx
    · unfold upd
      rw [if_neg (by omega)]
      exact hR.2.2
  · exact Or.inr c
/-- a room changed: alike -/
theorem move_eq {t : cTold} (h : relT t now) {g w : Nat} (hi : g < 2147483648) (hw : w < 2147483648) : (moveO t (nI g) (nI w)).1 = (mvN now t.1 g w).1 ∧ relT (moveO t (nI g) (nI w)).2 (mvN now t.1 g w).2 := by
  obtain ⟨n, rm, mt, nt, fm, vr⟩ := t
  obtain ⟨hO, hg, hR⟩ := h
  simp only at hg hR
  have hn := hg.1
  have hr : ∀ i, rm i ≤ 9 := hO.2.1
  unfold moveO mvN
  have e2 : (nI w < 0) = False := eq_false (nI_pos hw)
  have e3 : ((9 : Int32) < nI w) = (9 < w) := nI_ult (a := 9) (by decide) hw
  simp only [hasB_nI hn hi, decide_eq_true_iff, nI_clamp hi, nI_clamp hw, e2, e3, not_false_eq_true, true_and]
  by_cases c : g < n ∧ w ≤ 9
  · simp only [if_pos c, if_pos (show g < n ∧ ¬ 9 < w from ⟨c.1, by have := c.2; omega⟩)]
    have ev : (now (49 + g) = nI w) = (rm g = w) := by
      rw [hR.2.1 g c.1]
      exact nI_eqI (by have := hr g; omega) hw
    have hnw := (mv_now (w := w) hR hn).resolve_right (fun z => z c.1)
    by_cases c2 : rm g = w
    · rw [if_pos c2, if_pos (ev.mpr c2)]
      refine ⟨rfl, hO, hg, ?_⟩
      have e : z_up rm g w = rm := by
        funext x
        unfold z_up
        by_cases e : x = g
        · rw [if_pos e, e, c2]
        · rw [if_neg e]
      rw [e] at hnw
      exact hnw
    · rw [if_neg c2, if_neg (fun z => c2 (ev.mp z))]
      refine ⟨?_, ⟨hO.1, ?_, hO.2.2⟩, hg, hnw⟩
      · show nI (rm g) = _
        rw [hR.2.1 g c.1]
      · intro x
        show z_up rm g w x ≤ 9
        unfold z_up
        split
        · exact c.2
        · exact hr x
  · simp only [if_neg c, if_neg (show ¬ (g < n ∧ ¬ 9 < w) from fun z => c ⟨z.1, by have := z.2; omega⟩)]
    exact ⟨trivial, hO, hg, hR⟩
/-- strict or not: alike -/
theorem firm_eq {t : cTold} (h : relT t now) {v : Nat} (hv : v < 2147483648) : (firmO t (nI v)).1 = (fmN now v).1 ∧ relT (firmO t (nI v)).2 (fmN now v).2 := by
  obtain ⟨n, rm, mt, nt, fm, vr⟩ := t
  obtain ⟨hO, hg, hR⟩ := h
  simp only at hg hR
  have hn := hg.1
  have key : ∀ b : Bool, nowR n rm mt nt b (upd now 56 (if b then 1 else 0)) := by
    intro b
    refine ⟨fun a b ha hb hab => ?_, fun x hx => ?_, ?_⟩
    · unfold upd
      rw [if_neg (by omega)]
      exact hR.1 a b ha hb hab
    · unfold upd
      rw [if_neg (by omega)]
      exact hR.2.1 x hx
    · unfold upd
      rw [if_pos rfl]
  unfold firmO fmN
  have e0 : (nI v = 0) = (v = 0) := nI_eqI (b := 0) hv (by decide)
  have e1 : (nI v = 1) = (v = 1) := nI_eqI (b := 1) hv (by decide)
  simp only [e0, e1]
  by_cases c0 : v = 0
  · subst c0
    simp only [if_true, if_pos (show (0 : Nat) ≤ 1 by decide)]
    exact ⟨hR.2.2.symm, hO, hg, key false⟩
  · by_cases c1 : v = 1
    · subst c1
      simp only [if_true, if_false, if_pos (show (1 : Nat) ≤ 1 by decide), show ((1 : Nat) = 0) = False from eq_false (by decide)]
      exact ⟨hR.2.2.symm, hO, hg, key true⟩
    · simp only [if_neg c0, if_neg c1, if_neg (show ¬ v ≤ 1 by omega)]
      exact ⟨trivial, hO, hg, hR⟩
end N29

