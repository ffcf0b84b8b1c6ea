/-! rings: every set that the class takes is a ring; both answers -/
theorem pop_22 : ∀ x, x < 128 → pop x = 2 → ∀ a, a < 7 → ∀ b, b < 7 → (x.testBit a && x.testBit b && decide (a ≠ b)) = true → x = 2 ^ a ||| 2 ^ b := by decide +kernel
theorem pop_3 (x : Nat) (hx : x < 128) (hp : pop x = 2) (a : Nat) (ha : a < 7) (b : Nat) (hb : b < 7) (d : Nat) (_hd : d < 7) (h1 : x.testBit a = true) (h2 : x.testBit b = true) (h3 : x.testBit d = true) (hab : a ≠ b) : d = a ∨ d = b := by
  have e := pop_22 x hx hp a ha b hb (by rw [h1, h2, decide_eq_true hab]; rfl)
  rw [e, Nat.testBit_or, Bool.or_eq_true, Nat.testBit_two_pow, Nat.testBit_two_pow, decide_eq_true_eq, decide_eq_true_eq] at h3
  rcases h3 with q | q
  · exact Or.inl q.symm
  · exact Or.inr q.symm
section N51
variable {n m : Nat} {rm mt nt : Nat → Nat} {fm : Bool} {now : Nat → Int32} {c : Nat → Nat}
theorem ps_rg (hg : gdT n mt nt) (hm : 4 ≤ m) {x : Nat} (hx : x < 2 ^ n) (h : psR mt nt n m x) : rgT mt nt n m (wkc mt x) := by
  have hn := hg.1
  have h7 := two7 hn
  obtain ⟨p1, p2, hc⟩ := h
  have l := fun i (hi : i ≤ m) => wkl_bit (mt := mt) (x := x) (by omega) i (fun t ht => by have := hc t (by omega); omega)
  -- what a step of the walk takes
  have stp : ∀ i, i < m → ((wkl mt x i).2.testBit (wkc mt x i) = true ∧ x.testBit (wkc mt x i) = true ∧ ∀ t, t < i → wkc mt x t ≠ wkc mt x i) ∧ ∀ b, (wkl mt x i).2.testBit b = true → x.testBit b = true → (∀ t, t < i → wkc mt x t ≠ b) → wkc mt x i ≤ b := by
    intro i hi
    obtain ⟨l1, l2⟩ := l i (by omega)
    obtain ⟨a1, a2⟩ := low_in ((wkl mt x i).2 &&& (wkl mt x i).1) (Nat.lt_of_le_of_lt Nat.and_le_right l1) (by have := hc i hi; unfold wkc at this; omega)
    rw [and_bit, l2] at a1
    refine ⟨a1, fun b b1 b2 b3 => ?_⟩
    rcases Nat.lt_or_ge b (wkc mt x i) with q | q
    · have := a2 b q
      rw [and_bit.mpr ⟨b1, (l2 b).mpr ⟨b2, b3⟩⟩] at this
      exact absurd this (by decide)
    · exact q
  have inj : ∀ i j, i < m → j < i → wkc mt x j ≠ wkc mt x i := fun i j hi hj => (stp i hi).1.2.2 j hj
  have inj2 : ∀ i j, i < m → j < m → wkc mt x i = wkc mt x j → i = j := by
    intro i j hi hj e
    rcases Nat.lt_trichotomy i j with q | q | q
    · exact absurd e (inj j i hj q)
    · exact q
    · exact absurd e.symm (inj i j hi q)
  have adj : ∀ i, i + 1 < m → (mt (wkc mt x i)).testBit (wkc mt x (i + 1)) = true := fun i hi => (stp (i + 1) hi).1.1
  have cov : ∀ b, x.testBit b = true → ∃ i, i < m ∧ wkc mt x i = b := by
    have e : stC (wkc mt x) m = x := by
      apply Classical.byContradiction
      intro z
      have := pop_sub (stC (wkc mt x) m) (by have := st_lt (c := wkc mt x) (n := n) m hc; omega) x (by omega) (by
        apply Nat.eq_of_testBit_eq
        intro b
        rw [Nat.testBit_or]
        cases e : (stC (wkc mt x) m).testBit b
        · rw [Bool.false_or]
        · obtain ⟨i, i1, i2⟩ := (st_bit m b).mp e
          rw [← i2, (stp i i1).1.2.1]; rfl) z
      rw [st_pop hn m hc inj] at this
      omega
    intro b hb
    rw [← e] at hb
    exact (st_bit m b).mp hb
  have sym : ∀ i j, i < m → j < m → (mt (wkc mt x i)).testBit (wkc mt x j) = (mt (wkc mt x j)).testBit (wkc mt x i) := fun i j hi hj => (hg.2.2.1 _ _ (hc i hi) (hc j hj)).1
  rw [okF_al] at p2
  have deg : ∀ i, i < m → pop (mt (wkc mt x i) &&& x) = 2 ∧ ((2 ^ n - 1) &&& (127 - (mt (wkc mt x i) ||| nt (wkc mt x i) ||| 2 ^ wkc mt x i))) &&& x = 0 := by
    intro i hi
    have := p2 (wkc mt x i) (Nat.zero_le _) (by have := hc i hi; omega)
    unfold rgB at this
    rw [(stp i hi).1.2.1, Bool.true_and, Bool.not_eq_false', Bool.and_eq_true, decide_eq_true_eq, decide_eq_true_eq] at this
    exact this
  have mlt : ∀ i, i < m → mt (wkc mt x i) &&& x < 128 := fun i hi => Nat.lt_of_le_of_lt Nat.and_le_right (by omega)
  -- inner ones have their two neighbours, and no third
  have nb : ∀ k s, 1 ≤ k → k + 1 < m → s < m → (mt (wkc mt x k)).testBit (wkc mt x s) = true → s = k - 1 ∨ s = k + 1 := by
    intro k s hk hk2 hs h
    have a1 : (mt (wkc mt x k)).testBit (wkc mt x (k - 1)) = true := by
      rw [sym k (k - 1) (by omega) (by omega)]
      have := adj (k - 1) (by omega)
      rw [show k - 1 + 1 = k by omega] at this
      exact this
    have a2 := adj k hk2
    have b7 : ∀ i, i < m → wkc mt x i < 7 := fun i hi => by have := hc i hi; omega
    rcases pop_3 _ (mlt k (by omega)) (deg k (by omega)).1 (wkc mt x (k - 1)) (b7 _ (by omega)) (wkc mt x (k + 1)) (b7 _ (by omega)) (wkc mt x s) (b7 _ hs) (and_bit.mpr ⟨a1, (stp _ (by omega)).1.2.1⟩) (and_bit.mpr ⟨a2, (stp _ (by omega)).1.2.1⟩) (and_bit.mpr ⟨h, (stp _ hs).1.2.1⟩) (fun e => by have := inj2 _ _ (show k - 1 < m by omega) hk2 e; omega) with e | e
    · exact Or.inl (inj2 _ _ hs (by omega) e)
    · exact Or.inr (inj2 _ _ hs (by omega) e)
  -- the ring closes
  have cls : (mt (wkc mt x 0)).testBit (wkc mt x (m - 1)) = true := by
    obtain ⟨y, y1, y2, y3⟩ := pop_ex2 _ (mlt 0 (by omega)) (deg 0 (by omega)).1 (wkc mt x 1) (by have := hc 1 (by omega); omega)
    rw [and_bit] at y3
    obtain ⟨s, s1, s2⟩ := cov y y3.2
    subst s2
    by_cases q : s = m - 1
    · rw [← q]; exact y3.1
    · exfalso
      have s0 : s ≠ 0 := fun z => by
        subst z
        have := y3.1
        rw [(hg.2.2.2.1 _ (hc 0 (by omega))).1] at this
        exact absurd this (by decide)
      have sne : s ≠ 1 := fun z => y2 (by rw [z])
      have := nb s 0 (by omega) (by omega) (by omega) (by rw [sym s 0 s1 (by omega)]; exact y3.1)
      omega
  have den : ∀ j k, j < m → k < m → j ≠ k → (mt (wkc mt x j)).testBit (wkc mt x k) = false → (nt (wkc mt x j)).testBit (wkc mt x k) = true := by
    intro j k hj hk hjk h
    have o := (deg j hj).2
    rw [and0] at o
    cases e : (nt (wkc mt x j)).testBit (wkc mt x k)
    · exfalso
      have l1 := (hg.2.1 _ (hc j hj)).1
      have l2 := (hg.2.1 _ (hc j hj)).2
      refine o (wkc mt x k) ⟨?_, (stp k hk).1.2.1⟩
      rw [and_bit, cpl_bit (q_or_lt (q_or_lt (by omega) (by omega)) (q_pow_lt (by have := hc j hj; omega))), Nat.testBit_or, Nat.testBit_or, Nat.testBit_two_pow, h, e, all_bit]
      have hne : ¬ wkc mt x j = wkc mt x k := fun z => hjk (inj2 j k hj hk z)
      have := hc k hk
      simp [hne, this]
      omega
    · rfl
  refine ⟨hc 0 (by omega), fun k h1 h2 => ⟨hc k h2, ?_, ?_, fun j hj => ?_⟩⟩
  · have := adj (k - 1) (by omega)
    rw [show k - 1 + 1 = k by omega] at this
    exact this
  · have a := (stp 0 (by omega)).2 (wkc mt x k) (stp k h2).1.2.1 (stp k h2).1.2.1 (fun t h => absurd h (Nat.not_lt_zero _))
    have b := inj k 0 h2 (by omega)
    omega
  · by_cases q : j = 0 ∧ k = m - 1
    · rw [if_pos q, q.2]
      refine ⟨cls, ?_⟩
      have a := (stp 1 (by omega)).2 (wkc mt x (m - 1)) cls (stp (m - 1) (by omega)).1.2.1 (fun t ht => inj (m - 1) t (by omega) (by omega))
      have b := inj (m - 1) 1 (by omega) (by omega)
      omega
    · rw [if_neg q]
      refine den j k (by omega) h2 (by omega) ?_
      cases e : (mt (wkc mt x j)).testBit (wkc mt x k)
      · rfl
      · exfalso
        by_cases q0 : j = 0
        · subst q0
          have := nb k 0 (by omega) (by omega) (by omega) (by rw [sym k 0 h2 (by omega)]; exact e)
          omega
        · have := nb j k (by omega) (by omega) h2 e
          omega
theorem mrg_cg {k : Nat} {c c' : Nat → Nat} {r : Nat} (hm : 4 ≤ m) (h : ∀ i, i < k → c i = c' i) : mrgB now m k c r = mrgB now m k c' r := by
  unfold mrgB
  by_cases k0 : k = 0
  · rw [if_pos k0, if_pos k0]
  · rw [if_neg k0, if_neg k0]
    unfold frgB
    rw [h (k - 1) (by omega), h 0 (by omega)]
    have key : ∀ i, i ≤ k - 1 → itr (frF now c m k r) (metB now (c' (k - 1)) r && decide (c' 0 < r)) i = itr (frF now c' m k r) (metB now (c' (k - 1)) r && decide (c' 0 < r)) i := by
      intro i
      induction i with
      | zero => exact fun _ => rfl
      | succ i ih =>
        intro hi
        rw [itr_s, itr_s, ih (by omega)]
        unfold frF
        rw [h i (by omega), h 1 (by omega)]
    exact key (k - 1) (Nat.le_refl _)
/-- rings of m: both find one, and the same, or none -/
theorem ring_m (hg : gdT n mt nt) (hR : nowR n rm mt nt fm now) (hm : 4 ≤ m) (ci : cCir) (c : Nat → Nat) : (itr (rsF mt nt n m) (false, ci) (2 ^ n)).1 = (bkF n (mrgB now m) m 0 c).1 ∧ ((bkF n (mrgB now m) m 0 c).1 = true → ∀ t, t < m → (itr (rsF mt nt n m) (false, ci) (2 ^ n)).2.2 t = nI ((bkF n (mrgB now m) m 0 c).2 t) ∧ (bkF n (mrgB now m) m 0 c).2 t < 7) := by
  have hn := hg.1
  have hf : ∀ k (c c' : Nat → Nat) r, (∀ i, i < k → c i = c' i) → mrgB now m k c r = mrgB now m k c' r := fun k c c' r h => mrg_cg hm h
  have it := bkF_iff (m := n) hf m 0 c
  rcases rs_all (mt := mt) (nt := nt) (m := m) hn (ci := ci) (2 ^ n) with ⟨r1, r2⟩ | ⟨r1, x, x1, x2, x3, x4⟩
  · have e : (bkF n (mrgB now m) m 0 c).1 = false := by
      cases e : (bkF n (mrgB now m) m 0 c).1
      · rfl
      · obtain ⟨a1, -⟩ := bkF_res hf m 0 c e
        obtain ⟨b1, b2, -⟩ := rg_ps hg ((rg_fit hg hR hm).mp a1) hm
        exact absurd b2 (r2 _ b1)
    rw [r1, e]
    exact ⟨rfl, fun z => absurd z Bool.false_ne_true⟩
  · have ok := ps_rg hg hm x1 x2
    have okc := (rg_fit hg hR hm).mpr ok
    have e : (bkF n (mrgB now m) m 0 c).1 = true := it.mpr ⟨wkc mt x, fun i hi => absurd hi (Nat.not_lt_zero _), okc⟩
    rw [r1, e]
    refine ⟨rfl, fun _ t ht => ?_⟩
    obtain ⟨a1, a2⟩ := bkF_res hf m 0 c e
    generalize (bkF n (mrgB now m) m 0 c).2 = r at *
    obtain ⟨b1, b2, b3⟩ := rg_ps hg ((rg_fit hg hR hm).mp a1) hm
    have n1 : ¬ lxC (wkc mt x) r 0 m := a2 _ (fun i hi => absurd hi (Nat.not_lt_zero _)) okc
    have n2 : ¬ lxC r (wkc mt x) 0 m := fun z => x4 _ b1 b2 (lx_cg (fun i _ hi => (b3 i (by omega)).symm) (fun _ _ _ => rfl) z)
    have eq := lx_eq n1 n2 t (Nat.zero_le _) (by omega)
    rw [x3 t ht, eq]
    exact ⟨rfl, by have := (a1 t (Nat.zero_le _) (by omega)).1; omega⟩
theorem ring_eq (hg : gdT n mt nt) (hR : nowR n rm mt nt fm now) {ro : cRow} {row : Nat → Int64} : ∀ j m ci c, 4 ≤ m → m + j = n + 1 → ((rgO mt nt n ro m j ci).1 = -2 ∧ (rgO mt nt n ro m j ci).2.2 = ro ∧ (mrgV now n j m c).1 = 0) ∨ (¬ (mrgV now n j m c).1 = 0 ∧ (mrgV now n j m c).1 ≤ 7 ∧ (rgO mt nt n ro m j ci).1 = nI (mrgV now n j m c).1 ∧ rowR (rgO mt nt n ro m j ci).2.2 ((mrgV now n j m c).1, itr (roF (mrgV now n j m c).2) row (mrgV now n j m c).1)) := by
  have hn := hg.1
  intro j
  induction j with
  | zero => intro m ci c _ _; exact Or.inl ⟨rfl, rfl, rfl⟩
  | succ j ih =>
    intro m ci c hm hj
    obtain ⟨a1, a2⟩ := ring_m hg hR hm ci c
    rw [rgO_s, a1]
    have es : mrgV now n (j + 1) m c = if (bkF n (mrgB now m) m 0 c).1 = true then (m, (bkF n (mrgB now m) m 0 c).2) else mrgV now n j (m + 1) (bkF n (mrgB now m) m 0 c).2 := rfl
    rw [es]
    by_cases q : (bkF n (mrgB now m) m 0 c).1 = true
    · rw [if_pos q, if_pos q]
      refine Or.inr ⟨by show ¬ m = 0; omega, by show m ≤ 7; omega, rfl, rfl, fun i hi => ?_⟩
      have hi : i < m := hi
      show tlR (itr (rsF mt nt n m) (false, ci) (2 ^ n)).2.2 ro.2 m i = itr (roF (bkF n (mrgB now m) m 0 c).2) row m i
      unfold tlR
      rw [row_fill (f := fun i => ((itr (rsF mt nt n m) (false, ci) (2 ^ n)).2.2 i).toInt64) m i hi]
      have e2 : itr (roF (bkF n (mrgB now m) m 0 c).2) row m i = lN ((bkF n (mrgB now m) m 0 c).2 i) := row_fill (f := fun i => lN ((bkF n (mrgB now m) m 0 c).2 i)) m i hi
      rw [e2]
      obtain ⟨b1, b2⟩ := a2 q i hi
      show ((itr (rsF mt nt n m) (false, ci) (2 ^ n)).2.2 i).toInt64 = _
      rw [b1, nI_l (by omega)]
    · rw [if_neg q, if_neg q]
      exact ih (m + 1) _ _ (by omega) (by omega)
end N51

