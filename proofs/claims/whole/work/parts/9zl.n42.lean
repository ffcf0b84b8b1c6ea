/-! stays: both sides' answers -/
theorem dg_le {x g : Nat} (h : ¬ dg x g = 0) : 3 ^ g ≤ x := by
  rcases Nat.lt_or_ge x (3 ^ g) with c | c
  · exfalso
    apply h
    unfold dg
    rw [Nat.div_eq_of_lt c]
  · exact c
theorem i32_add {a b : Int32} (h1 : -1000 ≤ a.toInt ∧ a.toInt ≤ 1000) (h2 : -1000 ≤ b.toInt ∧ b.toInt ≤ 1000) : (a + b).toInt = a.toInt + b.toInt := by
  rw [Int32.toInt_add, Int.bmod_eq_of_le (by omega) (by omega)]
theorem i32_sub {a b : Int32} (h1 : -1000 ≤ a.toInt ∧ a.toInt ≤ 1000) (h2 : -1000 ≤ b.toInt ∧ b.toInt ≤ 1000) : (a - b).toInt = a.toInt - b.toInt := by
  rw [Int32.toInt_sub, Int.bmod_eq_of_le (by omega) (by omega)]
theorem i32_neg {a : Int32} (h1 : -1000 ≤ a.toInt ∧ a.toInt ≤ 1000) : (-a).toInt = -a.toInt := by
  rw [Int32.toInt_neg, Int.bmod_eq_of_le (by omega) (by omega)]
section N42
variable {n g : Nat} {A : Nat → Nat → Nat} {p q : Nat → Nat → Bool} {TC TM : Nat → Nat} {gd : Nat → Prop} {ahC ahM : Nat → Int64} {cn : Nat → Nat → Bool}
/-- states on the way: good, with an end, reached -/
def wayS (n : Nat) (A : Nat → Nat → Nat) (TM : Nat → Nat) (gd : Nat → Prop) (s : Nat) : Prop := gd s ∧ ¬ TM s = 0 ∧ 0 < aN (rCA A) n (3 ^ n - 1) s
theorem way_nx (H : twoH n A p q TC TM gd) {s i : Nat} (hs : s < 3 ^ n) (hw : wayS n A TM gd s) (h : (A 2 s).testBit i = true) : i < n ∧ s < 3 ^ n - 1 ∧ dg s i ≤ 1 ∧ s + 3 ^ i < 3 ^ n ∧ wayS n A TM gd (s + 3 ^ i) := by
  have H' := H
  obtain ⟨h1, h2, h3, h4, h5, h6, h7, h8, h9, h10, h11, h12, h13⟩ := H'
  obtain ⟨a1, a2, a3, a4, a5⟩ := two_in H hs h
  have hd := h3 s i hs a1 a3
  obtain ⟨b1, b2⟩ := h10 s i hs a1 hw.1 a3
  have hp := p3_pos n
  refine ⟨a1, a2, by omega, a5, b2, by rw [← h11 _ a5 b2]; exact a4, ?_⟩
  have := aN_next (r := rCA A) a1 h
  have e := hw.2.2
  rw [aN_at (by omega)] at e
  rw [aN_at (by omega)]
  omega
theorem way_ex (H : twoH n A p q TC TM gd) {s : Nat} (hs : s < 3 ^ n - 1) (hw : wayS n A TM gd s) : ∃ i, i < n ∧ (A 2 s).testBit i = true := by
  have H' := H
  obtain ⟨h1, h2, h3, h4, h5, h6, h7, h8, h9, h10, h11, h12, h13⟩ := H'
  obtain ⟨hg, ht, -⟩ := hw
  rw [← h11 s (by omega) hg, h5.2 s hs] at ht
  obtain ⟨i, hi, hv⟩ := sumN_ex _ ht
  refine ⟨i, hi, ?_⟩
  rw [h8 s hs i]
  split at hv
  · rename_i c; exact decide_eq_true ⟨hi, c, hv⟩
  · exact absurd rfl hv
theorem way_0 (H : twoH n A p q TC TM gd) (h0 : ¬ TC 0 = 0) : wayS n A TM gd 0 := by
  have hp := p3_pos n
  have e : ¬ TM 0 = 0 := by rw [← H.2.2.2.2.2.2.2.2.2.2.1 0 hp H.2.1]; exact h0
  exact ⟨H.2.1, e, by rw [aN_at (Nat.zero_le _)]; show 0 < dl0 0; decide⟩
theorem way_of (H : twoH n A p q TC TM gd) (h0 : ¬ TC 0 = 0) {s : Nat} (hs : s < 3 ^ n) (h : 0 < aN (rCA A) n (3 ^ n - 1) s) : wayS n A TM gd s := by
  refine ⟨Classical.byContradiction (fun z => ?_), ?_, h⟩
  · rw [two_a0 H (by omega) z] at h; exact absurd h (by decide)
  · have := ((two_live H h0 hs).mp h).1
    omega
/-- a guest comes on some way -/
theorem way_come (H : twoH n A p q TC TM gd) (hg : g < n) : ∀ s, s < 3 ^ n → wayS n A TM gd s → dg s g = 0 → ∃ j, j < 3 ^ n ∧ wayS n A TM gd j ∧ dg j g = 0 ∧ (A 2 j).testBit g = true := by
  refine dw_ind (fun s hs ih hw hd => ?_)
  have hl : s < 3 ^ n - 1 := by
    rcases Nat.lt_or_ge s (3 ^ n - 1) with c | c
    · exact c
    · have : s = 3 ^ n - 1 := by omega
      rw [this, dg_last hg] at hd
      exact absurd hd (by decide)
  obtain ⟨i, hi, hv⟩ := way_ex H hl hw
  by_cases c : i = g
  · subst c
    exact ⟨s, hs, hw, hd, hv⟩
  · obtain ⟨a1, a2, a3, a4, a5⟩ := way_nx H hs hw hv
    have hp := p3_pos i
    exact ih (s + 3 ^ i) (by omega) a4 a5 (by rw [(dg_step a3).2 g (fun e => c e.symm)]; exact hd)
/-- what a stay is, in every state in which the guest is in -/
theorem stay_st (H : twoH n A p q TC TM gd) (h0 : ¬ TC 0 = 0) (hA : digA n A) (hg : g < n) (hC : ∀ s, s < 3 ^ n → ahC s = lN (aN (rCA A) n (3 ^ n - 1) s)) (hcn : ∀ s i, s < 3 ^ n - 1 → wayS n A TM gd s → i < n → cn s (2 * i) = ((A 2 s).testBit i && decide (dg s i = 0)) ∧ cn s (2 * i + 1) = ((A 2 s).testBit i && decide (dg s i = 1))) {co co' : Nat → Int32} {y0 y : lgT} {X Z : (Nat → Int32) × Int32 × Bool} (hX : dtr (lsF A ahC n g 1 (3 ^ g)) (3 ^ n - 3 ^ g) (co, 0, false) = X) (hZ : dtr (lsF A ahC n g (-1) (3 ^ g)) (3 ^ n - 3 ^ g) (co', 0, false) = Z) (hy : dtr (lgS cn (evN iV gV) iV n g) (3 ^ n) y0 = y) : ∀ x, x < 3 ^ n → wayS n A TM gd x → dg x g = 1 → ∃ a b : Int, 0 ≤ a ∧ a ≤ (evL n x : Int) ∧ 0 ≤ b ∧ b ≤ (evL n x : Int) ∧ (X.1 x).toInt = a ∧ (Z.1 x).toInt = -b ∧ (y.2 x).toInt = 2 * (n : Int) - (evL n x : Int) + a ∧ (y.1 x).toInt = 2 * (n : Int) - (evL n x : Int) + b := by
  have hn := H.1
  obtain ⟨-, tX, -, -, -⟩ := ls_tab (n := n) (g := g) (A := A) (f := 1) (ah := ahC) (pw := 3 ^ g) (3 ^ n - 3 ^ g) co 0 false
  obtain ⟨-, tZ, -, -, -⟩ := ls_tab (n := n) (g := g) (A := A) (f := -1) (ah := ahC) (pw := 3 ^ g) (3 ^ n - 3 ^ g) co' 0 false
  have ty := lg_tab (n := n) (g := g) (cn := cn) (ev := evN iV gV) (iN := iV) y0
  rw [hX] at tX
  rw [hZ] at tZ
  rw [hy] at ty
  refine dw_ind (fun x hx ih hw hd => ?_)
  have hgx := dg_le (x := x) (g := g) (by omega)
  have hl : x < 3 ^ n - 1 := by
    rcases Nat.lt_or_ge x (3 ^ n - 1) with c | c
    · exact c
    · have : x = 3 ^ n - 1 := by omega
      rw [this, dg_last hg] at hd
      exact absurd hd (by decide)
  have hin : (A 0 x).testBit g = true := by rw [(hA.2.2 x hx g (by omega)).1]; exact decide_eq_true hd
  have hiv : (iV x).testBit g = true := by rw [(tb_dig hn x hx g (by omega)).1]; exact decide_eq_true hd
  have hah : 0 < ahC x := by
    rw [hC x hx, aN_at (by omega), lN_pos' (two_b H h0 hx), ← aN_at (n := n) (r := rCA A) (k := 3 ^ n - 1) (by omega)]
    exact hw.2.2
  have hc : lsC A ahC g (3 ^ g) (x - 3 ^ g) := by
    unfold lsC
    rw [show 3 ^ g + (x - 3 ^ g) = x by omega]
    exact ⟨hah, hin⟩
  have eX := tX (x - 3 ^ g) (by omega) hc
  have eZ := tZ (x - 3 ^ g) (by omega) hc
  rw [show 3 ^ g + (x - 3 ^ g) = x by omega] at eX eZ
  obtain ⟨ey1, ey2⟩ := ty x hx hiv
  have hpd := pop_dig hn hx
  have hev : (evN iV gV x).toInt = 2 * (n : Int) - (evL n x : Int) := by
    unfold evN
    rw [nI_toInt (by omega)]
    omega
  have hvl : 1 ≤ evL n x := by
    have := ev_step (n := n) (s := x) (i := g) hg (by omega)
    omega
  have hv14 : evL n x ≤ 14 := by omega
  -- events
  have ev : ∀ i, i < n → (A 2 x).testBit i = true → ∃ a b : Int, 0 ≤ a ∧ a ≤ (evL n x : Int) ∧ 0 ≤ b ∧ b ≤ (evL n x : Int) ∧ (if i = g then (0 : Int32) else 1 + X.1 (x + 3 ^ i)).toInt = a ∧ (if i = g then (0 : Int32) else -1 + Z.1 (x + 3 ^ i)).toInt = -b ∧ (if 2 * i + dg x i = 2 * g + 1 then evN iV gV x else y.2 (x + 3 ^ ((2 * i + dg x i) / 2))).toInt = 2 * (n : Int) - (evL n x : Int) + a ∧ (if 2 * i + dg x i = 2 * g + 1 then evN iV gV x else y.1 (x + 3 ^ ((2 * i + dg x i) / 2))).toInt = 2 * (n : Int) - (evL n x : Int) + b := by
    intro i hi hv
    obtain ⟨a1, a2, a3, a4, a5⟩ := way_nx H hx hw hv
    by_cases c : i = g
    · subst c
      rw [if_pos rfl, if_pos rfl, if_pos (by omega), if_pos (by omega), hev]
      exact ⟨0, 0, by omega, by omega, by omega, by omega, rfl, rfl, by omega, by omega⟩
    · have hp := p3_pos i
      obtain ⟨a, b, b1, b2, b3, b4, b5, b6, b7, b8⟩ := ih (x + 3 ^ i) (by omega) a4 a5 (by rw [(dg_step a3).2 g (fun e => c e.symm)]; exact hd)
      have es := ev_step (n := n) (s := x) hi a3
      have o1 : (1 : Int32).toInt = 1 := rfl
      have o2 : (-1 : Int32).toInt = -1 := rfl
      rw [if_neg c, if_neg c, if_neg (by omega), if_neg (by omega), show (2 * i + dg x i) / 2 = i by omega, i32_add (by omega) (by omega), i32_add (by omega) (by omega), b5, b6, b7, b8]
      exact ⟨1 + a, 1 + b, by omega, by omega, by omega, by omega, by omega, by omega, by omega, by omega⟩
  have evc : ∀ e, e < 2 * n → cn x e = true → ∃ i, i < n ∧ (A 2 x).testBit i = true ∧ e = 2 * i + dg x i := by
    intro e he hce
    obtain ⟨k1, k2⟩ := hcn x (e / 2) hl hw (by omega)
    rcases (show e = 2 * (e / 2) ∨ e = 2 * (e / 2) + 1 by omega) with c | c
    · rw [← c, hce] at k1
      have k1 := (Bool.and_eq_true _ _).mp k1.symm
      exact ⟨e / 2, by omega, k1.1, by have := of_decide_eq_true k1.2; omega⟩
    · rw [← c, hce] at k2
      have k2 := (Bool.and_eq_true _ _).mp k2.symm
      exact ⟨e / 2, by omega, k2.1, by have := of_decide_eq_true k2.2; omega⟩
  have cev : ∀ i, i < n → (A 2 x).testBit i = true → cn x (2 * i + dg x i) = true := by
    intro i hi hv
    obtain ⟨a1, a2, a3, a4, a5⟩ := way_nx H hx hw hv
    obtain ⟨k1, k2⟩ := hcn x i hl hw hi
    rcases (show dg x i = 0 ∨ dg x i = 1 by omega) with c | c
    · rw [c, Nat.add_zero, k1, hv, c]; rfl
    · rw [c, k2, hv, c]; rfl
  obtain ⟨i0, hi0, hv0⟩ := way_ex H hl hw
  -- the class's least
  have cls : ∀ (f : Int32) (T : Nat → Int32), T x = lrV A n T x g f → (∃ i, i < n ∧ (A 2 x).testBit i = true ∧ T x = (if i = g then (0 : Int32) else f + T (x + 3 ^ i))) ∧ ∀ i, i < n → (A 2 x).testBit i = true → (T x).toInt ≤ (if i = g then (0 : Int32) else f + T (x + 3 ^ i)).toInt := by
    intro f T hT
    unfold lrV at hT
    rw [rsI_mn] at hT
    dsimp only at hT
    obtain ⟨m1, m2⟩ := mnO_is (us := fun i => (A 2 x).testBit i) (v := fun i => if i = g then (0 : Int32) else f + T (x + 3 ^ i)) n
    cases em : mnO (fun i => (A 2 x).testBit i) (fun i => if i = g then (0 : Int32) else f + T (x + 3 ^ i)) n with
    | none => exact absurd hv0 (by rw [m2 em i0 hi0]; decide)
    | some m =>
      rw [em] at hT
      obtain ⟨⟨i, q1, q2, q3⟩, q4⟩ := m1 m em
      have hT : T x = m := hT
      refine ⟨⟨i, q1, q2, hT.trans q3.symm⟩, fun i hi hv => ?_⟩
      have := q4 i hi hv
      rw [hT]
      exact Int.not_lt.mp (fun z => this (Int32.lt_iff_toInt_lt.mpr z))
  obtain ⟨⟨i1, a1, a2, a3⟩, a4⟩ := cls 1 X.1 eX
  obtain ⟨⟨j1, c1, c2, c3⟩, c4⟩ := cls (-1) Z.1 eZ
  obtain ⟨m1, m2, m3⟩ := mnJ_is (P := cn x) (v := fun e => if e = 2 * g + 1 then evN iV gV x else y.2 (x + 3 ^ (e / 2))) (a := 1000000) (2 * n)
  obtain ⟨l1, l2, l3⟩ := mxJ_is (P := cn x) (v := fun e => if e = 2 * g + 1 then evN iV gV x else y.1 (x + 3 ^ (e / 2))) (a := -1000000) (2 * n)
  rw [← ey2] at m1 m2 m3
  rw [← ey1] at l1 l2 l3
  have big : (1000000 : Int32).toInt = 1000000 := rfl
  have sml : (-1000000 : Int32).toInt = -1000000 := rfl
  obtain ⟨a, b', p1, p2, p3, p4, p5, p6, p7, p8⟩ := ev i1 a1 a2
  obtain ⟨a', b, r1, r2, r3, r4, r5, r6, r7, r8⟩ := ev j1 c1 c2
  obtain ⟨-, -, gi1, -⟩ := way_nx H hx hw a2
  obtain ⟨-, -, gj1, -⟩ := way_nx H hx hw c2
  refine ⟨a, b, p1, p2, r3, r4, by rw [a3]; exact p5, by rw [c3]; exact r6, ?_, ?_⟩
  · have u1 : (y.2 x).toInt ≤ 2 * (n : Int) - (evL n x : Int) + a := by
      rw [← p7]; exact m1 (2 * i1 + dg x i1) (by omega) (cev i1 a1 a2)
    rcases m3 with z | ⟨e, e1, e2, e3⟩
    · rw [z, big] at u1; omega
    · obtain ⟨k, k1, k2, rfl⟩ := evc e e1 e2
      obtain ⟨ak, bk, v1, v2, v3, v4, v5, v6, v7, v8⟩ := ev k k1 k2
      have u2 := a4 k k1 k2
      rw [a3, p5, v5] at u2
      have u3 : (y.2 x).toInt = 2 * (n : Int) - (evL n x : Int) + ak := by rw [e3]; exact v7
      omega
  · have u1 : 2 * (n : Int) - (evL n x : Int) + b ≤ (y.1 x).toInt := by
      rw [← r8]; exact l1 (2 * j1 + dg x j1) (by omega) (cev j1 c1 c2)
    rcases l3 with z | ⟨e, e1, e2, e3⟩
    · rw [z, sml] at u1; omega
    · obtain ⟨k, k1, k2, rfl⟩ := evc e e1 e2
      obtain ⟨ak, bk, v1, v2, v3, v4, v5, v6, v7, v8⟩ := ev k k1 k2
      have u2 := c4 k k1 k2
      rw [c3, r6, v6] at u2
      have u3 : (y.1 x).toInt = 2 * (n : Int) - (evL n x : Int) + bk := by rw [e3]; exact v8
      omega
/-- the longest stay and the shortest -/
theorem long_eq (H : twoH n A p q TC TM gd) (h0 : ¬ TC 0 = 0) (hA : digA n A) (hg : g < n) (hC : ∀ s, s < 3 ^ n → ahC s = lN (aN (rCA A) n (3 ^ n - 1) s)) (hM : ∀ s, s < 3 ^ n → ahM s = lN (aN q n (3 ^ n) s)) (hcn : ∀ s i, s < 3 ^ n - 1 → wayS n A TM gd s → i < n → cn s (2 * i) = ((A 2 s).testBit i && decide (dg s i = 0)) ∧ cn s (2 * i + 1) = ((A 2 s).testBit i && decide (dg s i = 1))) (hc2 : ∀ s, s < 3 ^ n → cn s (2 * g) = true → dg s g = 0 ∧ q s g = true ∧ ¬ TM (s + 3 ^ g) = 0) {co co' : Nat → Int32} {y0 y : lgT} {r : Int32 × Int32} {X Z : (Nat → Int32) × Int32 × Bool} (hX : dtr (lsF A ahC n g 1 (3 ^ g)) (3 ^ n - 3 ^ g) (co, 0, false) = X) (hZ : dtr (lsF A ahC n g (-1) (3 ^ g)) (3 ^ n - 3 ^ g) (co', 0, false) = Z) (hy : dtr (lgS cn (evN iV gV) iV n g) (3 ^ n) y0 = y) (hr : itr (lgP cn ahM (evN iV gV) y g) (-1, 1000000) (3 ^ n) = r) : r.1 = -Z.2.1 ∧ r.2 = X.2.1 := by
  have hn := H.1
  have H' := H
  obtain ⟨h1, h2, h3, h4, h5, h6, h7, h8, h9, h10, h11, h12, h13⟩ := H'
  have St := stay_st H h0 hA hg hC hcn hX hZ hy
  obtain ⟨-, -, x3, -, x5⟩ := ls_tab (n := n) (g := g) (A := A) (f := 1) (ah := ahC) (pw := 3 ^ g) (3 ^ n - 3 ^ g) co 0 false
  obtain ⟨-, -, z3, -, z5⟩ := ls_tab (n := n) (g := g) (A := A) (f := -1) (ah := ahC) (pw := 3 ^ g) (3 ^ n - 3 ^ g) co' 0 false
  rw [hX] at x3 x5
  rw [hZ] at z3 z5
  rw [lgP_J] at hr
  have hpn := p3_pos n
  have hpg := p3_pos g
  -- who comes where, on both sides
  have apos : ∀ s, s < 3 ^ n → (0 < ahC s) = (0 < aN (rCA A) n (3 ^ n - 1) s) := fun s hs => by
    rw [hC s hs, aN_at (by omega), lN_pos' (two_b H h0 hs)]
  have rC : ∀ t, (t < 3 ^ n - 3 ^ g ∧ lsC A ahC g (3 ^ g) t ∧ lsD A ahC g t) ↔ (t < 3 ^ n ∧ wayS n A TM gd t ∧ dg t g = 0 ∧ (A 2 t).testBit g = true) := by
    intro t
    constructor
    · rintro ⟨t1, ⟨t2, t3⟩, t4, t5⟩
      have ht : t < 3 ^ n := by omega
      rw [apos t ht] at t4
      have hw := way_of H h0 ht t4
      obtain ⟨a1, a2, a3, a4, a5⟩ := way_nx H ht hw t5
      rw [Nat.add_comm] at t3
      rw [(hA.2.2 _ a4 g (by omega)).1] at t3
      have t3 := of_decide_eq_true t3
      rw [(dg_step a3).1] at t3
      exact ⟨ht, hw, by omega, t5⟩
    · rintro ⟨t1, t2, t3, t4⟩
      obtain ⟨a1, a2, a3, a4, a5⟩ := way_nx H t1 t2 t4
      refine ⟨by omega, ⟨?_, ?_⟩, ?_, t4⟩
      · rw [Nat.add_comm, apos _ a4]; exact a5.2.2
      · rw [Nat.add_comm, (hA.2.2 _ a4 g (by omega)).1, (dg_step a3).1, t3]; rfl
      · rw [apos _ t1]; exact t2.2.2
  have rM : ∀ t, t < 3 ^ n → (decide (0 < ahM t ∧ cn t (2 * g) = true) = true ↔ (wayS n A TM gd t ∧ dg t g = 0 ∧ (A 2 t).testBit g = true)) := by
    intro t ht
    rw [decide_eq_true_eq]
    have am : ¬ TM t = 0 → (0 < ahM t) = (0 < aN (rCA A) n (3 ^ n - 1) t) := fun z => by
      have e := two_a H (Nat.le_refl _) z ht
      rw [hM t ht, ← e, aN_at (k := 3 ^ n) (by omega), aN_at (k := 3 ^ n - 1) (by omega), lN_pos' (two_b H h0 ht)]
    constructor
    · rintro ⟨t1, t2⟩
      obtain ⟨d1, d2, d3⟩ := hc2 t ht t2
      have hm := cnt_mono h4 h6 ht hg d2
      have hz : ¬ TM t = 0 := by omega
      rw [am hz] at t1
      have hw := way_of H h0 ht t1
      refine ⟨hw, d1, ?_⟩
      have hl : t < 3 ^ n - 1 := by
        rcases Nat.lt_or_ge t (3 ^ n - 1) with c | c
        · exact c
        · have : t = 3 ^ n - 1 := by omega
          rw [this, dg_last hg] at d1
          exact absurd d1 (by decide)
      rw [two_nx H hl hg hw.1, d2]
      exact decide_eq_true d3
    · rintro ⟨t1, t2, t3⟩
      obtain ⟨a1, a2, a3, a4, a5⟩ := way_nx H ht t1 t3
      refine ⟨by rw [am t1.2.1]; exact t1.2.2, ?_⟩
      rw [(hcn t g a2 t1 hg).1, t3, t2]; rfl
  obtain ⟨j, j1, j2, j3, j4⟩ := way_come H hg 0 hpn (way_0 H h0) (by unfold dg; simp)
  -- the values
  have va : ∀ t, t < 3 ^ n → wayS n A TM gd t → dg t g = 0 → (A 2 t).testBit g = true → ∃ a b : Int, 0 ≤ a ∧ a ≤ 14 ∧ 0 ≤ b ∧ b ≤ 14 ∧ (X.1 (3 ^ g + t)).toInt = a ∧ (Z.1 (3 ^ g + t)).toInt = -b ∧ (y.2 (t + 3 ^ g) - evN iV gV (t + 3 ^ g)).toInt = a ∧ (y.1 (t + 3 ^ g) - evN iV gV (t + 3 ^ g)).toInt = b := by
    intro t t1 t2 t3 t4
    obtain ⟨a1, a2, a3, a4, a5⟩ := way_nx H t1 t2 t4
    obtain ⟨a, b, b1, b2, b3, b4, b5, b6, b7, b8⟩ := St (t + 3 ^ g) a4 a5 (by rw [(dg_step a3).1, t3])
    have hpd := pop_dig hn a4
    have hev : (evN iV gV (t + 3 ^ g)).toInt = 2 * (n : Int) - (evL n (t + 3 ^ g) : Int) := by
      unfold evN
      rw [nI_toInt (by omega)]
      omega
    rw [Nat.add_comm (3 ^ g) t]
    refine ⟨a, b, b1, by omega, b3, by omega, b5, b6, ?_, ?_⟩
    · rw [i32_sub (by omega) (by omega), hev, b7]; omega
    · rw [i32_sub (by omega) (by omega), hev, b8]; omega
  obtain ⟨j5, j6, j7⟩ := (rC j).mpr ⟨j1, j2, j3, j4⟩
  obtain ⟨m1, m2, m3⟩ := mnJ_is (P := fun s => decide (0 < ahM s ∧ cn s (2 * g) = true)) (v := fun s => y.2 (s + 3 ^ g) - evN iV gV (s + 3 ^ g)) (a := 1000000) (3 ^ n)
  obtain ⟨l1, l2, l3⟩ := mxJ_is (P := fun s => decide (0 < ahM s ∧ cn s (2 * g) = true)) (v := fun s => y.1 (s + 3 ^ g) - evN iV gV (s + 3 ^ g)) (a := -1) (3 ^ n)
  have r1 : r.1 = itr (mxJ (fun s => decide (0 < ahM s ∧ cn s (2 * g) = true)) (fun s => y.1 (s + 3 ^ g) - evN iV gV (s + 3 ^ g))) (-1) (3 ^ n) := by rw [← hr]
  have r2 : r.2 = itr (mnJ (fun s => decide (0 < ahM s ∧ cn s (2 * g) = true)) (fun s => y.2 (s + 3 ^ g) - evN iV gV (s + 3 ^ g))) 1000000 (3 ^ n) := by rw [← hr]
  rw [← r2] at m1 m2 m3
  rw [← r1] at l1 l2 l3
  obtain ⟨aj, bj, k1, k2, k3, k4, k5, k6, k7, k8⟩ := va j j1 j2 j3 j4
  have big : (1000000 : Int32).toInt = 1000000 := rfl
  have sml : (-1 : Int32).toInt = -1 := rfl
  have jm := (rM j j1).mpr ⟨j2, j3, j4⟩
  constructor
  · -- the longest
    have u1 := l1 j j1 jm
    rw [k8] at u1
    rcases l3 with z | ⟨s, s1, s2, s3⟩
    · rw [z, sml] at u1; omega
    · obtain ⟨w1, w2, w3⟩ := (rM s s1).mp s2
      obtain ⟨as, bs, v1, v2, v3, v4, v5, v6, v7, v8⟩ := va s s1 w1 w2 w3
      obtain ⟨c1, c2, c3⟩ := (rC s).mpr ⟨s1, w1, w2, w3⟩
      obtain ⟨f1, f2⟩ := z3 s c1 c2 c3
      rcases z5 with z | ⟨t, t1, t2, t3, t4⟩
      · rw [z] at f1; exact absurd f1 (by decide)
      · obtain ⟨e1, e2, e3, e4⟩ := (rC t).mp ⟨t1, t2, t3⟩
        obtain ⟨at', bt, o1, o2, o3, o4, o5, o6, o7, o8⟩ := va t e1 e2 e3 e4
        have u2 := l1 t e1 ((rM t e1).mpr ⟨e2, e3, e4⟩)
        rw [o8] at u2
        rw [v6] at f2
        rw [t4, o6] at f2
        have hs : r.1.toInt = bs := by rw [s3]; exact v8
        apply Int32.toInt_inj.mp
        rw [i32_neg (by rw [t4, o6]; omega), t4, o6]
        omega
  · have u1 := m1 j j1 jm
    rw [k7] at u1
    rcases m3 with z | ⟨s, s1, s2, s3⟩
    · rw [z, big] at u1; omega
    · obtain ⟨w1, w2, w3⟩ := (rM s s1).mp s2
      obtain ⟨as, bs, v1, v2, v3, v4, v5, v6, v7, v8⟩ := va s s1 w1 w2 w3
      obtain ⟨c1, c2, c3⟩ := (rC s).mpr ⟨s1, w1, w2, w3⟩
      obtain ⟨f1, f2⟩ := x3 s c1 c2 c3
      rcases x5 with z | ⟨t, t1, t2, t3, t4⟩
      · rw [z] at f1; exact absurd f1 (by decide)
      · obtain ⟨e1, e2, e3, e4⟩ := (rC t).mp ⟨t1, t2, t3⟩
        obtain ⟨at', bt, o1, o2, o3, o4, o5, o6, o7, o8⟩ := va t e1 e2 e3 e4
        have u2 := m1 t e1 ((rM t e1).mpr ⟨e2, e3, e4⟩)
        rw [o7] at u2
        rw [v5] at f2
        rw [t4, o5] at f2
        have hs : r.2.toInt = as := by rw [s3]; exact v7
        apply Int32.toInt_inj.mp
        rw [t4, o5]
        omega
end N42

