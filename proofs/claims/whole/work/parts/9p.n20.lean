/-! the dearest: both sides are alike -/
section N20
variable {n : Nat} {pr wt : Nat → Nat → Int32} {ev : Nat → Nat} {cn : Nat → Nat → Bool} {G : Nat → Prop} {TM : Nat → Nat}
theorem fgI_dp {s e : Nat} {x x' : Nat → Int32} {w w' : Nat → Int64} (h : ∀ j, s < j → x j = x' j ∧ w j = w' j) : ∀ k, itr (fgI pr x w s e) (0, 0) k = itr (fgI pr x' w' s e) (0, 0) k := by
  intro k
  induction k with
  | zero => rw [itr_0, itr_0]
  | succ k ih =>
    have hp := p3_pos k
    obtain ⟨e1, e2⟩ := h (s + 3 ^ k) (by omega)
    have key : ∀ r, fgI pr x w s e k r = fgI pr x' w' s e k r := by
      intro r
      unfold fgI
      rw [e1, e2]
    rw [itr_s, itr_s, ih, key]
def gwT (n : Nat) (pr : Nat → Nat → Int32) (ev : Nat → Nat) (R : (Nat → Int32) × (Nat → Int64)) : Prop := R.1 (3 ^ n - 1) = 0 ∧ R.2 (3 ^ n - 1) = 1 ∧ ∀ s, s < 3 ^ n - 1 → R.1 s = (itr (fgI pr R.1 R.2 s (ev s)) (0, 0) n).1 ∧ R.2 s = (itr (fgI pr R.1 R.2 s (ev s)) (0, 0) n).2
theorem gw_mk (co0 : Nat → Int32) (w0 : Nat → Int64) : gwT n pr ev (dtr (fgG pr ev n) (3 ^ n - 1) (upd co0 (3 ^ n - 1) 0, z_up w0 (3 ^ n - 1) 1)) := by
  have hl : ∀ t x j, j ≠ t → (fgG pr ev n t x).1 j = x.1 j ∧ (fgG pr ev n t x).2 j = x.2 j := fun t x j h => ⟨if_neg h, zup_ne _ _ h⟩
  have hd : ∀ t x y, (∀ j, t < j → x.1 j = y.1 j ∧ x.2 j = y.2 j) → (fgG pr ev n t x).1 t = (fgG pr ev n t y).1 t ∧ (fgG pr ev n t x).2 t = (fgG pr ev n t y).2 t := by
    intro t x y h
    unfold fgG
    rw [fgI_dp h n]
    exact ⟨(if_pos rfl).trans (if_pos rfl).symm, (zup_eq _ _ _).trans (zup_eq _ _ _).symm⟩
  obtain ⟨a, b⟩ := dtr2_ge hl (3 ^ n - 1) (upd co0 (3 ^ n - 1) 0, z_up w0 (3 ^ n - 1) 1) (3 ^ n - 1) (Nat.le_refl _)
  refine ⟨a.trans (if_pos rfl), b.trans (zup_eq _ _ _), fun s hs => ?_⟩
  obtain ⟨c, d⟩ := dtr2_tab hl hd (3 ^ n - 1) (upd co0 (3 ^ n - 1) 0, z_up w0 (3 ^ n - 1) 1) s hs
  exact ⟨c.trans (if_pos rfl), d.trans (zup_eq _ _ _)⟩
theorem dear_eq (hn : n ≤ 7) (U : usG n pr wt ev cn G) {R : (Nat → Int32) × (Nat → Int64)} (hc : gwT n pr ev R) (y0 : deT) (hT1 : TM (3 ^ n - 1) = 1) (hTs : ∀ s, s < 3 ^ n - 1 → G s → sumN (fun i => if (ev s).testBit i = true then TM (s + 3 ^ i) else 0) n ≤ TM s) (hTb : ∀ s, s < 3 ^ n → TM s ≤ 681080400) : ∀ s, s < 3 ^ n → G s → R.1 s = (deV cn wt n y0).1 s ∧ R.2 s = (deV cn wt n y0).2 s ∧ (-(99 * (evL n s : Int)) ≤ (R.1 s).toInt ∧ (R.1 s).toInt ≤ 99 * (evL n s : Int)) ∧ ∃ d, R.2 s = lN d ∧ 0 < d ∧ d ≤ TM s := by
  obtain ⟨u1, u2, u3, u4⟩ := U
  have h3 := p3_pos n
  have hrec := de_rec (n := n) (cn := cn) (wt := wt) y0
  generalize deV cn wt n y0 = Y at *
  obtain ⟨c1, c2, c3⟩ := hc
  refine dw_ind (fun s hs ih hG => ?_)
  obtain ⟨r1, r2⟩ := hrec s hs
  by_cases c : s = 3 ^ n - 1
  · have nocn : ∀ k, k ≤ 2 * n → itr (deE cn wt s) (z_up Y.1 s (if s = 3 ^ n - 1 then 0 else -1000000), z_up Y.2 s (if s = 3 ^ n - 1 then 1 else 0)) k = (z_up Y.1 s (if s = 3 ^ n - 1 then 0 else -1000000), z_up Y.2 s (if s = 3 ^ n - 1 then 1 else 0)) := by
      intro k
      induction k with
      | zero => intro _; rfl
      | succ k ihk =>
        intro hk
        rw [itr_s, ihk (by omega)]
        unfold deE
        rw [if_neg (by rw [c, u4 k (by omega)]; decide)]
    rw [nocn (2 * n) (Nat.le_refl _)] at r1 r2
    simp only [zup_eq, if_pos c] at r1 r2
    rw [r1, r2, c, c1, c2, ev_last]
    exact ⟨rfl, rfl, ⟨by decide, by decide⟩, 1, rfl, by decide, by rw [hT1]; decide⟩
  · have hs' : s < 3 ^ n - 1 := by omega
    obtain ⟨k1, k2⟩ := c3 s hs'
    have hP : ∀ i, i < n → (ev s).testBit i = true → ∃ d, R.2 (s + 3 ^ i) = lN d ∧ 0 < d ∧ d ≤ TM (s + 3 ^ i) := by
      intro i hi hu
      obtain ⟨a1, a2, a3, a4, a5, a6⟩ := u2 s i hs' hG hi hu
      have hp := p3_pos i
      exact (ih _ (by omega) a2 a3).2.2.2
    have hD : ∃ D : Nat → Nat, ∀ i, i < n → (ev s).testBit i = true → R.2 (s + 3 ^ i) = lN (D i) ∧ 0 < D i ∧ D i ≤ TM (s + 3 ^ i) := by
      have hall : ∀ i, ∃ d, i < n → (ev s).testBit i = true → R.2 (s + 3 ^ i) = lN d ∧ 0 < d ∧ d ≤ TM (s + 3 ^ i) := by
        intro i
        by_cases q1 : i < n
        · by_cases q2 : (ev s).testBit i = true
          · obtain ⟨d, hd⟩ := hP i q1 q2
            exact ⟨d, fun _ _ => hd⟩
          · exact ⟨0, fun _ z => absurd z q2⟩
        · exact ⟨0, fun z => absurd z q1⟩
      exact Classical.skolem.mp hall
    obtain ⟨D, hD⟩ := hD
    have hsum : sumN (fun i => if (ev s).testBit i = true then D i else 0) n ≤ TM s := by
      refine Nat.le_trans (sumN_le n (fun i hi => ?_)) (hTs s hs' hG)
      by_cases cu : (ev s).testBit i = true
      · rw [if_pos cu, if_pos cu]; exact (hD i hi cu).2.2
      · rw [if_neg cu, if_neg cu]; exact Nat.le_refl _
    have hb := hTb s hs
    have eC := fgI_mx (pr := pr) (co := R.1) (w := R.2) (s := s) (e := ev s) (c := D) n (fun i hi hu => ⟨(hD i hi hu).1, (hD i hi hu).2.1⟩) (by omega)
    have val : ∀ i, i < n → (ev s).testBit i = true → (pr s i + R.1 (s + 3 ^ i)).toInt = (pr s i).toInt + (R.1 (s + 3 ^ i)).toInt ∧ -(99 * (evL n s : Int)) ≤ (pr s i).toInt + (R.1 (s + 3 ^ i)).toInt ∧ (pr s i).toInt + (R.1 (s + 3 ^ i)).toInt ≤ 99 * (evL n s : Int) := by
      intro i hi hu
      obtain ⟨a1, a2, a3, a4, a5, a6⟩ := u2 s i hs' hG hi hu
      have hp := p3_pos i
      obtain ⟨b1, b2, ⟨b3, b4⟩, b5⟩ := ih _ (by omega) a2 a3
      have hev := ev_step hi a1
      have hle := ev_le n s
      refine ⟨?_, by omega, by omega⟩
      rw [Int32.toInt_add, Int.bmod_eq_of_le (by omega) (by omega)]
    have cnE : ∀ e, e < 2 * n → cn s e = true → (ev s).testBit (e / 2) = true ∧ e = 2 * (e / 2) + dg s (e / 2) := by
      intro e he h
      obtain ⟨d0, d1⟩ := u3 s (e / 2) hs' hG (by omega)
      rcases (show e = 2 * (e / 2) ∨ e = 2 * (e / 2) + 1 by omega) with z | z
      · rw [z, d0, Bool.and_eq_true] at h
        have := of_decide_eq_true h.2
        exact ⟨h.1, by omega⟩
      · rw [z, d1, Bool.and_eq_true] at h
        have := of_decide_eq_true h.2
        exact ⟨h.1, by omega⟩
    have hYn : ∀ i, i < n → (ev s).testBit i = true → Y.1 (s + 3 ^ i) = R.1 (s + 3 ^ i) ∧ Y.2 (s + 3 ^ i) = lN (D i) ∧ wt s (2 * i + dg s i) = pr s i := by
      intro i hi hu
      obtain ⟨a1, a2, a3, a4, a5, a6⟩ := u2 s i hs' hG hi hu
      have hp := p3_pos i
      obtain ⟨b1, b2, -, -⟩ := ih _ (by omega) a2 a3
      exact ⟨b1.symm, by rw [← b2]; exact (hD i hi hu).1, a4⟩
    have nx : ∀ e, z_up Y.1 s (if s = 3 ^ n - 1 then 0 else -1000000) (s + 3 ^ (e / 2)) = Y.1 (s + 3 ^ (e / 2)) ∧ z_up Y.2 s (if s = 3 ^ n - 1 then 1 else 0) (s + 3 ^ (e / 2)) = Y.2 (s + 3 ^ (e / 2)) := by
      intro e
      have hp := p3_pos (e / 2)
      exact ⟨zup_ne _ _ (by omega), zup_ne _ _ (by omega)⟩
    have eM := deE_mx (cn := cn) (wt := wt) (s := s) (y := (z_up Y.1 s (if s = 3 ^ n - 1 then 0 else -1000000), z_up Y.2 s (if s = 3 ^ n - 1 then 1 else 0))) (c := fun e => D (e / 2)) (2 * n) (fun e he h => by
      obtain ⟨f1, f2⟩ := cnE e he h
      obtain ⟨g1, g2, g3⟩ := hYn (e / 2) (by omega) f1
      have hle := ev_le n s
      obtain ⟨v1, v2, v3⟩ := val (e / 2) (by omega) f1
      simp only [zup_eq, (nx e).1, (nx e).2]
      refine ⟨?_, g2⟩
      rw [if_neg c, g1]
      have hw : wt s e = pr s (e / 2) := by
        have := g3
        rw [← f2] at this
        exact this
      rw [hw, Int32.lt_iff_toInt_lt, v1, show (-1000000 : Int32).toInt = -1000000 from by decide]
      omega)
    rw [eM] at r1 r2
    simp only [zup_eq, (fun e => (nx e).1)] at r1 r2
    have e2 : mxO (fun e => cn s e) (fun e => wt s e + Y.1 (s + 3 ^ (e / 2))) (fun e => D (e / 2)) (2 * n) = mxO (fun i => (ev s).testBit i) (fun i => pr s i + R.1 (s + 3 ^ i)) D n := by
      refine mxO_2 (d := fun i => dg s i) n (fun i hi hu => ?_) (fun i hi => u3 s i hs' hG hi)
      obtain ⟨a1, a2, a3, a4, a5, a6⟩ := u2 s i hs' hG hi hu
      obtain ⟨g1, g2, g3⟩ := hYn i hi hu
      refine ⟨a1, ?_, ?_⟩
      · show wt s (2 * i + dg s i) + Y.1 (s + 3 ^ ((2 * i + dg s i) / 2)) = pr s i + R.1 (s + 3 ^ i)
        rw [a4, show (2 * i + dg s i) / 2 = i by omega, g1]
      · show D ((2 * i + dg s i) / 2) = D i
        rw [show (2 * i + dg s i) / 2 = i by omega]
    rw [e2] at r1 r2
    rw [k1, k2, eC, r1, r2]
    cases em : mxO (fun i => (ev s).testBit i) (fun i => pr s i + R.1 (s + 3 ^ i)) D n with
    | none =>
      exfalso
      obtain ⟨i, i1, i2⟩ := u1 s hs' hG
      have := (mxO_is (us := fun i => (ev s).testBit i) (v := fun i => pr s i + R.1 (s + 3 ^ i)) (c := D) n (fun i hi hu => (hD i hi hu).2.1)).2 em i i1
      rw [this] at i2
      exact absurd i2 (by decide)
    | some mm =>
      obtain ⟨⟨i, i1, i2, i3⟩, i4, i5⟩ := (mxO_is (us := fun i => (ev s).testBit i) (v := fun i => pr s i + R.1 (s + 3 ^ i)) (c := D) n (fun i hi hu => (hD i hi hu).2.1)).1 mm em
      obtain ⟨v1, v2, v3⟩ := val i i1 i2
      refine ⟨rfl, rfl, ?_, mm.2, rfl, i4, by omega⟩
      show _ ≤ (mm.1).toInt ∧ (mm.1).toInt ≤ _
      rw [← i3, v1]
      exact ⟨v2, v3⟩
end N20

