/-! counts of orders of which every state is of a kind -/
def tabR (n : Nat) (q : Nat → Nat → Bool) (ok : Nat → Bool) : Nat → Nat := dtr (fun s w => z_up w s (if ok s = true then (if s = 3 ^ n - 1 then 1 else sumN (fun i => if q s i = true then w (s + 3 ^ i) else 0) n) else 0)) (3 ^ n) (fun _ => 0)
theorem tabR_at (n : Nat) (q : Nat → Nat → Bool) (ok : Nat → Bool) : ∀ s, s < 3 ^ n → tabR n q ok s = if ok s = true then (if s = 3 ^ n - 1 then 1 else sumN (fun i => if q s i = true then tabR n q ok (s + 3 ^ i) else 0) n) else 0 := by
  have key := dtr_tab (f := fun s w => z_up w s (if ok s = true then (if s = 3 ^ n - 1 then 1 else sumN (fun i => if q s i = true then w (s + 3 ^ i) else 0) n) else 0)) (fun t x j h => zup_ne _ _ h) (fun t x y h => by
    show z_up x t _ t = z_up y t _ t
    rw [zup_eq, zup_eq]
    have e : sumN (fun i => if q t i = true then x (t + 3 ^ i) else 0) n = sumN (fun i => if q t i = true then y (t + 3 ^ i) else 0) n := by
      refine sumN_cg n (fun i hi => ?_)
      have := p3_pos i
      rw [h (t + 3 ^ i) (by omega)]
    rw [e]) (3 ^ n) (fun _ => 0)
  intro s hs
  have k := key s hs
  show dtr _ (3 ^ n) (fun _ => 0) s = _
  rw [k]
  exact zup_eq _ _ _
theorem tabR_le {n : Nat} {q : Nat → Nat → Bool} {ok : Nat → Bool} {T : Nat → Nat} (hq : pOK n q) (hT : cntT n q T) : ∀ s, s < 3 ^ n → tabR n q ok s ≤ T s := by
  refine dw_ind (fun s hs ih => ?_)
  rw [tabR_at n q ok s hs]
  by_cases c : ok s = true
  · rw [if_pos c]
    by_cases c1 : s = 3 ^ n - 1
    · rw [if_pos c1, c1, hT.1]; exact Nat.le_refl _
    · rw [if_neg c1, hT.2 s (by omega)]
      refine sumN_le n (fun i hi => ?_)
      by_cases c2 : q s i = true
      · rw [if_pos c2, if_pos c2]
        have := p3_pos i
        exact ih _ (by omega) (dg_add hi hs (hq s i hs hi c2))
      · rw [if_neg c2]; exact Nat.zero_le _
  · rw [if_neg c]; exact Nat.zero_le _
theorem tabR_cg {n : Nat} {q q' : Nat → Nat → Bool} {ok ok' : Nat → Bool} (hq : pOK n q) (h1 : ∀ s i, s < 3 ^ n → i < n → q s i = q' s i) (h2 : ∀ s, s < 3 ^ n → ok s = ok' s) : ∀ s, s < 3 ^ n → tabR n q ok s = tabR n q' ok' s := by
  refine dw_ind (fun s hs ih => ?_)
  rw [tabR_at n q ok s hs, tabR_at n q' ok' s hs, h2 s hs]
  have e : sumN (fun i => if q s i = true then tabR n q ok (s + 3 ^ i) else 0) n = sumN (fun i => if q' s i = true then tabR n q' ok' (s + 3 ^ i) else 0) n := by
    refine sumN_cg n (fun i hi => ?_)
    rw [← h1 s i hs hi]
    by_cases c2 : q s i = true
    · rw [if_pos c2, if_pos c2]
      have := p3_pos i
      exact ih _ (by omega) (dg_add hi hs (hq s i hs hi c2))
    · rw [if_neg c2, if_neg c2]
  rw [e]
section N15
variable {n : Nat} {iN gN nN mN rN : Nat → Nat}
theorem wyR_rec {la ca : Nat} {bu : Int32} {ld : Nat → Nat → Bool} (wy : Nat → Int64) : ∀ s, s < 3 ^ n → dtr (lwS ld iN n la ca bu) (3 ^ n) wy s = if pop (iN s) ≤ ca ∧ ¬ nI (iN s) = bu then (if s = la then 1 else 0) + sumL (fun e => if ld s e = true then dtr (lwS ld iN n la ca bu) (3 ^ n) wy (s + 3 ^ (e / 2)) else 0) (2 * n) else 0 := by
  have hS : ∀ s w, lwS ld iN n la ca bu s w = z_up w s (if pop (iN s) ≤ ca ∧ ¬ nI (iN s) = bu then (if s = la then 1 else 0) + sumL (fun e => if ld s e = true then w (s + 3 ^ (e / 2)) else 0) (2 * n) else 0) := by
    intro s w
    unfold lwS
    rw [lwE_at, zup_eq]
    have e : sumL (fun e => if ld s e = true then z_up w s (if s = la then 1 else 0) (s + 3 ^ (e / 2)) else 0) (2 * n) = sumL (fun e => if ld s e = true then w (s + 3 ^ (e / 2)) else 0) (2 * n) := by
      congr 1
      funext e
      have := p3_pos (e / 2)
      rw [zup_ne _ _ (show s + 3 ^ (e / 2) ≠ s by omega)]
    rw [e, zup_eq]
    funext j
    by_cases c : j = s
    · rw [c, zup_eq, zup_eq]
    · rw [zup_ne _ _ c, zup_ne _ _ c, zup_ne _ _ c, zup_ne _ _ c]
  have hloc : ∀ t x j, j ≠ t → lwS ld iN n la ca bu t x j = x j := fun t x j h => by rw [hS]; exact zup_ne _ _ h
  have hdep : ∀ t x y, (∀ j, t < j → x j = y j) → lwS ld iN n la ca bu t x t = lwS ld iN n la ca bu t y t := by
    intro t x y h
    rw [hS, hS, zup_eq, zup_eq]
    have e : (fun e => if ld t e = true then x (t + 3 ^ (e / 2)) else 0) = (fun e => if ld t e = true then y (t + 3 ^ (e / 2)) else 0) := by
      funext e
      have := p3_pos (e / 2)
      rw [h (t + 3 ^ (e / 2)) (by omega)]
    rw [e]
  intro s hs
  have key := dtr_tab hloc hdep (3 ^ n) wy s hs
  rw [hS, zup_eq] at key
  exact key
theorem wyR_T (hD : digOK (iN, gN) (3 ^ n)) (hn : n ≤ 7) {ca : Nat} {bu : Int32} (wy : Nat → Int64) : ∀ s, s < 3 ^ n → dtr (lwS (ldB iN gN nN mN rN) iN n (3 ^ n - 1) ca bu) (3 ^ n) wy s = lN (tabR n (qOf (ldB iN gN nN mN rN)) (fun s => decide (pop (iN s) ≤ ca ∧ ¬ nI (iN s) = bu)) s) := by
  have hrec := wyR_rec (n := n) (iN := iN) (la := 3 ^ n - 1) (ca := ca) (bu := bu) (ld := ldB iN gN nN mN rN) wy
  have hT := tabR_at n (qOf (ldB iN gN nN mN rN)) (fun s => decide (pop (iN s) ≤ ca ∧ ¬ nI (iN s) = bu))
  generalize dtr (lwS (ldB iN gN nN mN rN) iN n (3 ^ n - 1) ca bu) (3 ^ n) wy = R at *
  generalize tabR n (qOf (ldB iN gN nN mN rN)) (fun s => decide (pop (iN s) ≤ ca ∧ ¬ nI (iN s) = bu)) = T at *
  have h3 := p3_pos n
  refine dw_ind (fun s hs ih => ?_)
  rw [hrec s hs, hT s hs]
  by_cases cok : pop (iN s) ≤ ca ∧ ¬ nI (iN s) = bu
  · rw [if_pos cok, if_pos (decide_eq_true cok)]
    have e1 : sumL (fun e => if ldB iN gN nN mN rN s e = true then R (s + 3 ^ (e / 2)) else 0) (2 * n) = lN (sumN (fun e => if ldB iN gN nN mN rN s e = true then T (s + 3 ^ (e / 2)) else 0) (2 * n)) := by
      refine sumL_N (2 * n) (fun e he => ?_)
      by_cases c : ldB iN gN nN mN rN s e = true
      · rw [if_pos c, if_pos c]
        have hp := p3_pos (e / 2)
        refine ih _ (by omega) ?_
        have hq : qOf (ldB iN gN nN mN rN) s (e / 2) = true := by
          unfold qOf
          rcases (show e = 2 * (e / 2) ∨ e = 2 * (e / 2) + 1 by omega) with z | z
          · rw [← z, c]; rfl
          · rw [← z, c, Bool.or_true]
        exact dg_add (by omega) hs (q_ok hD hn s (e / 2) hs (by omega) hq)
      · rw [if_neg c, if_neg c]; rfl
    rw [e1, sumN_2]
    have e2 : sumN (fun i => (if ldB iN gN nN mN rN s (2 * i) = true then T (s + 3 ^ (2 * i / 2)) else 0) + (if ldB iN gN nN mN rN s (2 * i + 1) = true then T (s + 3 ^ ((2 * i + 1) / 2)) else 0)) n = sumN (fun i => if qOf (ldB iN gN nN mN rN) s i = true then T (s + 3 ^ i) else 0) n := by
      refine sumN_cg n (fun i hi => ?_)
      rw [show 2 * i / 2 = i by omega, show (2 * i + 1) / 2 = i by omega]
      unfold qOf
      rw [ld_c hD hn hs hi, ld_g hD hn hs hi]
      by_cases c0 : dg s i = 0
      · simp [c0]
      · simp [c0]
    rw [e2]
    by_cases c : s = 3 ^ n - 1
    · rw [if_pos c, if_pos c, c]
      have : sumN (fun i => if qOf (ldB iN gN nN mN rN) (3 ^ n - 1) i = true then T (3 ^ n - 1 + 3 ^ i) else 0) n = 0 := by
        refine sumN_0 n (fun i hi => ?_)
        have hd := dg_last hi
        rw [if_neg]
        intro z
        have := q_ok hD hn (3 ^ n - 1) i (by omega) hi z
        omega
      rw [this]
      rfl
    · rw [if_neg c, if_neg c]
      exact Int64.zero_add _
  · rw [if_neg cok, if_neg (fun z => cok (of_decide_eq_true z))]
    rfl
end N15
section N15b
variable {n : Nat} {A : Nat → Nat → Nat} {p q : Nat → Nat → Bool} {TC TM : Nat → Nat} {gd : Nat → Prop} {bh : Nat → Int64}
theorem snx_L (w : Nat → Int64) (us s : Nat) : ∀ k, snx w us s k = sumL (fun i => if us.testBit i = true then w (s + 3 ^ i) else 0) k := by
  intro k
  induction k with
  | zero => rfl
  | succ k ih =>
    show (if us.testBit k = true then snx w us s k + w (s + 3 ^ k) else snx w us s k) = _
    rw [sumL_s, ih]
    by_cases c : us.testBit k = true
    · rw [if_pos c, if_pos c]
    · rw [if_neg c, if_neg c, Int64.add_zero]
theorem wwG_d (A : Nat → Nat → Nat) (bh : Nat → Int64) (n la en : Nat) (nv : Int32) : ∀ k w, wwG A bh n la en nv k w = dtr (fun s w => z_up w s (wwV A bh w n la en nv s)) k w := by
  intro k
  induction k with
  | zero => intro w; rfl
  | succ k ih => intro w; rw [wwG_s, dtr_s, ih]
/-- the class's count of the kind -/
theorem ww_T (H : twoH n A p q TC TM gd) (hB : ∀ s, s < 3 ^ n → bh s = lN (TC s)) {en : Nat} {nv : Int32} (w : Nat → Int64) : ∀ s, s < 3 ^ n → gd s → wwG A bh n (3 ^ n - 1) en nv (3 ^ n) w s = lN (tabR n q (fun s => decide (pop (A 0 s) ≤ en ∧ ¬ nI (A 0 s) = nv)) s) := by
  have H' := H
  obtain ⟨h1, h2, h3, h4, h5, h6, h7, h8, h9, h10, h11, h12, h13⟩ := H'
  have h30 := p3_pos n
  have hrec : ∀ s, s < 3 ^ n → wwG A bh n (3 ^ n - 1) en nv (3 ^ n) w s = wwV A bh (wwG A bh n (3 ^ n - 1) en nv (3 ^ n) w) n (3 ^ n - 1) en nv s := by
    rw [wwG_d]
    have key := dtr_tab (f := fun s w => z_up w s (wwV A bh w n (3 ^ n - 1) en nv s)) (fun t x j h => zup_ne _ _ h) (fun t x y h => by
      show z_up x t _ t = z_up y t _ t
      rw [zup_eq, zup_eq]
      unfold wwV
      rw [snx_L, snx_L]
      have e : (fun i => if (A 2 t).testBit i = true then x (t + 3 ^ i) else 0) = (fun i => if (A 2 t).testBit i = true then y (t + 3 ^ i) else 0) := by
        funext i
        have := p3_pos i
        rw [h (t + 3 ^ i) (by omega)]
      rw [e]) (3 ^ n) w
    intro s hs
    have := key s hs
    rw [this]
    exact zup_eq _ _ _
  have hR := tabR_at n q (fun s => decide (pop (A 0 s) ≤ en ∧ ¬ nI (A 0 s) = nv))
  have hRl := tabR_le (ok := fun s => decide (pop (A 0 s) ≤ en ∧ ¬ nI (A 0 s) = nv)) h4 h6
  generalize wwG A bh n (3 ^ n - 1) en nv (3 ^ n) w = R at *
  generalize tabR n q (fun s => decide (pop (A 0 s) ≤ en ∧ ¬ nI (A 0 s) = nv)) = T at *
  refine dw_ind (fun s hs ih hg => ?_)
  rw [hrec s hs]
  unfold wwV
  have hle := cnt_le h1 h3 h5 hs
  have hpos : (0 < bh s) = (0 < TC s) := by rw [hB s hs]; exact lN_pos' hle
  by_cases c0 : TC s = 0
  · rw [if_neg (fun z => by have := hpos.mp z; omega)]
    have := hRl s hs
    rw [← h11 s hs hg] at this
    rw [show T s = 0 by omega]
    rfl
  · rw [if_pos (hpos.mpr (by omega)), hR s hs]
    by_cases c1 : nI (A 0 s) = nv
    · rw [if_pos c1, if_neg (fun z => (of_decide_eq_true z).2 c1)]; rfl
    · rw [if_neg c1]
      by_cases c2 : pop (A 0 s) ≤ en
      · rw [if_pos c2, if_pos (decide_eq_true ⟨c2, c1⟩)]
        by_cases c3 : s = 3 ^ n - 1
        · rw [if_pos c3, if_pos c3]; rfl
        · rw [if_neg c3, if_neg c3, snx_L]
          refine sumL_N n (fun i hi => ?_)
          have hnx := two_nx H (show s < 3 ^ n - 1 by omega) hi hg
          have hp := p3_pos i
          by_cases c4 : (A 2 s).testBit i = true
          · obtain ⟨j1, j2, j3, j4, j5⟩ := two_in H hs c4
            rw [hnx, Bool.and_eq_true] at c4
            rw [if_pos (by rw [hnx, c4.1, c4.2]; rfl), if_pos c4.1]
            exact ih _ (by omega) j5 (h10 s i hs hi hg j3).2
          · rw [if_neg c4]
            by_cases c5 : q s i = true
            · rw [if_pos c5]
              have hl := dg_add hi hs (h4 s i hs hi c5)
              have ht : TM (s + 3 ^ i) = 0 := by
                apply Classical.byContradiction
                intro z
                apply c4
                rw [hnx, c5, decide_eq_true z]; rfl
              have := hRl _ hl
              rw [show T (s + 3 ^ i) = 0 by omega]
              rfl
            · rw [if_neg c5]; rfl
      · rw [if_neg c2, if_neg (fun z => c2 (of_decide_eq_true z).1)]; rfl
end N15b

