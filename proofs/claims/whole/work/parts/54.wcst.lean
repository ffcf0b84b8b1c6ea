/-! ORDERS and COSTS within the whole object -/
section WCST
variable {h : Nat → zE} {s : WS}
theorem W_in (j : Nat) (h1 : j ≠ 1) (h2 : (22 ≤ j ∧ j < 41) ∨ 54 ≤ j) : wld h s j = ordS (cstS h 34 s.cs) 22 s.od j := by
  have hh : ∀ i, (i < 22 ∨ (41 ≤ i ∧ i < 54)) → (j = i) = False := fun i hi => eq_false (by omega)
  simp only [wld, toldS, textS, pastS, rowS, fitsS, ruleS, cirS, gamS, toldSet, textSet, pastSet, rowSet, fitsSet, ruleSet, z_up, Nat.reduceAdd, if_false, hh 1 (by decide), hh 2 (by decide), hh 3 (by decide), hh 4 (by decide), hh 5 (by decide), hh 6 (by decide), hh 7 (by decide), hh 8 (by decide), hh 9 (by decide), hh 10 (by decide), hh 11 (by decide), hh 12 (by decide), hh 13 (by decide), hh 14 (by decide), hh 15 (by decide), hh 16 (by decide), hh 17 (by decide), hh 18 (by decide), hh 19 (by decide), hh 20 (by decide), hh 21 (by decide), hh 41 (by decide), hh 42 (by decide), hh 43 (by decide), hh 44 (by decide), hh 45 (by decide), hh 46 (by decide), hh 47 (by decide), hh 48 (by decide), hh 49 (by decide), hh 50 (by decide), hh 51 (by decide), hh 52 (by decide), hh 53 (by decide)]
/-- the whole object seen as ORDERS set into the rest -/
theorem W_ord (hs : namesOK s) : wld h s = ordSet (wld h s) 22 s.od.k s.od.len s.od.m s.od.A s.od.B s.od.C s.od.op s.od.sn s.od.tl s.od.n s.od.la := by
  obtain ⟨a1, a2, a3, a4, a5⟩ := hs
  funext j
  by_cases c0 : j = 22 ∨ (s.od.k ≤ j ∧ j < s.od.k + 8) ∨ (31 ≤ j ∧ j < 34)
  · rw [W_in j (by omega) (by omega)]
    show ordSet _ _ _ _ _ _ _ _ _ _ _ _ _ j = _
    unfold ordSet
    by_cases d0 : j = 22
    · rw [if_pos d0, if_pos d0]
    rw [if_neg d0, if_neg d0]
    by_cases d1 : s.od.k ≤ j ∧ j < s.od.k + 3
    · rw [if_pos d1, if_pos d1]
    rw [if_neg d1, if_neg d1]
    by_cases d2 : s.od.k + 3 ≤ j ∧ j < s.od.k + 6
    · rw [if_pos d2, if_pos d2]
    rw [if_neg d2, if_neg d2]
    by_cases d3 : s.od.k + 6 ≤ j ∧ j < s.od.k + 8
    · rw [if_pos d3, if_pos d3]
    rw [if_neg d3, if_neg d3]
    by_cases d4 : 22 + 9 ≤ j ∧ j < 22 + 11
    · rw [if_pos d4, if_pos d4]
    rw [if_neg d4, if_neg d4]
    by_cases d5 : j = 22 + 11
    · rw [if_pos d5, if_pos d5]
    · omega
  · rw [ord_out (by omega) (by omega) (by omega)]
theorem wld_congr {s' : WS} (e1 : s'.te = s.te) (e2 : s'.tO = s.tO) (e3 : s'.dr = s.dr) (e4 : s'.pa = s.pa) (e5 : s'.ro = s.ro) (e6 : s'.fi = s.fi) (e7 : s'.ci = s.ci) (e8 : s'.ga = s.ga) (e9 : s'.r1 = s.r1) (e10 : s'.r2 = s.r2) (e11 : s'.sw = s.sw) {h' : Nat → zE} {j : Nat} (hj : ordS (cstS h 34 s.cs) 22 s.od j = ordS (cstS h' 34 s'.cs) 22 s'.od j) : wld h s j = wld h' s' j := by
  simp only [wld, toldS, textS, pastS, rowS, fitsS, ruleS, cirS, gamS, toldSet, textSet, pastSet, rowSet, fitsSet, ruleSet, z_up, e1, e2, e3, e4, e5, e6, e7, e8, e9, e10, e11, hj]
/-- a change of ORDERS, its rows at the same names -/
theorem W_sOrd (hs : namesOK s) {k len m n la : Nat} {A : Nat → Nat → Nat} {B : Nat → Nat → Int64} {C : Nat → Nat → Nat} {op : Nat → Int32} {sn : Int32} {tl : Bool} (hk : k = s.od.k) : ordSet (wld h s) 22 k len m A B C op sn tl n la = wld h { s with od := ⟨k, len, m, A, B, C, op, sn, tl, n, la⟩ } := by
  obtain ⟨a1, a2, a3, a4, a5⟩ := hs
  subst hk
  funext j
  by_cases c0 : j = 22 ∨ (s.od.k ≤ j ∧ j < s.od.k + 8) ∨ (31 ≤ j ∧ j < 34)
  · rw [W_in (s := { s with od := ⟨s.od.k, len, m, A, B, C, op, sn, tl, n, la⟩ }) j (by omega) (by omega)]
    show ordSet _ _ _ _ _ _ _ _ _ _ _ _ _ j = ordSet _ _ _ _ _ _ _ _ _ _ _ _ _ j
    unfold ordSet
    by_cases d0 : j = 22
    · rw [if_pos d0, if_pos d0]
    rw [if_neg d0, if_neg d0]
    by_cases d1 : s.od.k ≤ j ∧ j < s.od.k + 3
    · rw [if_pos d1, if_pos d1]
    rw [if_neg d1, if_neg d1]
    by_cases d2 : s.od.k + 3 ≤ j ∧ j < s.od.k + 6
    · rw [if_pos d2, if_pos d2]
    rw [if_neg d2, if_neg d2]
    by_cases d3 : s.od.k + 6 ≤ j ∧ j < s.od.k + 8
    · rw [if_pos d3, if_pos d3]
    rw [if_neg d3, if_neg d3]
    by_cases d4 : 22 + 9 ≤ j ∧ j < 22 + 11
    · rw [if_pos d4, if_pos d4]
    rw [if_neg d4, if_neg d4]
    by_cases d5 : j = 22 + 11
    · rw [if_pos d5, if_pos d5]
    · omega
  · rw [ord_out (by omega) (by omega) (by omega)]
    refine wld_congr (s := s) (s' := { s with od := ⟨s.od.k, len, m, A, B, C, op, sn, tl, n, la⟩ }) rfl rfl rfl rfl rfl rfl rfl rfl rfl rfl rfl ?_
    show ordSet (cstS h 34 s.cs) 22 s.od.k s.od.len s.od.m s.od.A s.od.B s.od.C s.od.op s.od.sn s.od.tl s.od.n s.od.la j = ordSet (cstS h 34 s.cs) 22 s.od.k len m A B C op sn tl n la j
    rw [ord_out (by omega) (by omega) (by omega), ord_out (by omega) (by omega) (by omega)]
/-- ORDERS with new rows: the old ones lie on below -/
def oldR (h : Nat → zE) (s : WS) : Nat → zE := fun j => if s.od.k ≤ j ∧ j < s.od.k + 8 then wld h s j else h j
theorem W_nOrd (hs : namesOK s) {k len m n la : Nat} {A : Nat → Nat → Nat} {B : Nat → Nat → Int64} {C : Nat → Nat → Nat} {op : Nat → Int32} {sn : Int32} {tl : Bool} (h1 : 54 ≤ k) (h2 : s.od.k + 7 < k) (h3 : s.cs.K < k) : ordSet (wld h s) 22 k len m A B C op sn tl n la = wld (oldR h s) { s with od := ⟨k, len, m, A, B, C, op, sn, tl, n, la⟩ } := by
  obtain ⟨a1, a2, a3, a4, a5⟩ := hs
  funext j
  by_cases c0 : j = 22 ∨ (k ≤ j ∧ j < k + 8) ∨ (31 ≤ j ∧ j < 34)
  · rw [W_in (s := { s with od := ⟨k, len, m, A, B, C, op, sn, tl, n, la⟩ }) j (by omega) (by omega)]
    show ordSet _ _ _ _ _ _ _ _ _ _ _ _ _ j = ordSet _ _ _ _ _ _ _ _ _ _ _ _ _ j
    unfold ordSet
    by_cases d0 : j = 22
    · rw [if_pos d0, if_pos d0]
    rw [if_neg d0, if_neg d0]
    by_cases d1 : k ≤ j ∧ j < k + 3
    · rw [if_pos d1, if_pos d1]
    rw [if_neg d1, if_neg d1]
    by_cases d2 : k + 3 ≤ j ∧ j < k + 6
    · rw [if_pos d2, if_pos d2]
    rw [if_neg d2, if_neg d2]
    by_cases d3 : k + 6 ≤ j ∧ j < k + 8
    · rw [if_pos d3, if_pos d3]
    rw [if_neg d3, if_neg d3]
    by_cases d4 : 22 + 9 ≤ j ∧ j < 22 + 11
    · rw [if_pos d4, if_pos d4]
    rw [if_neg d4, if_neg d4]
    by_cases d5 : j = 22 + 11
    · rw [if_pos d5, if_pos d5]
    · omega
  · rw [ord_out (by omega) (by omega) (by omega)]
    by_cases c1 : s.od.k ≤ j ∧ j < s.od.k + 8
    · rw [W_in (h := oldR h s) (s := { s with od := ⟨k, len, m, A, B, C, op, sn, tl, n, la⟩ }) j (by omega) (by omega)]
      show wld h s j = ordSet (cstS (oldR h s) 34 s.cs) 22 k len m A B C op sn tl n la j
      rw [ord_out (by omega) (by omega) (by omega)]
      unfold cstS oldR
      rw [if_neg (by omega), if_neg (by omega), if_neg (by omega), if_neg (by omega), if_neg (by omega), if_neg (by omega), if_neg (by omega), if_pos c1]
    · refine wld_congr (s := s) (h := h) (h' := oldR h s) (s' := { s with od := ⟨k, len, m, A, B, C, op, sn, tl, n, la⟩ }) rfl rfl rfl rfl rfl rfl rfl rfl rfl rfl rfl ?_
      show ordSet (cstS h 34 s.cs) 22 s.od.k s.od.len s.od.m s.od.A s.od.B s.od.C s.od.op s.od.sn s.od.tl s.od.n s.od.la j = ordSet (cstS (oldR h s) 34 s.cs) 22 k len m A B C op sn tl n la j
      rw [ord_out (by omega) (by omega) (by omega), ord_out (by omega) (by omega) (by omega)]
      unfold cstS oldR
      rw [if_neg c1]
end WCST

