/-! ORDERS and COSTS within the whole object -/
section WCST
variable {h h' : Nat → zE} {te : cText} {tO dr : cTold} {pa : cPast} {ro : cRow} {fi : cFits} {od od' : cOrd} {cs cs' : cCst} {ci : cCir} {ga : cGam} {r1 r2 : cRule} {sw : Bool}
theorem W_in (j : Nat) (h1 : j ≠ 1) (h2 : (22 ≤ j ∧ j < 41) ∨ 54 ≤ j) : (wld h te tO dr pa ro fi od cs ci ga r1 r2 sw) j = ordS (cstS h 34 cs) 22 od j := by
  have hh : ∀ i, (i < 22 ∨ (41 ≤ i ∧ i < 54)) → (j = i) = False := fun i hi => eq_false (by omega)
  simp only [wld, toldS, textS, pastS, rowS, fitsS, ruleS, cirS, gamS, toldSet, textSet, pastSet, rowSet, fitsSet, ruleSet, z_up, Nat.reduceAdd, if_false, hh 1 (by decide), hh 2 (by decide), hh 3 (by decide), hh 4 (by decide), hh 5 (by decide), hh 6 (by decide), hh 7 (by decide), hh 8 (by decide), hh 9 (by decide), hh 10 (by decide), hh 11 (by decide), hh 12 (by decide), hh 13 (by decide), hh 14 (by decide), hh 15 (by decide), hh 16 (by decide), hh 17 (by decide), hh 18 (by decide), hh 19 (by decide), hh 20 (by decide), hh 21 (by decide), hh 41 (by decide), hh 42 (by decide), hh 43 (by decide), hh 44 (by decide), hh 45 (by decide), hh 46 (by decide), hh 47 (by decide), hh 48 (by decide), hh 49 (by decide), hh 50 (by decide), hh 51 (by decide), hh 52 (by decide), hh 53 (by decide)]
/-- the whole object seen as ORDERS set into the rest -/
theorem W_ord (hs : nmOK od cs) : (wld h te tO dr pa ro fi od cs ci ga r1 r2 sw) = ordSet ((wld h te tO dr pa ro fi od cs ci ga r1 r2 sw)) 22 od.1 od.2.1 od.2.2.1 od.2.2.2.1 od.2.2.2.2.1 od.2.2.2.2.2.1 od.2.2.2.2.2.2.1 od.2.2.2.2.2.2.2.1 od.2.2.2.2.2.2.2.2.1 od.2.2.2.2.2.2.2.2.2.1 od.2.2.2.2.2.2.2.2.2.2 := by
  obtain ⟨a1, a2, a3, a4, a5⟩ := hs
  funext j
  by_cases c0 : j = 22 ∨ (od.1 ≤ j ∧ j < od.1 + 8) ∨ (31 ≤ j ∧ j < 34)
  · rw [W_in j (by omega) (by omega)]
    show ordSet _ _ _ _ _ _ _ _ _ _ _ _ _ j = _
    unfold ordSet
    by_cases d0 : j = 22
    · rw [if_pos d0, if_pos d0]
    rw [if_neg d0, if_neg d0]
    by_cases d1 : od.1 ≤ j ∧ j < od.1 + 3
    · rw [if_pos d1, if_pos d1]
    rw [if_neg d1, if_neg d1]
    by_cases d2 : od.1 + 3 ≤ j ∧ j < od.1 + 6
    · rw [if_pos d2, if_pos d2]
    rw [if_neg d2, if_neg d2]
    by_cases d3 : od.1 + 6 ≤ j ∧ j < od.1 + 8
    · rw [if_pos d3, if_pos d3]
    rw [if_neg d3, if_neg d3]
    by_cases d4 : 22 + 9 ≤ j ∧ j < 22 + 11
    · rw [if_pos d4, if_pos d4]
    rw [if_neg d4, if_neg d4]
    by_cases d5 : j = 22 + 11
    · rw [if_pos d5, if_pos d5]
    · omega
  · rw [ord_out (by omega) (by omega) (by omega)]
theorem wld_congr {j : Nat} (hj : ordS (cstS h 34 cs) 22 od j = ordS (cstS h' 34 cs') 22 od' j) : (wld h te tO dr pa ro fi od cs ci ga r1 r2 sw) j = (wld h' te tO dr pa ro fi od' cs' ci ga r1 r2 sw) j := by
  simp only [wld, toldS, textS, pastS, rowS, fitsS, ruleS, cirS, gamS, toldSet, textSet, pastSet, rowSet, fitsSet, ruleSet, z_up, hj]
/-- a change of ORDERS, its rows at the same names -/
theorem W_sOrd (hs : nmOK od cs) {k len m n la : Nat} {A : Nat → Nat → Nat} {B : Nat → Nat → Int64} {C : Nat → Nat → Nat} {op : Nat → Int32} {sn : Int32} {tl : Bool} (hk : k = od.1) : ordSet ((wld h te tO dr pa ro fi od cs ci ga r1 r2 sw)) 22 k len m A B C op sn tl n la = (wld h te tO dr pa ro fi (k, len, m, A, B, C, op, sn, tl, n, la) cs ci ga r1 r2 sw) := by
  obtain ⟨a1, a2, a3, a4, a5⟩ := hs
  subst hk
  funext j
  by_cases c0 : j = 22 ∨ (od.1 ≤ j ∧ j < od.1 + 8) ∨ (31 ≤ j ∧ j < 34)
  · rw [W_in (od := (od.1, len, m, A, B, C, op, sn, tl, n, la)) j (by omega) (by omega)]
    show ordSet _ _ _ _ _ _ _ _ _ _ _ _ _ j = ordSet _ _ _ _ _ _ _ _ _ _ _ _ _ j
    unfold ordSet
    by_cases d0 : j = 22
    · rw [if_pos d0, if_pos d0]
    rw [if_neg d0, if_neg d0]
    by_cases d1 : od.1 ≤ j ∧ j < od.1 + 3
    · rw [if_pos d1, if_pos d1]
    rw [if_neg d1, if_neg d1]
    by_cases d2 : od.1 + 3 ≤ j ∧ j < od.1 + 6
    · rw [if_pos d2, if_pos d2]
    rw [if_neg d2, if_neg d2]
    by_cases d3 : od.1 + 6 ≤ j ∧ j < od.1 + 8
    · rw [if_pos d3, if_pos d3]
    rw [if_neg d3, if_neg d3]
    by_cases d4 : 22 + 9 ≤ j ∧ j < 22 + 11
    · rw [if_pos d4, if_pos d4]
    rw [if_neg d4, if_neg d4]
    by_cases d5 : j = 22 + 11
    · rw [if_pos d5, if_pos d5]
    · omega
  · rw [ord_out (by omega) (by omega) (by omega)]
    refine wld_congr ?_
    show ordSet (cstS h 34 cs) 22 od.1 od.2.1 od.2.2.1 od.2.2.2.1 od.2.2.2.2.1 od.2.2.2.2.2.1 od.2.2.2.2.2.2.1 od.2.2.2.2.2.2.2.1 od.2.2.2.2.2.2.2.2.1 od.2.2.2.2.2.2.2.2.2.1 od.2.2.2.2.2.2.2.2.2.2 j = ordSet (cstS h 34 cs) 22 od.1 len m A B C op sn tl n la j
    rw [ord_out (by omega) (by omega) (by omega), ord_out (by omega) (by omega) (by omega)]
/-- ORDERS with new rows: the old ones lie on below -/
def oldR (h w : Nat → zE) (k : Nat) : Nat → zE := fun j => if k ≤ j ∧ j < k + 8 then w j else h j
theorem W_nOrd (hs : nmOK od cs) {k len m n la : Nat} {A : Nat → Nat → Nat} {B : Nat → Nat → Int64} {C : Nat → Nat → Nat} {op : Nat → Int32} {sn : Int32} {tl : Bool} (h1 : 54 ≤ k) (h2 : od.1 + 7 < k) (h3 : cs.1 < k) : ordSet ((wld h te tO dr pa ro fi od cs ci ga r1 r2 sw)) 22 k len m A B C op sn tl n la = (wld (oldR h (wld h te tO dr pa ro fi od cs ci ga r1 r2 sw) od.1) te tO dr pa ro fi (k, len, m, A, B, C, op, sn, tl, n, la) cs ci ga r1 r2 sw) := by
  obtain ⟨a1, a2, a3, a4, a5⟩ := hs
  funext j
  by_cases c0 : j = 22 ∨ (k ≤ j ∧ j < k + 8) ∨ (31 ≤ j ∧ j < 34)
  · rw [W_in (od := (k, len, m, A, B, C, op, sn, tl, n, la)) j (by omega) (by omega)]
    show ordSet _ _ _ _ _ _ _ _ _ _ _ _ _ j = ordSet _ _ _ _ _ _ _ _ _ _ _ _ _ j
    unfold ordSet
    by_cases d0 : j = 22
    · rw [if_pos d0, if_pos d0]
    rw [if_neg d0, if_neg d0]
    by_cases d1 : k ≤ j ∧ j < k + 3
    · rw [if_pos d1, if_pos d1]
    rw [if_neg d1, if_neg d1]
    by_cases d2 : k + 3 ≤ j ∧ j < k + 6
    · rw [if_pos d2, if_pos d2]
    rw [if_neg d2, if_neg d2]
    by_cases d3 : k + 6 ≤ j ∧ j < k + 8
    · rw [if_pos d3, if_pos d3]
    rw [if_neg d3, if_neg d3]
    by_cases d4 : 22 + 9 ≤ j ∧ j < 22 + 11
    · rw [if_pos d4, if_pos d4]
    rw [if_neg d4, if_neg d4]
    by_cases d5 : j = 22 + 11
    · rw [if_pos d5, if_pos d5]
    · omega
  · rw [ord_out (by omega) (by omega) (by omega)]
    by_cases c1 : od.1 ≤ j ∧ j < od.1 + 8
    · rw [W_in (h := oldR h (wld h te tO dr pa ro fi od cs ci ga r1 r2 sw) od.1) (od := (k, len, m, A, B, C, op, sn, tl, n, la)) j (by omega) (by omega)]
      show (wld h te tO dr pa ro fi od cs ci ga r1 r2 sw) j = ordSet (cstS (oldR h (wld h te tO dr pa ro fi od cs ci ga r1 r2 sw) od.1) 34 cs) 22 k len m A B C op sn tl n la j
      rw [ord_out (by omega) (by omega) (by omega)]
      unfold cstS oldR
      rw [if_neg (by omega), if_neg (by omega), if_neg (by omega), if_neg (by omega), if_neg (by omega), if_neg (by omega), if_neg (by omega), if_pos c1]
    · refine wld_congr ?_
      show ordSet (cstS h 34 cs) 22 od.1 od.2.1 od.2.2.1 od.2.2.2.1 od.2.2.2.2.1 od.2.2.2.2.2.1 od.2.2.2.2.2.2.1 od.2.2.2.2.2.2.2.1 od.2.2.2.2.2.2.2.2.1 od.2.2.2.2.2.2.2.2.2.1 od.2.2.2.2.2.2.2.2.2.2 j = ordSet (cstS (oldR h (wld h te tO dr pa ro fi od cs ci ga r1 r2 sw) od.1) 34 cs) 22 k len m A B C op sn tl n la j
      rw [ord_out (by omega) (by omega) (by omega), ord_out (by omega) (by omega) (by omega)]
      unfold cstS oldR
      rw [if_neg c1]
end WCST

