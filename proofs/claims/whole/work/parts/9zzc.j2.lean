/-! the two objects' cells don't touch -/
section J2
variable {h h' : Nat → zE} {te : cText} {tO dr : cTold} {pa : cPast} {ro : cRow} {fi : cFits} {od : cOrd} {cs : cCst} {ci : cCir} {ga : cGam} {r1 r2 : cRule} {sw : Bool} {th : Int32} {to : Int32} {row : Nat → Int64} {gu : Int32} {ch : Int32} {now : Nat → Int32} {tape : Nat → Int32} {tp : Int32} {pt : Int32} {tt : Int32} {ne : Int32} {rd : Nat → Int32} {rM : Int32} {code : Nat → Int32} {rc : Nat → Int32} {cL : Int32} {cR : Int32} {stk : Nat → Int32} {ask : Nat → Int32} {un : Int32} {und : Nat → Int32} {aS : Nat → Int32} {aO : Nat → Int32} {aW : Nat → Int32} {aH : Nat → Int32} {ac : Int32} {thr : Nat → Int32} {ins : Nat → Int32} {gon : Nat → Int32} {nO : Nat → Int32} {mO : Nat → Int32} {rO : Nat → Int32} {wy : Nat → Int64} {ah : Nat → Int64} {late : Nat → Int32} {soon : Nat → Int32} {yet : Nat → Int32} {cir : Nat → Int32} {bed : Nat → Int32} {stp : Nat → Int32} {oO : Nat → Int32} {oW : Nat → Int32} {win : Nat → Int32} {wc : Nat → Int32} {rn : Int32} {wer : Nat → Int32} {iK : Nat → Int32} {kC : Nat → Int32} {kep : Nat → Int32}
theorem W_hi {j : Nat} (h0 : 54 ≤ j) (h1 : j ≠ cs.1) (h2 : j < od.1 ∨ od.1 + 7 < j) : (wld h te tO dr pa ro fi od cs ci ga r1 r2 sw) j = h j := by
  simp only [wld, textS, textSet, toldS, toldSet, pastS, pastSet, rowS, rowSet, fitsS, fitsSet, ruleS, ruleSet, cirS, gamS, z_up, ordS, ordSet, cstS, Nat.reduceAdd, eq_false (show ¬ j = 1 by omega), eq_false (show ¬ j = 2 by omega), eq_false (show ¬ j = 3 by omega), eq_false (show ¬ j = 4 by omega), eq_false (show ¬ j = 5 by omega), eq_false (show ¬ j = 6 by omega), eq_false (show ¬ j = 7 by omega), eq_false (show ¬ j = 8 by omega), eq_false (show ¬ j = 9 by omega), eq_false (show ¬ j = 10 by omega), eq_false (show ¬ j = 11 by omega), eq_false (show ¬ j = 12 by omega), eq_false (show ¬ j = 13 by omega), eq_false (show ¬ j = 14 by omega), eq_false (show ¬ j = 15 by omega), eq_false (show ¬ j = 16 by omega), eq_false (show ¬ j = 17 by omega), eq_false (show ¬ j = 18 by omega), eq_false (show ¬ j = 19 by omega), eq_false (show ¬ j = 20 by omega), eq_false (show ¬ j = 21 by omega), eq_false (show ¬ j = 22 by omega), eq_false (show ¬ j = 23 by omega), eq_false (show ¬ j = 24 by omega), eq_false (show ¬ j = 25 by omega), eq_false (show ¬ j = 26 by omega), eq_false (show ¬ j = 27 by omega), eq_false (show ¬ j = 28 by omega), eq_false (show ¬ j = 29 by omega), eq_false (show ¬ j = 30 by omega), eq_false (show ¬ j = 31 by omega), eq_false (show ¬ j = 32 by omega), eq_false (show ¬ j = 33 by omega), eq_false (show ¬ j = 34 by omega), eq_false (show ¬ j = 35 by omega), eq_false (show ¬ j = 36 by omega), eq_false (show ¬ j = 37 by omega), eq_false (show ¬ j = 38 by omega), eq_false (show ¬ j = 39 by omega), eq_false (show ¬ j = 40 by omega), eq_false (show ¬ j = 41 by omega), eq_false (show ¬ j = 42 by omega), eq_false (show ¬ j = 43 by omega), eq_false (show ¬ j = 44 by omega), eq_false (show ¬ j = 45 by omega), eq_false (show ¬ j = 46 by omega), eq_false (show ¬ j = 47 by omega), eq_false (show ¬ j = 48 by omega), eq_false (show ¬ j = 49 by omega), eq_false (show ¬ j = 50 by omega), eq_false (show ¬ j = 51 by omega), eq_false (show ¬ j = 52 by omega), eq_false (show ¬ j = 53 by omega), eq_false (show ¬ j = od.1 by omega), eq_false (show ¬ j = od.1 + 1 by omega), eq_false (show ¬ j = od.1 + 2 by omega), eq_false (show ¬ j = od.1 + 3 by omega), eq_false (show ¬ j = od.1 + 4 by omega), eq_false (show ¬ j = od.1 + 5 by omega), eq_false (show ¬ j = od.1 + 6 by omega), eq_false (show ¬ j = od.1 + 7 by omega), eq_false h1, eq_false (show ¬ (od.1 ≤ j ∧ j < od.1 + 3) by omega), eq_false (show ¬ (od.1 + 3 ≤ j ∧ j < od.1 + 6) by omega), eq_false (show ¬ (od.1 + 6 ≤ j ∧ j < od.1 + 8) by omega), eq_false (show ¬ (31 ≤ j ∧ j < 33) by omega), if_false, false_or]
theorem W_pt {j : Nat} (e : h j = h' j) : (wld h te tO dr pa ro fi od cs ci ga r1 r2 sw) j = (wld h' te tO dr pa ro fi od cs ci ga r1 r2 sw) j := by
  refine wld_congr ?_
  unfold ordS ordSet cstS
  simp only [e]
/-- names of ORDERS' and COSTS' rows that the model does not use -/
def nm9 (od : cOrd) (cs : cCst) : Prop := nmOK od cs ∧ (od.1 = 23 ∨ 91 ≤ od.1) ∧ (cs.1 = 35 ∨ 91 ≤ cs.1)
theorem M_lo {j : Nat} (hj : ¬ (54 ≤ j ∧ j ≤ 89)) : (mdl h th to row gu ch now tape tp pt tt ne rd rM code rc cL cR stk ask un und aS aO aW aH ac thr ins gon nO mO rO wy ah late soon yet cir bed stp oO oW win wc rn wer iK kC kep) j = h j := by
  simp only [mdl, eq_false (show ¬ j = 54 by omega), eq_false (show ¬ j = 55 by omega), eq_false (show ¬ j = 56 by omega), eq_false (show ¬ j = 57 by omega), eq_false (show ¬ j = 58 by omega), eq_false (show ¬ j = 59 by omega), eq_false (show ¬ j = 60 by omega), eq_false (show ¬ j = 61 by omega), eq_false (show ¬ j = 62 by omega), eq_false (show ¬ j = 63 by omega), eq_false (show ¬ j = 64 by omega), eq_false (show ¬ j = 65 by omega), eq_false (show ¬ j = 66 by omega), eq_false (show ¬ j = 67 by omega), eq_false (show ¬ j = 68 by omega), eq_false (show ¬ j = 69 by omega), eq_false (show ¬ j = 70 by omega), eq_false (show ¬ j = 71 by omega), eq_false (show ¬ j = 72 by omega), eq_false (show ¬ j = 73 by omega), eq_false (show ¬ j = 74 by omega), eq_false (show ¬ j = 75 by omega), eq_false (show ¬ j = 76 by omega), eq_false (show ¬ j = 77 by omega), eq_false (show ¬ j = 78 by omega), eq_false (show ¬ j = 79 by omega), eq_false (show ¬ j = 80 by omega), eq_false (show ¬ j = 81 by omega), eq_false (show ¬ j = 82 by omega), eq_false (show ¬ j = 83 by omega), eq_false (show ¬ j = 84 by omega), eq_false (show ¬ j = 85 by omega), eq_false (show ¬ j = 86 by omega), eq_false (show ¬ j = 87 by omega), eq_false (show ¬ j = 88 by omega), eq_false (show ¬ j = 89 by omega), if_false]
theorem M_hi {j : Nat} (hj : 54 ≤ j ∧ j ≤ 89) : (mdl h th to row gu ch now tape tp pt tt ne rd rM code rc cL cR stk ask un und aS aO aW aH ac thr ins gon nO mO rO wy ah late soon yet cir bed stp oO oW win wc rn wer iK kC kep) j = (mdl h' th to row gu ch now tape tp pt tt ne rd rM code rc cL cR stk ask un und aS aO aW aH ac thr ins gon nO mO rO wy ah late soon yet cir bed stp oO oW win wc rn wer iK kC kep) j := by
  have key : ∀ j, 54 ≤ j → j ≤ 89 → (mdl h th to row gu ch now tape tp pt tt ne rd rM code rc cL cR stk ask un und aS aO aW aH ac thr ins gon nO mO rO wy ah late soon yet cir bed stp oO oW win wc rn wer iK kC kep) j = (mdl h' th to row gu ch now tape tp pt tt ne rd rM code rc cL cR stk ask un und aS aO aW aH ac thr ins gon nO mO rO wy ah late soon yet cir bed stp oO oW win wc rn wer iK kC kep) j := by
    intro j h1 h2
    obtain ⟨i, rfl⟩ : ∃ i, j = 54 + i := ⟨j - 54, by omega⟩
    have hi : i < 36 := by omega
    match i, hi with
    | 0, _ => rfl
    | 1, _ => rfl
    | 2, _ => rfl
    | 3, _ => rfl
    | 4, _ => rfl
    | 5, _ => rfl
    | 6, _ => rfl
    | 7, _ => rfl
    | 8, _ => rfl
    | 9, _ => rfl
    | 10, _ => rfl
    | 11, _ => rfl
    | 12, _ => rfl
    | 13, _ => rfl
    | 14, _ => rfl
    | 15, _ => rfl
    | 16, _ => rfl
    | 17, _ => rfl
    | 18, _ => rfl
    | 19, _ => rfl
    | 20, _ => rfl
    | 21, _ => rfl
    | 22, _ => rfl
    | 23, _ => rfl
    | 24, _ => rfl
    | 25, _ => rfl
    | 26, _ => rfl
    | 27, _ => rfl
    | 28, _ => rfl
    | 29, _ => rfl
    | 30, _ => rfl
    | 31, _ => rfl
    | 32, _ => rfl
    | 33, _ => rfl
    | 34, _ => rfl
    | 35, _ => rfl
    | i + 36, hi => exact absurd hi (by omega)
  exact key j hj.1 hj.2
theorem wm_comm (hn : nm9 od cs) : (wld ((mdl h th to row gu ch now tape tp pt tt ne rd rM code rc cL cR stk ask un und aS aO aW aH ac thr ins gon nO mO rO wy ah late soon yet cir bed stp oO oW win wc rn wer iK kC kep)) te tO dr pa ro fi od cs ci ga r1 r2 sw) = (mdl (wld h te tO dr pa ro fi od cs ci ga r1 r2 sw) th to row gu ch now tape tp pt tt ne rd rM code rc cL cR stk ask un und aS aO aW aH ac thr ins gon nO mO rO wy ah late soon yet cir bed stp oO oW win wc rn wer iK kC kep) := by
  obtain ⟨h0, h1, h2⟩ := hn
  funext j
  by_cases c : 54 ≤ j ∧ j ≤ 89
  · rw [W_hi c.1 (by omega) (by omega), M_hi c]
  · rw [M_lo c]
    exact W_pt (M_lo c)
theorem M_self (he : ∀ j, 54 ≤ j → j ≤ 89 → h' j = (mdl h th to row gu ch now tape tp pt tt ne rd rM code rc cL cR stk ask un und aS aO aW aH ac thr ins gon nO mO rO wy ah late soon yet cir bed stp oO oW win wc rn wer iK kC kep) j) : h' = (mdl h' th to row gu ch now tape tp pt tt ne rd rM code rc cL cR stk ask un und aS aO aW aH ac thr ins gon nO mO rO wy ah late soon yet cir bed stp oO oW win wc rn wer iK kC kep) := by
  funext j
  by_cases c : 54 ≤ j ∧ j ≤ 89
  · rw [he j c.1 c.2]; exact M_hi c
  · rw [M_lo c]
end J2

