/-! the cells of ORDERS and COSTS within the whole object -/
section WCELL
variable {h h' : Nat → zE} {te : cText} {tO dr : cTold} {pa : cPast} {ro : cRow} {fi : cFits} {od od' : cOrd} {cs cs' : cCst} {ci : cCir} {ga : cGam} {r1 r2 : cRule} {sw : Bool}
theorem Wo_22 (hs : nmOK od cs) : (wld h te tO dr pa ro fi od cs ci ga r1 r2 sw) 22 = zO 4 [.ref od.1, .ref (od.1 + 1), .ref (od.1 + 2), .ref (od.1 + 3), .ref (od.1 + 4), .ref (od.1 + 5), .ref (od.1 + 6), .ref (od.1 + 7), .ref 31, .ref 32, .ref 33, .int od.2.2.2.2.2.2.2.1, .int (b01 od.2.2.2.2.2.2.2.2.1), .int (nI od.2.2.2.2.2.2.2.2.2.1), .int (nI od.2.2.2.2.2.2.2.2.2.2)] := (congrFun (W_ord hs) 22).trans ord_0
theorem nm_ok (hs : nmOK od cs) : ordOK 22 od.1 := by
  obtain ⟨a1, a2, a3, a4, a5⟩ := hs
  exact ⟨by decide, a1, by omega⟩
theorem Wo0 (hs : nmOK od cs) : (wld h te tO dr pa ro fi od cs ci ga r1 r2 sw) od.1 = zI 0 od.2.1 (fun x => nI (od.2.2.2.1 0 x)) := (congrFun (W_ord hs) _).trans (og0 (nm_ok hs))
theorem Wo1 (hs : nmOK od cs) : (wld h te tO dr pa ro fi od cs ci ga r1 r2 sw) (od.1 + 1) = zI 0 od.2.1 (fun x => nI (od.2.2.2.1 1 x)) := (congrFun (W_ord hs) _).trans (og1 (nm_ok hs))
theorem Wo2 (hs : nmOK od cs) : (wld h te tO dr pa ro fi od cs ci ga r1 r2 sw) (od.1 + 2) = zI 0 od.2.1 (fun x => nI (od.2.2.2.1 2 x)) := (congrFun (W_ord hs) _).trans (og2 (nm_ok hs))
theorem Wo3 (hs : nmOK od cs) : (wld h te tO dr pa ro fi od cs ci ga r1 r2 sw) (od.1 + 3) = zJ od.2.1 (od.2.2.2.2.1 0) := (congrFun (W_ord hs) _).trans (og3 (nm_ok hs))
theorem Wo4 (hs : nmOK od cs) : (wld h te tO dr pa ro fi od cs ci ga r1 r2 sw) (od.1 + 4) = zJ od.2.1 (od.2.2.2.2.1 1) := (congrFun (W_ord hs) _).trans (og4 (nm_ok hs))
theorem Wo5 (hs : nmOK od cs) : (wld h te tO dr pa ro fi od cs ci ga r1 r2 sw) (od.1 + 5) = zJ od.2.1 (od.2.2.2.2.1 2) := (congrFun (W_ord hs) _).trans (og5 (nm_ok hs))
theorem W_cst (hs : nmOK od cs) {j : Nat} (hj : (34 ≤ j ∧ j < 41 ∧ j ≠ 35) ∨ j = cs.1) : (wld h te tO dr pa ro fi od cs ci ga r1 r2 sw) j = cstS h 34 cs j := by
  obtain ⟨a1, a2, a3, a4, a5⟩ := hs
  rw [W_in j (by omega) (by omega)]
  exact ord_out (by omega) (by omega) (by omega)
theorem Wc_34 (hs : nmOK od cs) : (wld h te tO dr pa ro fi od cs ci ga r1 r2 sw) 34 = zO 1 [.ref cs.1, .ref 36, .ref 37, .ref 38, .ref 39, .ref 40, .int (b01 cs.2.2.2.2.2.2.2.2)] := W_cst hs (Or.inl (by decide))
theorem Wc_K (hs : nmOK od cs) : (wld h te tO dr pa ro fi od cs ci ga r1 r2 sw) cs.1 = zI 0 cs.2.1 cs.2.2.1 := by
  have ⟨a1, a2, a3, a4, a5⟩ := id hs
  rw [W_cst hs (Or.inr rfl)]
  unfold cstS
  rw [if_neg (by omega), if_pos rfl]
theorem cstS_n {b j : Nat} {c : cCst} (h1 : j ≠ c.1) (h2 : j ≠ b) : cstS h b c j = if j = b + 2 then zI 0 896 c.2.2.2.1 else if j = b + 3 then zI 0 7 c.2.2.2.2.1 else if j = b + 4 then zI 0 7 (fun i => nI (c.2.2.2.2.2.1 i)) else if j = b + 5 then zI 0 7 (fun i => nI (c.2.2.2.2.2.2.1 i)) else if j = b + 6 then zI 0 7 (fun i => nI (c.2.2.2.2.2.2.2.1 i)) else h j := by
  unfold cstS
  rw [if_neg h2, if_neg h1]
theorem nm_K (hs : nmOK od cs) {j : Nat} (hj : 36 ≤ j ∧ j < 41) : j ≠ cs.1 := by
  have ⟨a1, a2, a3, a4, a5⟩ := id hs
  omega
theorem Wc_36 (hs : nmOK od cs) : (wld h te tO dr pa ro fi od cs ci ga r1 r2 sw) 36 = zI 0 896 cs.2.2.2.1 := (W_cst hs (Or.inl (by decide))).trans (cstS_n (nm_K hs (by decide)) (by decide))
theorem Wc_37 (hs : nmOK od cs) : (wld h te tO dr pa ro fi od cs ci ga r1 r2 sw) 37 = zI 0 7 cs.2.2.2.2.1 := (W_cst hs (Or.inl (by decide))).trans (cstS_n (nm_K hs (by decide)) (by decide))
theorem Wc_38 (hs : nmOK od cs) : (wld h te tO dr pa ro fi od cs ci ga r1 r2 sw) 38 = zI 0 7 (fun i => nI (cs.2.2.2.2.2.1 i)) := (W_cst hs (Or.inl (by decide))).trans (cstS_n (nm_K hs (by decide)) (by decide))
theorem Wc_39 (hs : nmOK od cs) : (wld h te tO dr pa ro fi od cs ci ga r1 r2 sw) 39 = zI 0 7 (fun i => nI (cs.2.2.2.2.2.2.1 i)) := (W_cst hs (Or.inl (by decide))).trans (cstS_n (nm_K hs (by decide)) (by decide))
theorem Wc_40 (hs : nmOK od cs) : (wld h te tO dr pa ro fi od cs ci ga r1 r2 sw) 40 = zI 0 7 (fun i => nI (cs.2.2.2.2.2.2.2.1 i)) := (W_cst hs (Or.inl (by decide))).trans (cstS_n (nm_K hs (by decide)) (by decide))
/-! a change of COSTS: cell by cell -/
theorem W_sCst (hs : nmOK od cs) {c : cCst} (hK : c.1 = cs.1) {H : Nat → zE} (h1 : ∀ j, ((34 ≤ j ∧ j < 41 ∧ j ≠ 35) ∨ j = cs.1) → H j = cstS h 34 c j) (h2 : ∀ j, ¬ ((34 ≤ j ∧ j < 41 ∧ j ≠ 35) ∨ j = cs.1) → H j = (wld h te tO dr pa ro fi od cs ci ga r1 r2 sw) j) : H = (wld h te tO dr pa ro fi od c ci ga r1 r2 sw) := by
  have ⟨a1, a2, a3, a4, a5⟩ := id hs
  have hs' : nmOK od c := by
    refine ⟨a1, ?_, a3, ?_, ?_⟩ <;> rw [hK] <;> assumption
  funext j
  by_cases c0 : (34 ≤ j ∧ j < 41 ∧ j ≠ 35) ∨ j = cs.1
  · rw [h1 j c0, W_cst hs' (by rw [hK]; exact c0)]
  · rw [h2 j c0]
    refine wld_congr ?_
    show ordSet (cstS h 34 cs) 22 od.1 od.2.1 od.2.2.1 od.2.2.2.1 od.2.2.2.2.1 od.2.2.2.2.2.1 od.2.2.2.2.2.2.1 od.2.2.2.2.2.2.2.1 od.2.2.2.2.2.2.2.2.1 od.2.2.2.2.2.2.2.2.2.1 od.2.2.2.2.2.2.2.2.2.2 j = ordSet (cstS h 34 c) 22 od.1 od.2.1 od.2.2.1 od.2.2.2.1 od.2.2.2.2.1 od.2.2.2.2.2.1 od.2.2.2.2.2.2.1 od.2.2.2.2.2.2.2.1 od.2.2.2.2.2.2.2.2.1 od.2.2.2.2.2.2.2.2.2.1 od.2.2.2.2.2.2.2.2.2.2 j
    unfold ordSet
    have e : cstS h 34 cs j = cstS h 34 c j := by
      unfold cstS
      rw [if_neg (by omega), if_neg (by omega), if_neg (by omega), if_neg (by omega), if_neg (by omega), if_neg (by omega), if_neg (by omega), if_neg (by omega), if_neg (by omega), if_neg (by omega), if_neg (by omega), if_neg (by omega), if_neg (by omega), if_neg (by omega)]
    rw [e]
theorem W_sK (hs : nmOK od cs) {f : Nat → Int32} : z_up ((wld h te tO dr pa ro fi od cs ci ga r1 r2 sw)) cs.1 (zI 0 cs.2.1 f) = (wld h te tO dr pa ro fi od (cs.1, cs.2.1, f, cs.2.2.2.1, cs.2.2.2.2.1, cs.2.2.2.2.2.1, cs.2.2.2.2.2.2.1, cs.2.2.2.2.2.2.2.1, cs.2.2.2.2.2.2.2.2) ci ga r1 r2 sw) := by
  have ⟨a1, a2, a3, a4, a5⟩ := id hs
  refine W_sCst (c := (cs.1, cs.2.1, f, cs.2.2.2.1, cs.2.2.2.2.1, cs.2.2.2.2.2.1, cs.2.2.2.2.2.2.1, cs.2.2.2.2.2.2.2.1, cs.2.2.2.2.2.2.2.2)) hs rfl (fun j hj => ?_) (fun j hj => z_up_n _ _ (by omega))
  by_cases c : j = cs.1
  · rw [c, z_up_s]
    unfold cstS
    rw [if_neg (by omega), if_pos rfl]
  · rw [z_up_n _ _ c, W_cst hs hj]
    unfold cstS
    simp only [if_neg c]
theorem W_s34 (hs : nmOK od cs) {b : Bool} : z_up ((wld h te tO dr pa ro fi od cs ci ga r1 r2 sw)) 34 (zO 1 [.ref cs.1, .ref 36, .ref 37, .ref 38, .ref 39, .ref 40, .int (b01 b)]) = (wld h te tO dr pa ro fi od (cs.1, cs.2.1, cs.2.2.1, cs.2.2.2.1, cs.2.2.2.2.1, cs.2.2.2.2.2.1, cs.2.2.2.2.2.2.1, cs.2.2.2.2.2.2.2.1, b) ci ga r1 r2 sw) := by
  have ⟨a1, a2, a3, a4, a5⟩ := id hs
  refine W_sCst (c := (cs.1, cs.2.1, cs.2.2.1, cs.2.2.2.1, cs.2.2.2.2.1, cs.2.2.2.2.2.1, cs.2.2.2.2.2.2.1, cs.2.2.2.2.2.2.2.1, b)) hs rfl (fun j hj => ?_) (fun j hj => z_up_n _ _ (by omega))
  by_cases c : j = 34
  · rw [c, z_up_s]
    rfl
  · rw [z_up_n _ _ c, W_cst hs hj]
    unfold cstS
    simp only [if_neg c]
theorem W_s36 (hs : nmOK od cs) {f : Nat → Int32} : z_up ((wld h te tO dr pa ro fi od cs ci ga r1 r2 sw)) 36 (zI 0 896 f) = (wld h te tO dr pa ro fi od (cs.1, cs.2.1, cs.2.2.1, f, cs.2.2.2.2.1, cs.2.2.2.2.2.1, cs.2.2.2.2.2.2.1, cs.2.2.2.2.2.2.2.1, cs.2.2.2.2.2.2.2.2) ci ga r1 r2 sw) := by
  have ⟨a1, a2, a3, a4, a5⟩ := id hs
  refine W_sCst (c := (cs.1, cs.2.1, cs.2.2.1, f, cs.2.2.2.2.1, cs.2.2.2.2.2.1, cs.2.2.2.2.2.2.1, cs.2.2.2.2.2.2.2.1, cs.2.2.2.2.2.2.2.2)) hs rfl (fun j hj => ?_) (fun j hj => z_up_n _ _ (by omega))
  by_cases c : j = 36
  · rw [c, z_up_s]
    unfold cstS
    rw [if_neg (by omega), if_neg (by show ¬ 36 = cs.1; omega)]
    rfl
  · rw [z_up_n _ _ c, W_cst hs hj]
    unfold cstS
    simp only [if_neg (show ¬ j = 34 + 2 from c)]
theorem W_s37 (hs : nmOK od cs) {f : Nat → Int32} : z_up ((wld h te tO dr pa ro fi od cs ci ga r1 r2 sw)) 37 (zI 0 7 f) = (wld h te tO dr pa ro fi od (cs.1, cs.2.1, cs.2.2.1, cs.2.2.2.1, f, cs.2.2.2.2.2.1, cs.2.2.2.2.2.2.1, cs.2.2.2.2.2.2.2.1, cs.2.2.2.2.2.2.2.2) ci ga r1 r2 sw) := by
  have ⟨a1, a2, a3, a4, a5⟩ := id hs
  refine W_sCst (c := (cs.1, cs.2.1, cs.2.2.1, cs.2.2.2.1, f, cs.2.2.2.2.2.1, cs.2.2.2.2.2.2.1, cs.2.2.2.2.2.2.2.1, cs.2.2.2.2.2.2.2.2)) hs rfl (fun j hj => ?_) (fun j hj => z_up_n _ _ (by omega))
  by_cases c : j = 37
  · rw [c, z_up_s]
    unfold cstS
    rw [if_neg (by omega), if_neg (by show ¬ 37 = cs.1; omega)]
    rfl
  · rw [z_up_n _ _ c, W_cst hs hj]
    unfold cstS
    simp only [if_neg (show ¬ j = 34 + 3 from c)]
theorem W_s38 (hs : nmOK od cs) {f : Nat → Nat} : z_up ((wld h te tO dr pa ro fi od cs ci ga r1 r2 sw)) 38 (zI 0 7 (fun i => nI (f i))) = (wld h te tO dr pa ro fi od (cs.1, cs.2.1, cs.2.2.1, cs.2.2.2.1, cs.2.2.2.2.1, f, cs.2.2.2.2.2.2.1, cs.2.2.2.2.2.2.2.1, cs.2.2.2.2.2.2.2.2) ci ga r1 r2 sw) := by
  have ⟨a1, a2, a3, a4, a5⟩ := id hs
  refine W_sCst (c := (cs.1, cs.2.1, cs.2.2.1, cs.2.2.2.1, cs.2.2.2.2.1, f, cs.2.2.2.2.2.2.1, cs.2.2.2.2.2.2.2.1, cs.2.2.2.2.2.2.2.2)) hs rfl (fun j hj => ?_) (fun j hj => z_up_n _ _ (by omega))
  by_cases c : j = 38
  · rw [c, z_up_s]
    unfold cstS
    rw [if_neg (by omega), if_neg (by show ¬ 38 = cs.1; omega)]
    rfl
  · rw [z_up_n _ _ c, W_cst hs hj]
    unfold cstS
    simp only [if_neg (show ¬ j = 34 + 4 from c)]
theorem W_s39 (hs : nmOK od cs) {f : Nat → Nat} : z_up ((wld h te tO dr pa ro fi od cs ci ga r1 r2 sw)) 39 (zI 0 7 (fun i => nI (f i))) = (wld h te tO dr pa ro fi od (cs.1, cs.2.1, cs.2.2.1, cs.2.2.2.1, cs.2.2.2.2.1, cs.2.2.2.2.2.1, f, cs.2.2.2.2.2.2.2.1, cs.2.2.2.2.2.2.2.2) ci ga r1 r2 sw) := by
  have ⟨a1, a2, a3, a4, a5⟩ := id hs
  refine W_sCst (c := (cs.1, cs.2.1, cs.2.2.1, cs.2.2.2.1, cs.2.2.2.2.1, cs.2.2.2.2.2.1, f, cs.2.2.2.2.2.2.2.1, cs.2.2.2.2.2.2.2.2)) hs rfl (fun j hj => ?_) (fun j hj => z_up_n _ _ (by omega))
  by_cases c : j = 39
  · rw [c, z_up_s]
    unfold cstS
    rw [if_neg (by omega), if_neg (by show ¬ 39 = cs.1; omega)]
    rfl
  · rw [z_up_n _ _ c, W_cst hs hj]
    unfold cstS
    simp only [if_neg (show ¬ j = 34 + 5 from c)]
theorem W_s40 (hs : nmOK od cs) {f : Nat → Nat} : z_up ((wld h te tO dr pa ro fi od cs ci ga r1 r2 sw)) 40 (zI 0 7 (fun i => nI (f i))) = (wld h te tO dr pa ro fi od (cs.1, cs.2.1, cs.2.2.1, cs.2.2.2.1, cs.2.2.2.2.1, cs.2.2.2.2.2.1, cs.2.2.2.2.2.2.1, f, cs.2.2.2.2.2.2.2.2) ci ga r1 r2 sw) := by
  have ⟨a1, a2, a3, a4, a5⟩ := id hs
  refine W_sCst (c := (cs.1, cs.2.1, cs.2.2.1, cs.2.2.2.1, cs.2.2.2.2.1, cs.2.2.2.2.2.1, cs.2.2.2.2.2.2.1, f, cs.2.2.2.2.2.2.2.2)) hs rfl (fun j hj => ?_) (fun j hj => z_up_n _ _ (by omega))
  by_cases c : j = 40
  · rw [c, z_up_s]
    unfold cstS
    rw [if_neg (by omega), if_neg (by show ¬ 40 = cs.1; omega)]
    rfl
  · rw [z_up_n _ _ c, W_cst hs hj]
    unfold cstS
    simp only [if_neg (show ¬ j = 34 + 6 from c)]
end WCELL

