/-! the cells of ORDERS and COSTS within the whole object -/
section WCELL
variable {h : Nat → zE} {s : WS}
theorem Wo_22 (hs : namesOK s) : wld h s 22 = zO 4 [.ref s.od.k, .ref (s.od.k + 1), .ref (s.od.k + 2), .ref (s.od.k + 3), .ref (s.od.k + 4), .ref (s.od.k + 5), .ref (s.od.k + 6), .ref (s.od.k + 7), .ref 31, .ref 32, .ref 33, .int s.od.sn, .int (b01 s.od.tl), .int (nI s.od.n), .int (nI s.od.la)] := (congrFun (W_ord hs) 22).trans ord_0
theorem nm_ok (hs : namesOK s) : ordOK 22 s.od.k := by
  obtain ⟨a1, a2, a3, a4, a5⟩ := hs
  exact ⟨by decide, a1, by omega⟩
theorem Wo0 (hs : namesOK s) : wld h s s.od.k = zI 0 s.od.len (fun x => nI (s.od.A 0 x)) := (congrFun (W_ord hs) _).trans (og0 (nm_ok hs))
theorem Wo1 (hs : namesOK s) : wld h s (s.od.k + 1) = zI 0 s.od.len (fun x => nI (s.od.A 1 x)) := (congrFun (W_ord hs) _).trans (og1 (nm_ok hs))
theorem Wo2 (hs : namesOK s) : wld h s (s.od.k + 2) = zI 0 s.od.len (fun x => nI (s.od.A 2 x)) := (congrFun (W_ord hs) _).trans (og2 (nm_ok hs))
theorem Wo3 (hs : namesOK s) : wld h s (s.od.k + 3) = zJ s.od.len (s.od.B 0) := (congrFun (W_ord hs) _).trans (og3 (nm_ok hs))
theorem Wo4 (hs : namesOK s) : wld h s (s.od.k + 4) = zJ s.od.len (s.od.B 1) := (congrFun (W_ord hs) _).trans (og4 (nm_ok hs))
theorem Wo5 (hs : namesOK s) : wld h s (s.od.k + 5) = zJ s.od.len (s.od.B 2) := (congrFun (W_ord hs) _).trans (og5 (nm_ok hs))
theorem W_cst (hs : namesOK s) {j : Nat} (hj : (34 ≤ j ∧ j < 41 ∧ j ≠ 35) ∨ j = s.cs.K) : wld h s j = cstS h 34 s.cs j := by
  obtain ⟨a1, a2, a3, a4, a5⟩ := hs
  rw [W_in j (by omega) (by omega)]
  exact ord_out (by omega) (by omega) (by omega)
theorem Wc_34 (hs : namesOK s) : wld h s 34 = zO 1 [.ref s.cs.K, .ref 36, .ref 37, .ref 38, .ref 39, .ref 40, .int (b01 s.cs.ly)] := W_cst hs (Or.inl (by decide))
theorem Wc_K (hs : namesOK s) : wld h s s.cs.K = zI 0 s.cs.cl s.cs.co := by
  have ⟨a1, a2, a3, a4, a5⟩ := id hs
  rw [W_cst hs (Or.inr rfl)]
  unfold cstS
  rw [if_neg (by omega), if_pos rfl]
theorem cstS_n {b j : Nat} {c : cCst} (h1 : j ≠ c.K) (h2 : j ≠ b) : cstS h b c j = if j = b + 2 then zI 0 896 c.wo else if j = b + 3 then zI 0 7 c.th else if j = b + 4 then zI 0 7 (fun i => nI (c.ma i)) else if j = b + 5 then zI 0 7 (fun i => nI (c.wi i)) else if j = b + 6 then zI 0 7 (fun i => nI (c.wg i)) else h j := by
  unfold cstS
  rw [if_neg h2, if_neg h1]
theorem nm_K (hs : namesOK s) {j : Nat} (hj : 36 ≤ j ∧ j < 41) : j ≠ s.cs.K := by
  have ⟨a1, a2, a3, a4, a5⟩ := id hs
  omega
theorem Wc_36 (hs : namesOK s) : wld h s 36 = zI 0 896 s.cs.wo := (W_cst hs (Or.inl (by decide))).trans (cstS_n (nm_K hs (by decide)) (by decide))
theorem Wc_37 (hs : namesOK s) : wld h s 37 = zI 0 7 s.cs.th := (W_cst hs (Or.inl (by decide))).trans (cstS_n (nm_K hs (by decide)) (by decide))
theorem Wc_38 (hs : namesOK s) : wld h s 38 = zI 0 7 (fun i => nI (s.cs.ma i)) := (W_cst hs (Or.inl (by decide))).trans (cstS_n (nm_K hs (by decide)) (by decide))
theorem Wc_39 (hs : namesOK s) : wld h s 39 = zI 0 7 (fun i => nI (s.cs.wi i)) := (W_cst hs (Or.inl (by decide))).trans (cstS_n (nm_K hs (by decide)) (by decide))
theorem Wc_40 (hs : namesOK s) : wld h s 40 = zI 0 7 (fun i => nI (s.cs.wg i)) := (W_cst hs (Or.inl (by decide))).trans (cstS_n (nm_K hs (by decide)) (by decide))
/-! a change of COSTS: cell by cell -/
theorem W_sCst (hs : namesOK s) {c : cCst} (hK : c.K = s.cs.K) {H : Nat → zE} (h1 : ∀ j, ((34 ≤ j ∧ j < 41 ∧ j ≠ 35) ∨ j = s.cs.K) → H j = cstS h 34 c j) (h2 : ∀ j, ¬ ((34 ≤ j ∧ j < 41 ∧ j ≠ 35) ∨ j = s.cs.K) → H j = wld h s j) : H = wld h { s with cs := c } := by
  have ⟨a1, a2, a3, a4, a5⟩ := id hs
  have hs' : namesOK { s with cs := c } := by
    refine ⟨a1, ?_, a3, ?_, ?_⟩ <;> rw [hK] <;> assumption
  funext j
  by_cases c0 : (34 ≤ j ∧ j < 41 ∧ j ≠ 35) ∨ j = s.cs.K
  · rw [h1 j c0, W_cst hs' (by rw [hK]; exact c0)]
  · rw [h2 j c0]
    refine wld_congr (s := s) (s' := { s with cs := c }) rfl rfl rfl rfl rfl rfl rfl rfl rfl rfl rfl ?_
    show ordSet (cstS h 34 s.cs) 22 s.od.k s.od.len s.od.m s.od.A s.od.B s.od.C s.od.op s.od.sn s.od.tl s.od.n s.od.la j = ordSet (cstS h 34 c) 22 s.od.k s.od.len s.od.m s.od.A s.od.B s.od.C s.od.op s.od.sn s.od.tl s.od.n s.od.la j
    unfold ordSet
    have e : cstS h 34 s.cs j = cstS h 34 c j := by
      unfold cstS
      rw [if_neg (by omega), if_neg (by omega), if_neg (by omega), if_neg (by omega), if_neg (by omega), if_neg (by omega), if_neg (by omega), if_neg (by omega), if_neg (by omega), if_neg (by omega), if_neg (by omega), if_neg (by omega), if_neg (by omega), if_neg (by omega)]
    rw [e]
theorem W_sK (hs : namesOK s) {f : Nat → Int32} : z_up (wld h s) s.cs.K (zI 0 s.cs.cl f) = wld h { s with cs := { s.cs with co := f } } := by
  have ⟨a1, a2, a3, a4, a5⟩ := id hs
  refine W_sCst (c := { s.cs with co := f }) hs rfl (fun j hj => ?_) (fun j hj => z_up_n _ _ (by omega))
  by_cases c : j = s.cs.K
  · rw [c, z_up_s]
    unfold cstS
    rw [if_neg (by omega), if_pos rfl]
  · rw [z_up_n _ _ c, W_cst hs hj]
    unfold cstS
    simp only [if_neg c]
theorem W_s34 (hs : namesOK s) {b : Bool} : z_up (wld h s) 34 (zO 1 [.ref s.cs.K, .ref 36, .ref 37, .ref 38, .ref 39, .ref 40, .int (b01 b)]) = wld h { s with cs := { s.cs with ly := b } } := by
  have ⟨a1, a2, a3, a4, a5⟩ := id hs
  refine W_sCst (c := { s.cs with ly := b }) hs rfl (fun j hj => ?_) (fun j hj => z_up_n _ _ (by omega))
  by_cases c : j = 34
  · rw [c, z_up_s]
    rfl
  · rw [z_up_n _ _ c, W_cst hs hj]
    unfold cstS
    simp only [if_neg c]
theorem W_s36 (hs : namesOK s) {f : Nat → Int32} : z_up (wld h s) 36 (zI 0 896 f) = wld h { s with cs := { s.cs with wo := f } } := by
  have ⟨a1, a2, a3, a4, a5⟩ := id hs
  refine W_sCst (c := { s.cs with wo := f }) hs rfl (fun j hj => ?_) (fun j hj => z_up_n _ _ (by omega))
  by_cases c : j = 36
  · rw [c, z_up_s]
    unfold cstS
    rw [if_neg (by omega), if_neg (by show ¬ 36 = s.cs.K; omega)]
    rfl
  · rw [z_up_n _ _ c, W_cst hs hj]
    unfold cstS
    simp only [if_neg (show ¬ j = 34 + 2 from c)]
theorem W_s37 (hs : namesOK s) {f : Nat → Int32} : z_up (wld h s) 37 (zI 0 7 f) = wld h { s with cs := { s.cs with th := f } } := by
  have ⟨a1, a2, a3, a4, a5⟩ := id hs
  refine W_sCst (c := { s.cs with th := f }) hs rfl (fun j hj => ?_) (fun j hj => z_up_n _ _ (by omega))
  by_cases c : j = 37
  · rw [c, z_up_s]
    unfold cstS
    rw [if_neg (by omega), if_neg (by show ¬ 37 = s.cs.K; omega)]
    rfl
  · rw [z_up_n _ _ c, W_cst hs hj]
    unfold cstS
    simp only [if_neg (show ¬ j = 34 + 3 from c)]
theorem W_s38 (hs : namesOK s) {f : Nat → Nat} : z_up (wld h s) 38 (zI 0 7 (fun i => nI (f i))) = wld h { s with cs := { s.cs with ma := f } } := by
  have ⟨a1, a2, a3, a4, a5⟩ := id hs
  refine W_sCst (c := { s.cs with ma := f }) hs rfl (fun j hj => ?_) (fun j hj => z_up_n _ _ (by omega))
  by_cases c : j = 38
  · rw [c, z_up_s]
    unfold cstS
    rw [if_neg (by omega), if_neg (by show ¬ 38 = s.cs.K; omega)]
    rfl
  · rw [z_up_n _ _ c, W_cst hs hj]
    unfold cstS
    simp only [if_neg (show ¬ j = 34 + 4 from c)]
theorem W_s39 (hs : namesOK s) {f : Nat → Nat} : z_up (wld h s) 39 (zI 0 7 (fun i => nI (f i))) = wld h { s with cs := { s.cs with wi := f } } := by
  have ⟨a1, a2, a3, a4, a5⟩ := id hs
  refine W_sCst (c := { s.cs with wi := f }) hs rfl (fun j hj => ?_) (fun j hj => z_up_n _ _ (by omega))
  by_cases c : j = 39
  · rw [c, z_up_s]
    unfold cstS
    rw [if_neg (by omega), if_neg (by show ¬ 39 = s.cs.K; omega)]
    rfl
  · rw [z_up_n _ _ c, W_cst hs hj]
    unfold cstS
    simp only [if_neg (show ¬ j = 34 + 5 from c)]
theorem W_s40 (hs : namesOK s) {f : Nat → Nat} : z_up (wld h s) 40 (zI 0 7 (fun i => nI (f i))) = wld h { s with cs := { s.cs with wg := f } } := by
  have ⟨a1, a2, a3, a4, a5⟩ := id hs
  refine W_sCst (c := { s.cs with wg := f }) hs rfl (fun j hj => ?_) (fun j hj => z_up_n _ _ (by omega))
  by_cases c : j = 40
  · rw [c, z_up_s]
    unfold cstS
    rw [if_neg (by omega), if_neg (by show ¬ 40 = s.cs.K; omega)]
    rfl
  · rw [z_up_n _ _ c, W_cst hs hj]
    unfold cstS
    simp only [if_neg (show ¬ j = 34 + 6 from c)]
end WCELL

