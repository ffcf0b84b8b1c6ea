/-! the whole object: what is told and the past, as functions -/
section WOLD
variable {h : Nat → zE} {te : cText} {tO dr : cTold} {pa : cPast} {ro : cRow} {fi : cFits} {od : cOrd} {cs : cCst} {ci : cCir} {ga : cGam} {r1 r2 : cRule} {sw : Bool} {d : Nat} {u : zU} {Q : zR → Prop} {n : Nat} {rm mt nt : Nat → Nat} {fm : Bool} {vr : Int32}
def tellO (t : cTold) (g k v : Int32) : Int32 × cTold := if hasB t.1 g = true ∧ hasB t.1 k = true ∧ ¬ g = k ∧ ¬ v < 0 ∧ ¬ 2 < v then (if abt t.2.2.1 t.2.2.2.1 g.toNatClampNeg k.toNatClampNeg = v.toNatClampNeg then (-2, t) else (nI (10 + abt t.2.2.1 t.2.2.2.1 g.toNatClampNeg k.toNatClampNeg), (t.1, t.2.1, putM t.2.2.1 g.toNatClampNeg k.toNatClampNeg (decide (v.toNatClampNeg = 1)), putM t.2.2.2.1 g.toNatClampNeg k.toNatClampNeg (decide (v.toNatClampNeg = 0)), t.2.2.2.2.1, t.2.2.2.2.2 + 1))) else (-1, t)
def hideO (t : cTold) (g : Int32) : Int32 × cTold := if hasB t.1 g = true then (if pop (t.2.2.1 g.toNatClampNeg ||| t.2.2.2.1 g.toNatClampNeg) = 0 then (-2, t) else (nI (pop (t.2.2.1 g.toNatClampNeg ||| t.2.2.2.1 g.toNatClampNeg)), (t.1, t.2.1, hdF t.2.2.1 g.toNatClampNeg t.1, hdF t.2.2.2.1 g.toNatClampNeg t.1, t.2.2.2.2.1, t.2.2.2.2.2 + nI (hdC g.toNatClampNeg t.1)))) else (-1, t)
def copyO (t : cTold) (g k : Int32) : Int32 × cTold := if hasB t.1 g = true ∧ hasB t.1 k = true ∧ ¬ g = k then ((if (cpM t.2.2.1 t.2.2.2.1 g.toNatClampNeg k.toNatClampNeg t.1).2.2 = 0 then -2 else nI (cpM t.2.2.1 t.2.2.2.1 g.toNatClampNeg k.toNatClampNeg t.1).2.2), (t.1, t.2.1, (cpM t.2.2.1 t.2.2.2.1 g.toNatClampNeg k.toNatClampNeg t.1).1, (cpM t.2.2.1 t.2.2.2.1 g.toNatClampNeg k.toNatClampNeg t.1).2.1, t.2.2.2.2.1, t.2.2.2.2.2 + nI (cpM t.2.2.1 t.2.2.2.1 g.toNatClampNeg k.toNatClampNeg t.1).2.2)) else (-1, t)
def moveO (t : cTold) (g w : Int32) : Int32 × cTold := if hasB t.1 g = true ∧ ¬ w < 0 ∧ ¬ 9 < w then (if t.2.1 g.toNatClampNeg = w.toNatClampNeg then (-2, t) else (nI (t.2.1 g.toNatClampNeg), (t.1, z_up t.2.1 g.toNatClampNeg w.toNatClampNeg, t.2.2.1, t.2.2.2.1, t.2.2.2.2.1, t.2.2.2.2.2 + 1))) else (-1, t)
def firmO (t : cTold) (v : Int32) : Int32 × cTold := if v = 0 then ((if t.2.2.2.2.1 then 1 else 0), (t.1, t.2.1, t.2.2.1, t.2.2.2.1, false, t.2.2.2.2.2 + 1)) else if v = 1 then ((if t.2.2.2.2.1 then 1 else 0), (t.1, t.2.1, t.2.2.1, t.2.2.2.1, true, t.2.2.2.2.2 + 1)) else (-1, t)
theorem i_rng {v : Int32} {b : Nat} (hb : b < 2147483648) (h0 : ¬ v < 0) (h1 : ¬ nI b < v) : ∃ w, w ≤ b ∧ v = nI w := by
  obtain ⟨j, hj, e⟩ := nI_of h0
  subst e
  refine ⟨j, ?_, rfl⟩
  rw [nI_ult hb hj] at h1
  omega
theorem cw_tell (hT : oldT tO) {g k v : Int32} : zK (d + 3) 115 [.ref 4, .int g, .int k, .int v] ((wld h te tO dr pa ro fi od cs ci ga r1 r2 sw), u) Q = Q (some (.int (tellO tO g k v).1), ((wld h te (tellO tO g k v).2 dr pa ro fi od cs ci ga r1 r2 sw), u)) := by
  obtain ⟨n, rm, mt, nt, fm, vr⟩ := tO
  unfold tellO
  by_cases c : hasB n g = true ∧ hasB n k = true ∧ ¬ g = k ∧ ¬ v < 0 ∧ ¬ 2 < v
  · simp only [c, if_true]
    obtain ⟨a1, a2, a3, a4, a5⟩ := c
    obtain ⟨i, hi, e1⟩ := hasB_of hT.1 a1
    obtain ⟨j, hj, e2⟩ := hasB_of hT.1 a2
    obtain ⟨w, hw, e3⟩ := i_rng (b := 2) (by decide) a4 a5
    subst e1 e2 e3
    have hn : n ≤ 7 := hT.1
    rw [nI_clamp (by omega), nI_clamp (by omega), nI_clamp (by omega)]
    have hij : i ≠ j := fun e => a3 (by rw [e])
    rw [c_tell (W_told hT) hi hj hij hw]
    by_cases c2 : abt mt nt i j = w
    · simp only [c2, if_true, not_false_eq_true, and_self]
    · simp only [c2, if_false, if_true, not_false_eq_true, and_self]
      rw [W_sTold]
  · simp only [c, if_false]
    rw [c_tell_no (W_told hT) c]
theorem cw_hide (hT : oldT tO) {g : Int32} : zK (d + 3) 116 [.ref 4, .int g] ((wld h te tO dr pa ro fi od cs ci ga r1 r2 sw), u) Q = Q (some (.int (hideO tO g).1), ((wld h te (hideO tO g).2 dr pa ro fi od cs ci ga r1 r2 sw), u)) := by
  obtain ⟨n, rm, mt, nt, fm, vr⟩ := tO
  unfold hideO
  by_cases c : hasB n g = true
  · simp only [c, if_true]
    obtain ⟨i, hi, e1⟩ := hasB_of hT.1 c
    subst e1
    have hn : n ≤ 7 := hT.1
    rw [nI_clamp (by omega), c_hide (W_told hT) hi]
    by_cases c2 : pop (mt i ||| nt i) = 0
    · simp only [c2, if_true]
    · simp only [c2, if_false]
      rw [W_sTold]
  · have c' : hasB n g = false := by cases h : hasB n g <;> simp_all
    simp only [c', Bool.false_eq_true, if_false]
    rw [c_hide_no (W_told hT) c']
theorem cw_copy (hT : oldT tO) {g k : Int32} : zK (d + 3) 117 [.ref 4, .int g, .int k] ((wld h te tO dr pa ro fi od cs ci ga r1 r2 sw), u) Q = Q (some (.int (copyO tO g k).1), ((wld h te (copyO tO g k).2 dr pa ro fi od cs ci ga r1 r2 sw), u)) := by
  obtain ⟨n, rm, mt, nt, fm, vr⟩ := tO
  unfold copyO
  by_cases c : hasB n g = true ∧ hasB n k = true ∧ ¬ g = k
  · simp only [c, if_true]
    obtain ⟨a1, a2, a3⟩ := c
    obtain ⟨i, hi, e1⟩ := hasB_of hT.1 a1
    obtain ⟨j, hj, e2⟩ := hasB_of hT.1 a2
    subst e1 e2
    have hn : n ≤ 7 := hT.1
    have hij : i ≠ j := fun e => a3 (by rw [e])
    rw [nI_clamp (by omega), nI_clamp (by omega), c_copy (W_told hT) hi hj hij, W_sTold]
    simp
  · simp only [c, if_false]
    rw [c_copy_no (W_told hT) (by
      by_cases b1 : hasB n g = true
      · by_cases b2 : hasB n k = true
        · exact Or.inr (Or.inr (Decidable.byContradiction fun e => c ⟨b1, b2, e⟩))
        · exact Or.inr (Or.inl (by cases h : hasB n k <;> simp_all))
      · exact Or.inl (by cases h : hasB n g <;> simp_all))]
theorem cw_move (hT : oldT tO) {g w : Int32} : zK (d + 2) 118 [.ref 4, .int g, .int w] ((wld h te tO dr pa ro fi od cs ci ga r1 r2 sw), u) Q = Q (some (.int (moveO tO g w).1), ((wld h te (moveO tO g w).2 dr pa ro fi od cs ci ga r1 r2 sw), u)) := by
  obtain ⟨n, rm, mt, nt, fm, vr⟩ := tO
  unfold moveO
  by_cases c : hasB n g = true ∧ ¬ w < 0 ∧ ¬ 9 < w
  · simp only [c, if_true]
    obtain ⟨a1, a2, a3⟩ := c
    obtain ⟨i, hi, e1⟩ := hasB_of hT.1 a1
    obtain ⟨x, hx, e2⟩ := i_rng (b := 9) (by decide) a2 a3
    subst e1 e2
    have hn : n ≤ 7 := hT.1
    rw [nI_clamp (by omega), nI_clamp (by omega), c_move (W_told hT) hi hx]
    by_cases c2 : rm i = x
    · simp only [c2, if_true, not_false_eq_true, and_self]
    · simp only [c2, if_false, if_true, not_false_eq_true, and_self]
      rw [W_sTold]
  · simp only [c, if_false]
    rw [c_move_no (W_told hT) (by
      by_cases b1 : hasB n g = true
      · by_cases b2 : w < 0
        · exact Or.inr (Or.inl b2)
        · exact Or.inr (Or.inr (Decidable.byContradiction fun e => c ⟨b1, b2, e⟩))
      · exact Or.inl (by cases h : hasB n g <;> simp_all))]
theorem cw_firm (hT : oldT tO) {v : Int32} : zK (d + 1) 119 [.ref 4, .int v] ((wld h te tO dr pa ro fi od cs ci ga r1 r2 sw), u) Q = Q (some (.int (firmO tO v).1), ((wld h te (firmO tO v).2 dr pa ro fi od cs ci ga r1 r2 sw), u)) := by
  obtain ⟨n, rm, mt, nt, fm, vr⟩ := tO
  unfold firmO
  by_cases c0 : v = 0
  · subst c0
    have := c_firm (d := d) (u := u) (Q := Q) (W_told (h := h) (te := te) (dr := dr) (pa := pa) (ro := ro) (fi := fi) (od := od) (cs := cs) (ci := ci) (ga := ga) (r1 := r1) (r2 := r2) (sw := sw) hT) (v := false)
    rw [W_sTold] at this
    simpa using this
  · by_cases c1 : v = 1
    · subst c1
      have := c_firm (d := d) (u := u) (Q := Q) (W_told (h := h) (te := te) (dr := dr) (pa := pa) (ro := ro) (fi := fi) (od := od) (cs := cs) (ci := ci) (ga := ga) (r1 := r1) (r2 := r2) (sw := sw) hT) (v := true)
      rw [W_sTold] at this
      simpa using this
    · simp only [c0, c1, if_false]
      rw [c_firm_no (W_told hT) c0 c1]
/-- what is put by for the next step -/
def stgO (p : cPast) (t : cTold) : cPast := (p.1, sv3 p.2.1 0 (pk7 t.2.2.1 7) (pk7 t.2.2.2.1 7) (2 * pk7 t.2.1 7 + t.2.2.2.2.1.toNat), p.2.2.1, p.2.2.2.1, p.2.2.2.2)
def pshO (p : cPast) : cPast := if p.2.2.2.2 = 15 then (va_cpy p.2.1 (va_cpy p.1 p.1 3 0 42) 0 42 3, p.2.1, p.2.2.1, p.2.2.2.1, 15) else (va_cpy p.2.1 p.1 0 (3 * p.2.2.2.2) 3, p.2.1, p.2.2.1, p.2.2.2.1, p.2.2.2.2 + 1)
theorem cw_stage (hT : oldT tO) (hP : oldP pa) : zK (d + 3) 69 [.ref 12, .ref 4] ((wld h te tO dr pa ro fi od cs ci ga r1 r2 sw), u) Q = Q (none, ((wld h te tO dr (stgO pa tO) ro fi od cs ci ga r1 r2 sw), u)) := by
  rw [c_stage (W_past hP) (W_told hT) (by decide), W_sPast]
  rfl
theorem cw_push (hP : oldP pa) : zK (d + 1) 70 [.ref 12] ((wld h te tO dr pa ro fi od cs ci ga r1 r2 sw), u) Q = Q (none, ((wld h te tO dr (pshO pa) ro fi od cs ci ga r1 r2 sw), u)) := by
  rw [c_push (W_past hP)]
  unfold pshO
  split
  · rw [W_sPast]
  · rw [W_sPast]
theorem pshO_ok (hP : oldP pa) : oldP (pshO pa) := by
  obtain ⟨a, b⟩ := hP
  unfold pshO
  split
  · exact ⟨(by decide : 15 ≤ 15), b⟩
  · exact ⟨(by show pa.2.2.2.2 + 1 ≤ 15; omega), b⟩
theorem stgO_ok (hP : oldP pa) : oldP (stgO pa tO) := hP
end WOLD

