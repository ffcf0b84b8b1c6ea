/-! steps: copies, strict, end, undo, keep, again, sheets, counts -/
section J6
variable {h : Nat → zE} {th : Int32} {to : Int32} {row : Nat → Int64} {gu : Int32} {ch : Int32} {now : Nat → Int32} {tape : Nat → Int32} {tp : Int32} {pt : Int32} {tt : Int32} {ne : Int32} {rd : Nat → Int32} {rM : Int32} {code : Nat → Int32} {rc : Nat → Int32} {cL : Int32} {cR : Int32} {stk : Nat → Int32} {ask : Nat → Int32} {un : Int32} {und : Nat → Int32} {aS : Nat → Int32} {aO : Nat → Int32} {aW : Nat → Int32} {aH : Nat → Int32} {ac : Int32} {thr : Nat → Int32} {ins : Nat → Int32} {gon : Nat → Int32} {nO : Nat → Int32} {mO : Nat → Int32} {rO : Nat → Int32} {wy : Nat → Int64} {ah : Nat → Int64} {late : Nat → Int32} {soon : Nat → Int32} {yet : Nat → Int32} {cir : Nat → Int32} {bed : Nat → Int32} {stp : Nat → Int32} {oO : Nat → Int32} {oW : Nat → Int32} {win : Nat → Int32} {wc : Nat → Int32} {rn : Int32} {wer : Nat → Int32} {iK : Nat → Int32} {kC : Nat → Int32} {kep : Nat → Int32}
variable {d : Nat} {u : zU} {Q : zR → Prop} {H : zH} {n k : Nat}
theorem m_againn {i : Int32} (hi : i < 0 ∨ ¬ i < 3) : zK (d + 2) 289 [.ref 54, .int i] ((mdl h th to row gu ch now tape tp pt tt ne rd rM code rc cL cR stk ask un und aS aO aW aH ac thr ins gon nO mO rO wy ah late soon yet cir bed stp oO oW win wc rn wer iK kC kep), u) Q = Q (some (.int 0), ((mdl h 0 to row gu ch now tape tp pt tt ne rd rM code rc cL cR stk ask un und aS aO aW aH ac thr ins gon nO mO rO wy ah late soon yet cir bed stp oO oW win wc rn wer iK kC kep), u)) := by
  have c2 : (!decide (i < 0) && !decide (2 < i)) = false := by
    by_cases b1 : i < 0
    · simp [b1]
    · have b2 : 2 < i := by
        rcases hi with hi | hi
        · exact absurd hi b1
        · obtain ⟨x, hx, e⟩ := nI_of b1
          subst e
          rw [show (3 : Int32) = nI 3 from rfl, nI_ult hx (by decide)] at hi
          exact nI_lt (a := 2) (by omega) hx
      simp [b2]
  refine zK_of (k := 2) (by omega) ?_
  refine zK_in (M := MX11_again) rfl (Nat.le_of_ble_eq_true rfl) ?_
  show zW 1 MX11_again 0 ([.ref 54, .int i, .null], [], ((mdl h th to row gu ch now tape tp pt tt ne rd rM code rc cL cR stk ask un und aS aO aW aH ac thr ins gon nO mO rO wy ah late soon yet cir bed stp oO oW win wc rn wer iK kC kep), u)) _
  simp (disch := first | assumption | omega | decide) only [eX11_again_0, eX11_again_1, eX11_again_2, eX11_again_5, eX11_again_6, eX11_again_7, eX11_again_8, eX11_again_11, eX11_again_14, eX11_again_17, eX11_again_18, eX11_again_21, eX11_again_22, eX11_again_23, eX11_again_26, eX11_again_27, eX11_again_30, eX11_again_31, eX11_again_32, eX11_again_33, eX11_again_36, eX11_again_39, eX11_again_40, eX11_again_41, eX11_again_42, eX11_again_44, eX11_again_46, eX11_again_49, eX11_again_50, eX11_again_53, eX11_again_54, eX11_again_55, eX11_again_58, eX11_again_60, eX11_again_61, eX11_again_62, eX11_again_63, eX11_again_64, eX11_again_65, eX11_again_66, eX11_again_69, eX11_again_72, eX11_again_73, eX11_again_74, eX11_again_77, eX11_again_78, rX11_again, zg_aload, zg_baload, zg_bipush, zg_getfield, zg_goto, zg_i2l, zg_iadd, zg_iaload, zg_iastore, zg_icmp, zg_iconst, zg_if, zg_iinc, zg_iload, zg_imul, zg_ireturn, zg_is3, zg_istore, zg_lconst, zg_ldc2_w, zg_putfield, q10, q01, q00, ite_self, zLd_i, zLd_l, zLd_a, zInc_i, zGet_o, zGet2_s, zPut_o, zAld_i, zAll_j, zAst_i, zAsl_j, zLen_i, zLen_j, zRt_i, zRt_z, zRl2_l, zRv_n, List.getElem?_cons_zero, List.getElem?_cons_succ, List.length_cons, List.length_nil, z_set, z_set2, z_cut, List.set_cons_zero, List.set_cons_succ, Option.toList_some, Option.toList_none, List.cons_append, List.nil_append, zif, zW_ite, zfit_0, zfit_1, zfit_2, zfit_3, zisc_o, zRt_c, zRt_b, List.map_cons, List.map_nil, List.sum_cons, List.sum_nil, true_and, and_true, if_true, if_false, ite_true, ite_false, Nat.reduceLT, Nat.reduceLeDiff, Nat.reduceAdd, Nat.reduceEqDiff, eq_self, not_true_eq_false, not_false_eq_true, Nat.lt_irrefl, or_true, true_or, or_false, false_or, z_cell_lt, Value.category, ltT, ltF, leT, leF, natT, natF, iltT, iltF, ieqT, ieqF, vpT, cl_nI, q_bit, pow_cell, z_pw_eq, nI_add, nI_mul, nI_m1, nI_dn, nI_dn0, m1_lt, lg_pos, i32_irr, q_shT, ite01, ite00, updL_z, q_upd, Bool.false_eq_true, nI_l2i, jlT_0, jlF_0, jgT_0, jgF_0, jeT_0, jeF_0, jv_0, jc_0, jm_0, jM_0, ja_0, jA_0, jlT_1, jlF_1, jgT_1, jgF_1, jeT_1, jeF_1, jv_1, jc_1, jm_1, jM_1, ja_1, jA_1, jlT_2, jlF_2, jgT_2, jgF_2, jeT_2, jeF_2, jv_2, jc_2, jm_2, jM_2, ja_2, jA_2, jlT_57, jlF_57, jgT_57, jgF_57, jeT_57, jeF_57, jv_57, jc_57, jm_57, jM_57, ja_57, jA_57, M_54, S_th, c_in, in_02, c2, b01_f]
end J6
theorem cpM_0 {mt nt : Nat → Nat} {i j : Nat} : ∀ k, (cpM mt nt i j k).2.2 = 0 → (cpM mt nt i j k).1 = mt ∧ (cpM mt nt i j k).2.1 = nt := by
  intro k
  induction k with
  | zero => exact fun _ => ⟨rfl, rfl⟩
  | succ k ih =>
    unfold cpM
    split
    · exact ih
    · intro h
      exact absurd h (by show ¬ (cpM mt nt i j k).2.2 + 1 = 0; omega)
theorem ve_copy {t : cTold} {g k : Int32} (hT : oldT t) : veR t (copyO t g k).2 := by
  unfold copyO
  split
  · rename_i c
    obtain ⟨a1, a2, a3⟩ := c
    obtain ⟨j, hj, e⟩ := hasB_of hT.1 a2
    subst e
    have hn := hT.1
    have l := (cpM_ok (i := g.toNatClampNeg) (j := (nI j).toNatClampNeg) hT.2.2.1 hT.2.2.2 (by rw [nI_clamp (by omega)]; omega) t.1 (by omega)).2.2
    refine ⟨_, by omega, rfl, fun z => ?_⟩
    obtain ⟨z1, z2⟩ := cpM_0 t.1 z
    show (t.1, t.2.1, (cpM t.2.2.1 t.2.2.2.1 g.toNatClampNeg (nI j).toNatClampNeg t.1).1, (cpM t.2.2.1 t.2.2.2.1 g.toNatClampNeg (nI j).toNatClampNeg t.1).2.1, t.2.2.2.2.1, t.2.2.2.2.2 + nI (cpM t.2.2.1 t.2.2.2.1 g.toNatClampNeg (nI j).toNatClampNeg t.1).2.2) = t
    rw [z1, z2, z, show nI 0 = (0 : Int32) from rfl, Int32.add_zero]
  · exact ve_self t
theorem copyO_1 {t : cTold} {g k : Int32} : (copyO t g k).2.1 = t.1 := by
  unfold copyO
  split <;> rfl
theorem s_copies {c : Nat} {H : Nat → zE} {u : zU} (hc : c < 64) (hI : jIV c H u) (g k : Int32) : jSt c 140 229 [.int g, .int k] H u := by
  refine jIV_e hI (fun h te tO dr pa ro fi od cs ci ga r1 r2 sw th to row gu ch now tape tp pt tt ne rd rM code rc cL cR stk ask un und aS aO aW aH ac thr ins gon nO mO rO wy ah late soon yet cir bed stp oO oW win wc rn wer iK kC kep eH hA => ?_)
  subst eH
  have hA' := hA
  obtain ⟨hX, hT, hP, hR, hS, hV, hO, hC, hU, hM, hN⟩ := hA
  have hpk : pa.2.2.2.2 ≤ 15 := hP.1.1
  have hn : tO.1 ≤ 7 := hT.1.1.1
  have p := fun Q => p_copies (d := 296) (u := u) (Q := Q) (h := (mdl h th to row gu ch now tape tp pt tt ne rd rM code rc cL cR stk ask un und aS aO aW aH ac thr ins gon nO mO rO wy ah late soon yet cir bed stp oO oW win wc rn wer iK kC kep)) (te := te) (dr := dr) (ro := ro) (fi := fi) (od := od) (cs := cs) (ci := ci) (ga := ga) (r1 := r1) (r2 := r2) (sw := sw) hT.1.1 hP.1 (g := g) (k := k)
  by_cases q : hasB tO.1 g = true ∧ hasB tO.1 k = true ∧ ¬ g = k
  · obtain ⟨a1, a2, a3⟩ := q
    obtain ⟨i, hi, rfl⟩ := hasB_of hn a1
    obtain ⟨j, hj, rfl⟩ := hasB_of hn a2
    have hij : i ≠ j := fun e => a3 (by rw [e])
    obtain ⟨e1, e2⟩ := copy_eq hT.1 (i := i) (j := j) (by omega) (by omega)
    have et : cyN now tO.1 i j = ((if (itr (cpF i j) (0, now) tO.1).1 = 0 then -2 else (itr (cpF i j) (0, now) tO.1).1), (itr (cpF i j) (0, now) tO.1).2) := if_pos ⟨hi, hj, hij⟩
    refine s_chg hc hA' p (fun h Q => ?_) e2 copyO_1 (ve_copy hT.1.1)
    rw [e1, et, hP.2.1, hT.2]
    exact m_copies (d := 295) (u := u) (Q := Q) (h := h) (th := th) (to := to) (row := row) (ch := ch) (now := now) (tape := tape) (tp := tp) (pt := pt) (tt := tt) (ne := ne) (rd := rd) (rM := rM) (code := code) (rc := rc) (cL := cL) (cR := cR) (stk := stk) (ask := ask) (und := und) (aS := aS) (aO := aO) (aW := aW) (aH := aH) (ac := ac) (thr := thr) (ins := ins) (gon := gon) (nO := nO) (mO := mO) (rO := rO) (wy := wy) (ah := ah) (late := late) (soon := soon) (yet := yet) (cir := cir) (bed := bed) (stp := stp) (oO := oO) (oW := oW) (win := win) (wc := wc) (rn := rn) (wer := wer) (iK := iK) (kC := kC) (kep := kep) (n := tO.1) (k := pa.2.2.2.2) hn hpk hi hj hij
  · have e : copyO tO g k = (-1, tO) := if_neg q
    rw [e] at p
    refine s_chg hc hA' p (N := now) (fun h Q => ?_) hT.1 rfl (ve_self _)
    rw [if_pos neg_lt, if_pos neg_lt, hT.2, hP.2.1]
    refine m_copiesn (d := 295) (u := u) (Q := Q) (h := h) (th := th) (to := to) (row := row) (ch := ch) (now := now) (tape := tape) (tp := tp) (pt := pt) (tt := tt) (ne := ne) (rd := rd) (rM := rM) (code := code) (rc := rc) (cL := cL) (cR := cR) (stk := stk) (ask := ask) (und := und) (aS := aS) (aO := aO) (aW := aW) (aH := aH) (ac := ac) (thr := thr) (ins := ins) (gon := gon) (nO := nO) (mO := mO) (rO := rO) (wy := wy) (ah := ah) (late := late) (soon := soon) (yet := yet) (cir := cir) (bed := bed) (stp := stp) (oO := oO) (oW := oW) (win := win) (wc := wc) (rn := rn) (wer := wer) (iK := iK) (kC := kC) (kep := kep) (n := tO.1) (k := pa.2.2.2.2) hn hpk ?_
    cases b1 : hasB tO.1 g
    · rfl
    · cases b2 : hasB tO.1 k
      · rfl
      · by_cases b3 : g = k
        · simp [b3]
        · exact absurd ⟨b1, b2, b3⟩ q
theorem s_strict {c : Nat} {H : Nat → zE} {u : zU} (hc : c < 64) (hI : jIV c H u) (v : Int32) : jSt c 142 231 [.int v] H u := by
  refine jIV_e hI (fun h te tO dr pa ro fi od cs ci ga r1 r2 sw th to row gu ch now tape tp pt tt ne rd rM code rc cL cR stk ask un und aS aO aW aH ac thr ins gon nO mO rO wy ah late soon yet cir bed stp oO oW win wc rn wer iK kC kep eH hA => ?_)
  subst eH
  have hA' := hA
  obtain ⟨hX, hT, hP, hR, hS, hV, hO, hC, hU, hM, hN⟩ := hA
  have hpk : pa.2.2.2.2 ≤ 15 := hP.1.1
  have p := fun Q => p_strict (d := 296) (u := u) (Q := Q) (h := (mdl h th to row gu ch now tape tp pt tt ne rd rM code rc cL cR stk ask un und aS aO aW aH ac thr ins gon nO mO rO wy ah late soon yet cir bed stp oO oW win wc rn wer iK kC kep)) (te := te) (dr := dr) (ro := ro) (fi := fi) (od := od) (cs := cs) (ci := ci) (ga := ga) (r1 := r1) (r2 := r2) (sw := sw) hT.1.1 hP.1 (v := v)
  by_cases q0 : v = 0
  · subst q0
    obtain ⟨e1, e2⟩ := firm_eq hT.1 (v := 0) (by decide)
    have et : fmN now 0 = (now 56, upd now 56 0) := rfl
    refine s_chg hc hA' p (fun h Q => ?_) e2 firmO_1 ve_firm
    show zK 300 231 [.ref 54, .int 0] _ Q = Q (some (.int (firmO tO (nI 0)).1), _)
    have e1' : (firmO tO 0).1 = now 56 := e1
    rw [show firmO tO (nI 0) = firmO tO 0 from rfl, e1', et, hP.2.1, hT.2]
    exact m_strict (d := 295) (u := u) (Q := Q) (h := h) (th := th) (to := to) (row := row) (ch := ch) (now := now) (tape := tape) (tp := tp) (pt := pt) (tt := tt) (ne := ne) (rd := rd) (rM := rM) (code := code) (rc := rc) (cL := cL) (cR := cR) (stk := stk) (ask := ask) (und := und) (aS := aS) (aO := aO) (aW := aW) (aH := aH) (ac := ac) (thr := thr) (ins := ins) (gon := gon) (nO := nO) (mO := mO) (rO := rO) (wy := wy) (ah := ah) (late := late) (soon := soon) (yet := yet) (cir := cir) (bed := bed) (stp := stp) (oO := oO) (oW := oW) (win := win) (wc := wc) (rn := rn) (wer := wer) (iK := iK) (kC := kC) (kep := kep) (n := tO.1) (k := pa.2.2.2.2) (b := false) hpk
  · by_cases q1 : v = 1
    · subst q1
      obtain ⟨e1, e2⟩ := firm_eq hT.1 (v := 1) (by decide)
      have et : fmN now 1 = (now 56, upd now 56 1) := rfl
      refine s_chg hc hA' p (fun h Q => ?_) e2 firmO_1 ve_firm
      show zK 300 231 [.ref 54, .int 1] _ Q = Q (some (.int (firmO tO (nI 1)).1), _)
      have e1' : (firmO tO 1).1 = now 56 := e1
      rw [show firmO tO (nI 1) = firmO tO 1 from rfl, e1', et, hP.2.1, hT.2]
      exact m_strict (d := 295) (u := u) (Q := Q) (h := h) (th := th) (to := to) (row := row) (ch := ch) (now := now) (tape := tape) (tp := tp) (pt := pt) (tt := tt) (ne := ne) (rd := rd) (rM := rM) (code := code) (rc := rc) (cL := cL) (cR := cR) (stk := stk) (ask := ask) (und := und) (aS := aS) (aO := aO) (aW := aW) (aH := aH) (ac := ac) (thr := thr) (ins := ins) (gon := gon) (nO := nO) (mO := mO) (rO := rO) (wy := wy) (ah := ah) (late := late) (soon := soon) (yet := yet) (cir := cir) (bed := bed) (stp := stp) (oO := oO) (oW := oW) (win := win) (wc := wc) (rn := rn) (wer := wer) (iK := iK) (kC := kC) (kep := kep) (n := tO.1) (k := pa.2.2.2.2) (b := true) hpk
    · have e : firmO tO v = (-1, tO) := by unfold firmO; rw [if_neg q0, if_neg q1]
      rw [e] at p
      refine s_chg hc hA' p (N := now) (fun h Q => ?_) hT.1 rfl (ve_self _)
      rw [if_pos neg_lt, if_pos neg_lt, hP.2.1, hT.2]
      exact m_strictn (d := 295) (u := u) (Q := Q) (h := h) (th := th) (to := to) (row := row) (ch := ch) (now := now) (tape := tape) (tp := tp) (pt := pt) (tt := tt) (ne := ne) (rd := rd) (rM := rM) (code := code) (rc := rc) (cL := cL) (cR := cR) (stk := stk) (ask := ask) (und := und) (aS := aS) (aO := aO) (aW := aW) (aH := aH) (ac := ac) (thr := thr) (ins := ins) (gon := gon) (nO := nO) (mO := mO) (rO := rO) (wy := wy) (ah := ah) (late := late) (soon := soon) (yet := yet) (cir := cir) (bed := bed) (stp := stp) (oO := oO) (oW := oW) (win := win) (wc := wc) (rn := rn) (wer := wer) (iK := iK) (kC := kC) (kep := kep) (n := tO.1) (k := pa.2.2.2.2) hpk q0 q1
theorem s_end {c : Nat} {H : Nat → zE} {u : zU} (hc : c < 64) (hI : jIV c H u) (v : Int32) : jSt c 131 196 [.int v] H u := by
  refine jIV_e hI (fun h te tO dr pa ro fi od cs ci ga r1 r2 sw th to row gu ch now tape tp pt tt ne rd rM code rc cL cR stk ask un und aS aO aW aH ac thr ins gon nO mO rO wy ah late soon yet cir bed stp oO oW win wc rn wer iK kC kep eH hA => ?_)
  subst eH
  obtain ⟨hX, hT, hP, hR, hS, hV, hO, hC, hU, hM, hN⟩ := hA
  obtain ⟨hX1, rfl, rfl⟩ := hX
  have hN' := hN.1
  obtain ⟨k, sg⟩ := te
  have hk : k ≤ 80 := hX1.1
  have p := fun Q => p_end (d := 298) (u := u) (Q := Q) (h := (mdl h th to row gu ch now (fun i => nI (sg i)) (nI k) pt tt ne rd rM code rc cL cR stk ask un und aS aO aW aH ac thr ins gon nO mO rO wy ah late soon yet cir bed stp oO oW win wc rn wer iK kC kep)) (te := (k, sg)) (tO := tO) (dr := dr) (pa := pa) (ro := ro) (fi := fi) (od := od) (cs := cs) (ci := ci) (ga := ga) (r1 := r1) (r2 := r2) (sw := sw) hX1 (v := v)
  by_cases q : ¬ v < 0 ∧ ¬ nI k < v
  · obtain ⟨w, hw, rfl⟩ := i_rng (b := k) (by omega) q.1 q.2
    have e : endO (k, sg) (nI w) = (1, (w, sg)) := by
      unfold endO
      rw [if_pos q, nI_clamp (by omega)]
    rw [e] at p
    refine ⟨_, _, _, _, p, fun Q => ?_, h, (w, sg), tO, dr, pa, ro, fi, od, cs, ci, ga, r1, r2, sw, 0, to, row, gu, ch, now, (fun i => nI (sg i)), nI w, pt, tt, ne, rd, rM, code, rc, cL, cR, stk, ask, un, und, aS, aO, aW, aH, ac, thr, ins, gon, nO, mO, rO, wy, ah, late, soon, yet, cir, bed, stp, oO, oW, win, wc, rn, wer, iK, kC, kep, (wm_comm hN').symm, ⟨⟨by show w ≤ 80; omega, hX1.2⟩, rfl, rfl⟩, hT, jP_up hP, hR, hS, jV_up hc hV (ve_self _), hO, hC, hU, hM, jN_up hN⟩
    rw [wm_comm hN']
    exact m_end (d := 298) (u := u) (Q := Q) (h := (wld h (w, sg) tO dr pa ro fi od cs ci ga r1 r2 sw)) (th := th) (to := to) (row := row) (gu := gu) (ch := ch) (now := now) (tape := (fun i => nI (sg i))) (pt := pt) (tt := tt) (ne := ne) (rd := rd) (rM := rM) (code := code) (rc := rc) (cL := cL) (cR := cR) (stk := stk) (ask := ask) (un := un) (und := und) (aS := aS) (aO := aO) (aW := aW) (aH := aH) (ac := ac) (thr := thr) (ins := ins) (gon := gon) (nO := nO) (mO := mO) (rO := rO) (wy := wy) (ah := ah) (late := late) (soon := soon) (yet := yet) (cir := cir) (bed := bed) (stp := stp) (oO := oO) (oW := oW) (win := win) (wc := wc) (rn := rn) (wer := wer) (iK := iK) (kC := kC) (kep := kep) (k := k) hk hw
  · have e : endO (k, sg) v = (0, (k, sg)) := if_neg q
    rw [e] at p
    refine ⟨_, _, _, _, p, fun Q => ?_, h, (k, sg), tO, dr, pa, ro, fi, od, cs, ci, ga, r1, r2, sw, 0, to, row, gu, ch, now, (fun i => nI (sg i)), nI k, pt, tt, ne, rd, rM, code, rc, cL, cR, stk, ask, un, und, aS, aO, aW, aH, ac, thr, ins, gon, nO, mO, rO, wy, ah, late, soon, yet, cir, bed, stp, oO, oW, win, wc, rn, wer, iK, kC, kep, (wm_comm hN').symm, ⟨hX1, rfl, rfl⟩, hT, jP_up hP, hR, hS, jV_up hc hV (ve_self _), hO, hC, hU, hM, jN_up hN⟩
    rw [wm_comm hN']
    exact m_end0 (d := 298) (u := u) (Q := Q) (h := (wld h (k, sg) tO dr pa ro fi od cs ci ga r1 r2 sw)) (th := th) (to := to) (row := row) (gu := gu) (ch := ch) (now := now) (tape := (fun i => nI (sg i))) (pt := pt) (tt := tt) (ne := ne) (rd := rd) (rM := rM) (code := code) (rc := rc) (cL := cL) (cR := cR) (stk := stk) (ask := ask) (un := un) (und := und) (aS := aS) (aO := aO) (aW := aW) (aH := aH) (ac := ac) (thr := thr) (ins := ins) (gon := gon) (nO := nO) (mO := mO) (rO := rO) (wy := wy) (ah := ah) (late := late) (soon := soon) (yet := yet) (cir := cir) (bed := bed) (stp := stp) (oO := oO) (oW := oW) (win := win) (wc := wc) (rn := rn) (wer := wer) (iK := iK) (kC := kC) (kep := kep) (k := k) hk q

