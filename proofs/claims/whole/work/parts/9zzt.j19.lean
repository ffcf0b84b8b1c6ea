/-! step: evenings -/
theorem ev_bits : ∀ n, n < 8 → ∀ i, i < 32 → n ≤ i → ((nI (2 ^ n - 1) ^^^ (-1)) : Int32).toBitVec.getLsbD i = true := by decide +kernel
theorem ev_small : ∀ n, n < 8 → ∀ s, s < 2 ^ n → (nI s &&& (nI (2 ^ n - 1) ^^^ (-1)) : Int32) = 0 := by decide +kernel
theorem ev_of {n : Nat} (hn : n ≤ 7) {x : Int32} (hx : x &&& (nI (2 ^ n - 1) ^^^ (-1)) = 0) : ∃ s, s < 2 ^ n ∧ x = nI s := by
  refine ⟨x.toBitVec.toNat, ?_, ?_⟩
  · refine Nat.lt_pow_two_of_testBit _ (fun i hi => ?_)
    by_cases c : i < 32
    · have e : (x &&& (nI (2 ^ n - 1) ^^^ (-1)) : Int32).toBitVec.getLsbD i = false := by rw [hx]; simp
      rw [Int32.toBitVec_and, BitVec.getLsbD_and, ev_bits n (by omega) i c hi, Bool.and_true] at e
      exact e
    · exact Nat.testBit_lt_two_pow (Nat.lt_of_lt_of_le x.toBitVec.isLt (Nat.pow_le_pow_right (by decide) (by omega)))
  · apply Int32.toBitVec_inj.mp
    show x.toBitVec = BitVec.ofNat 32 x.toBitVec.toNat
    simp
section J19
variable {h : Nat → zE} {th : Int32} {to : Int32} {row : Nat → Int64} {gu : Int32} {ch : Int32} {now : Nat → Int32} {tape : Nat → Int32} {tp : Int32} {pt : Int32} {tt : Int32} {ne : Int32} {rd : Nat → Int32} {rM : Int32} {code : Nat → Int32} {rc : Nat → Int32} {cL : Int32} {cR : Int32} {stk : Nat → Int32} {ask : Nat → Int32} {un : Int32} {und : Nat → Int32} {aS : Nat → Int32} {aO : Nat → Int32} {aW : Nat → Int32} {aH : Nat → Int32} {ac : Int32} {thr : Nat → Int32} {ins : Nat → Int32} {gon : Nat → Int32} {nO : Nat → Int32} {mO : Nat → Int32} {rO : Nat → Int32} {wy : Nat → Int64} {ah : Nat → Int64} {late : Nat → Int32} {soon : Nat → Int32} {yet : Nat → Int32} {cir : Nat → Int32} {bed : Nat → Int32} {stp : Nat → Int32} {oO : Nat → Int32} {oW : Nat → Int32} {win : Nat → Int32} {wc : Nat → Int32} {rn : Int32} {wer : Nat → Int32} {iK : Nat → Int32} {kC : Nat → Int32} {kep : Nat → Int32}
variable {d : Nat} {u : zU} {Q : zR → Prop} {H : zH} {n k : Nat}
theorem m_evenn (hn : n ≤ 7) {x : Int32} (hx : ¬ x &&& (nI (2 ^ n - 1) ^^^ (-1)) = 0) : zK (d + 66) 255 [.ref 54, .int x] ((mdl h th to row (nI n) ch now tape tp pt tt ne rd rM code rc cL cR stk ask un und aS aO aW aH ac thr ins gon nO mO rO wy ah late soon yet cir bed stp oO oW win wc rn wer iK kC kep), u) Q = Q (some (.int (-1)), ((mdl h 0 to row (nI n) ch now tape tp pt tt ne rd rM code rc cL cR stk ask un und aS aO aW aH ac thr ins gon nO mO rO wy ah late soon yet cir bed stp oO oW win wc rn wer iK kC kep), u)) := by
  have p2 := p2_le n (show n < 8 by omega)
  have ia : inB x.toInt64 0 (lN (2 ^ n - 1)) = false := by
    rw [in_0L (by omega)]
    by_cases b1 : x < 0
    · rw [decide_eq_true b1]; rfl
    · by_cases b2 : nI (2 ^ n - 1) < x
      · rw [decide_eq_true b2, Bool.not_true, Bool.and_false]
      · exfalso
        refine hx ?_
        obtain ⟨s, hs, rfl⟩ : ∃ s, s < 2 ^ 31 ∧ x = nI s := nI_of b1
        have p0 := Nat.two_pow_pos n
        rw [nI_ult (by omega) hs] at b2
        exact ev_small n (by omega) s (by omega)
  refine zK_of (k := 66) (by omega) ?_
  refine zK_in (M := MX11_evening) rfl (Nat.le_of_ble_eq_true rfl) ?_
  show zW 65 MX11_evening 0 ([.ref 54, .int x, .null, .null, .null, .null], [], ((mdl h th to row (nI n) ch now tape tp pt tt ne rd rM code rc cL cR stk ask un und aS aO aW aH ac thr ins gon nO mO rO wy ah late soon yet cir bed stp oO oW win wc rn wer iK kC kep), u)) _
  simp (disch := first | assumption | omega | decide) only [eX11_evening_0, eX11_evening_1, eX11_evening_2, eX11_evening_5, eX11_evening_6, eX11_evening_7, eX11_evening_8, eX11_evening_9, eX11_evening_12, eX11_evening_13, eX11_evening_16, eX11_evening_19, eX11_evening_20, eX11_evening_21, eX11_evening_22, eX11_evening_25, eX11_evening_26, eX11_evening_27, eX11_evening_28, eX11_evening_29, eX11_evening_32, eX11_evening_34, eX11_evening_35, eX11_evening_36, eX11_evening_37, eX11_evening_39, eX11_evening_40, eX11_evening_43, eX11_evening_44, eX11_evening_46, eX11_evening_47, eX11_evening_49, eX11_evening_50, eX11_evening_53, eX11_evening_55, eX11_evening_56, eX11_evening_57, eX11_evening_60, eX11_evening_61, eX11_evening_64, eX11_evening_65, eX11_evening_68, rX11_evening, zg_aload, zg_bipush, zg_goto, zg_i2l, zg_iconst, zg_if, zg_iload, zg_ireturn, zg_is1, zg_is3, zg_iv0, zg_iv2, zg_lcmp, zg_lconst, zg_lload, zg_lstore, zg_lsub, zg_putfield, q10, q01, q00, ite_self, zLd_i, zLd_l, zLd_a, zInc_i, zGet_o, zGet2_s, zPut_o, zAld_i, zAll_j, zAst_i, zAsl_j, zLen_i, zLen_j, zRt_i, zRt_z, zRl2_l, zRv_n, List.getElem?_cons_zero, List.getElem?_cons_succ, List.length_cons, List.length_nil, z_set, z_set2, z_cut, List.set_cons_zero, List.set_cons_succ, Option.toList_some, Option.toList_none, List.cons_append, List.nil_append, zif, zW_ite, zfit_0, zfit_1, zfit_2, zfit_3, zisc_o, zRt_c, zRt_b, List.map_cons, List.map_nil, List.sum_cons, List.sum_nil, true_and, and_true, if_true, if_false, ite_true, ite_false, Nat.reduceLT, Nat.reduceLeDiff, Nat.reduceAdd, Nat.reduceEqDiff, eq_self, not_true_eq_false, not_false_eq_true, Nat.lt_irrefl, or_true, true_or, or_false, false_or, z_cell_lt, Value.category, ltT, ltF, leT, leF, natT, natF, iltT, iltF, ieqT, ieqF, vpT, cl_nI, q_bit, pow_cell, z_pw_eq, nI_add, nI_mul, nI_m1, nI_dn, nI_dn0, m1_lt, lg_pos, i32_irr, q_shT, ite01, ite00, updL_z, q_upd, Bool.false_eq_true, nI_l2i, jlT_0, jlF_0, jgT_0, jgF_0, jeT_0, jeF_0, jv_0, jc_0, jm_0, jM_0, ja_0, jA_0, jlT_1, jlF_1, jgT_1, jgF_1, jeT_1, jeF_1, jv_1, jc_1, jm_1, jM_1, ja_1, jA_1, jlT_2, jlF_2, jgT_2, jgF_2, jeT_2, jeF_2, jv_2, jc_2, jm_2, jM_2, ja_2, jA_2, jlT_7, jlF_7, jgT_7, jgF_7, jeT_7, jeF_7, jv_7, jc_7, jm_7, jM_7, ja_7, jA_7, M_54, S_th, c_mall hn, c_in, ia, b01_f]
end J19
theorem s_even {c : Nat} {H : Nat → zE} {u : zU} (hc : c < 64) (hI : jIV c H u) (x : Int32) : jSt c 154 255 [.int x] H u := by
  refine jIV_e hI (fun h te tO dr pa ro fi od cs ci ga r1 r2 sw th to row gu ch now tape tp pt tt ne rd rM code rc cL cR stk ask un und aS aO aW aH ac thr ins gon nO mO rO wy ah late soon yet cir bed stp oO oW win wc rn wer iK kC kep eH hA => ?_)
  subst eH
  have hA' := hA
  obtain ⟨hX, hT, hP, hR, hS, hV, hO, hC, hU, hM, hN⟩ := hA
  have hN' := hN.1
  obtain ⟨rk, rf⟩ := ro
  obtain ⟨n, rm, mt, nt, fm, vr⟩ := tO
  have hn : n ≤ 7 := hT.1.1.1
  have g : gu = nI n := hT.2
  subst g
  obtain ⟨rfl, rfl, rfl, ⟨nN, rfl⟩, ⟨mN, rfl⟩, ⟨rN, rfl⟩, m7, m8, m9, m10, m11⟩ := hM
  obtain ⟨h', k, len, m, A, B, C, op, tl, u', tot, ⟨kW, kT, kL, kG, kA, k2, kB, kE, kM⟩, nb, nV⟩ := jTot (h := h) (te := te) (tO := (n, rm, mt, nt, fm, vr)) (dr := dr) (pa := pa) (ro := (rk, rf)) (fi := fi) (od := od) (cs := cs) (ci := ci) (ga := ga) (r1 := r1) (r2 := r2) (sw := sw) (th := th) (to := to) (row := row) (gu := (nI n)) (ch := ch) (now := now) (tape := tape) (tp := tp) (pt := pt) (tt := tt) (ne := ne) (rd := rd) (rM := rM) (code := code) (rc := rc) (cL := cL) (cR := cR) (stk := stk) (ask := ask) (un := un) (und := und) (aS := aS) (aO := aO) (aW := aW) (aH := aH) (ac := ac) (thr := (fun i => nI (tV i))) (ins := (fun s => nI (iV s))) (gon := (fun s => nI (gV s))) (nO := (fun i => nI (nN i))) (mO := (fun i => nI (mN i))) (rO := (fun i => nI (rN i))) (wy := wy) (ah := ah) (late := late) (soon := soon) (yet := yet) (cir := cir) (bed := bed) (stp := stp) (oO := oO) (oW := oW) (win := win) (wc := wc) (rn := rn) (wer := wer) (iK := iK) (kC := kC) (kep := kep) hc hT hV hO hN
  have p3 := p3_pos n
  have ew := fun s hs => md_T (now := now) hn (nN, mN, rN) wy s hs
  have ea := fun s hs => ah_T (nN := (ruV now n (nN, mN, rN)).1) (mN := (ruV now n (nN, mN, rN)).2.1) (rN := (ruV now n (nN, mN, rN)).2.2) (tb_dig hn) hn ah s hs
  have eB0 : B 1 0 = lN (mTab now n 0) := by rw [kB 0 p3, kE]
  have ew0 := ew 0 p3
  have l31 : mTab now n 0 < 2147483648 := by omega
  by_cases q : x &&& (nI (2 ^ n - 1) ^^^ (-1)) = 0
  · obtain ⟨a, ha, rfl⟩ := ev_of hn q
    by_cases z : mTab now n 0 = 0
    · have bz : B 1 0 = 0 := by rw [eB0, z]; rfl
      have wz : (wyV iV gV (ruV now n (nN, mN, rN)) n 7 (-1) wy) 0 = 0 := by rw [ew0, z]; rfl
      have p := fun Q => p_even0 (d := 295) (Q := Q) (te := te) (dr := dr) (pa := pa) (rk := rk) (rf := rf) (fi := fi) (cs := cs) (ci := ci) (ga := ga) (r1 := r1) (r2 := r2) (sw := sw) (n := n) (rm := rm) (mt := mt) (nt := nt) (fm := fm) (vr := vr) tot hN'.1 hT.1.1 q bz
      exact s_ord (nN := (ruV now n (nN, mN, rN)).1) (mN := (ruV now n (nN, mN, rN)).2.1) (rN := (ruV now n (nN, mN, rN)).2.2) (wy' := (wyV iV gV (ruV now n (nN, mN, rN)) n 7 (-1) wy)) (ah' := ah) hc hA' p (fun h Q => m_even0 (d := 234) (u := u') (Q := Q) (h := h) (th := th) (to := to) (row := row) (ch := ch) (now := now) (tape := tape) (tp := tp) (pt := pt) (tt := tt) (ne := ne) (rd := rd) (rM := rM) (code := code) (rc := rc) (cL := cL) (cR := cR) (stk := stk) (ask := ask) (un := un) (und := und) (aS := aS) (aO := aO) (aW := aW) (aH := aH) (ac := ac) (wy := wy) (ah := ah) (late := late) (soon := soon) (yet := yet) (cir := cir) (bed := bed) (stp := stp) (oO := oO) (oW := oW) (win := win) (wc := wc) (rn := rn) (wer := wer) (iK := iK) (kC := kC) (kep := kep) (n := n) (tN := tV) (iN := iV) (gN := gV) (nN := nN) (mN := mN) (rN := rN) (tb_K hn) (tb_B hn _ _ _) ha wz) hR (jO_mk kW kT rfl kL) nV nb
    · have y0 : 0 < mTab now n 0 := by omega
      have qr := fun s i hi => qM_ru (now := now) (n := n) (nN, mN, rN) (s := s) (i := i) hi
      have T := k2
      obtain ⟨t1, t2, t3, t4, t5, t6, t7⟩ := T
      have hI : ∀ s, s < 3 ^ n → A 0 s = iV s := fun s hs => (dig_eq kA.2.2 (tb_dig hn) kA.1 kA.2.1 iV_lt gV_lt hs).1
      have tl0 := tabR_le (ok := fun s => decide (pop (iV s) ≤ 7 ∧ ¬ nI (iV s) = nI a)) t4 t6 0 p3
      generalize eT : tabR n (qM now n) (fun s => decide (pop (iV s) ≤ 7 ∧ ¬ nI (iV s) = nI a)) 0 = TB at *
      have e1 : wwG A (B 1) n (3 ^ n - 1) 7 (nI a) (3 ^ n - 1 + 1) (B 2) 0 = lN TB := by
        rw [show 3 ^ n - 1 + 1 = 3 ^ n by omega, ww_T k2 kB (B 2) 0 p3 t2, ← eT]
        exact congrArg lN (tabR_cg t4 (fun _ _ _ _ => rfl) (fun s hs => by rw [hI s hs]) 0 p3)
      have e2 : wyV iV gV (ruV now n (nN, mN, rN)) n 7 (nI a) (wyV iV gV (ruV now n (nN, mN, rN)) n 7 (-1) wy) 0 = lN TB := by
        refine (wyR_T (nN := (ruV now n (nN, mN, rN)).1) (mN := (ruV now n (nN, mN, rN)).2.1) (rN := (ruV now n (nN, mN, rN)).2.2) (tb_dig hn) hn (ca := 7) (bu := nI a) (wyV iV gV (ruV now n (nN, mN, rN)) n 7 (-1) wy) 0 p3).trans ?_
        rw [← eT]
        exact congrArg lN (tabR_cg (q_ok (tb_dig hn) hn) (fun s i hs hi => qr s i hi) (fun s hs => rfl) 0 p3)
      have e3 : lN (mTab now n 0) - lN TB = lN (mTab now n 0 - TB) := lN_sub' tl0
      have p := fun Q => p_even (d := 295) (Q := Q) (te := te) (dr := dr) (pa := pa) (rk := rk) (rf := rf) (fi := fi) (cs := cs) (ci := ci) (ga := ga) (r1 := r1) (r2 := r2) (sw := sw) (n := n) (rm := rm) (mt := mt) (nt := nt) (fm := fm) (vr := vr) tot hN'.1 hT.1.1 nb.1.1 kG rfl hR.1 q (show mTab now n 0 - TB < 2147483648 by omega) l31 y0 eB0 (by rw [e1, e3])
      exact s_ord (nN := (ruV now n (nN, mN, rN)).1) (mN := (ruV now n (nN, mN, rN)).2.1) (rN := (ruV now n (nN, mN, rN)).2.2) (ah' := ah) hc hA' p (fun h Q => m_even (d := 234) (u := u') (Q := Q) (h := h) (th := th) (to := to) (row := row) (ch := ch) (now := now) (tape := tape) (tp := tp) (pt := pt) (tt := tt) (ne := ne) (rd := rd) (rM := rM) (code := code) (rc := rc) (cL := cL) (cR := cR) (stk := stk) (ask := ask) (un := un) (und := und) (aS := aS) (aO := aO) (aW := aW) (aH := aH) (ac := ac) (wy := wy) (ah := ah) (late := late) (soon := soon) (yet := yet) (cir := cir) (bed := bed) (stp := stp) (oO := oO) (oW := oW) (win := win) (wc := wc) (rn := rn) (wer := wer) (iK := iK) (kC := kC) (kep := kep) (n := n) (tN := tV) (iN := iV) (gN := gV) (nN := nN) (mN := mN) (rN := rN) (tb_K hn) (tb_B hn _ _ _) ha (show mTab now n 0 - TB < 2147483648 by omega) l31 y0 ew0 (by rw [e2, e3])) ⟨by show 2 ≤ 14; decide, rowM_2⟩ (jO_mk kW kT rfl kL) nV nb
  · exact s_row hc hA' (fun Q => q_evenn (d := 295) (Q := Q) hT.1.1 q) (fun h Q => m_evenn (d := 234) (u := u) (Q := Q) (h := h) (th := th) (to := to) (row := row) (ch := ch) (now := now) (tape := tape) (tp := tp) (pt := pt) (tt := tt) (ne := ne) (rd := rd) (rM := rM) (code := code) (rc := rc) (cL := cL) (cR := cR) (stk := stk) (ask := ask) (un := un) (und := und) (aS := aS) (aO := aO) (aW := aW) (aH := aH) (ac := ac) (thr := (fun i => nI (tV i))) (ins := (fun s => nI (iV s))) (gon := (fun s => nI (gV s))) (nO := (fun i => nI (nN i))) (mO := (fun i => nI (mN i))) (rO := (fun i => nI (rN i))) (wy := wy) (ah := ah) (late := late) (soon := soon) (yet := yet) (cir := cir) (bed := bed) (stp := stp) (oO := oO) (oW := oW) (win := win) (wc := wc) (rn := rn) (wer := wer) (iK := iK) (kC := kC) (kep := kep) (n := n) hn q) hR

