/-! step: years -/
theorem s_years {c : Nat} {H : Nat → zE} {u : zU} (hc : c < 64) (hI : jIV c H u) (s m : Int32) : jSt c 171 287 [.int s, .int m] H u := by
  refine jIV_e hI (fun h te tO dr pa ro fi od cs ci ga r1 r2 sw th to row gu ch now tape tp pt tt ne rd rM code rc cL cR stk ask un und aS aO aW aH ac thr ins gon nO mO rO wy ah late soon yet cir bed stp oO oW win wc rn wer iK kC kep eH hA => ?_)
  subst eH
  obtain ⟨hX, hT, hP, hR, hS, hV, hO, hC, hU, hM, hN⟩ := hA
  have hN' := hN.1
  obtain ⟨rk, rf⟩ := ro
  obtain ⟨wn, sd⟩ := ga
  have hn : tO.1 ≤ 7 := hT.1.1.1
  obtain ⟨rfl, rfl, rfl, ⟨nN, rfl⟩, ⟨mN, rfl⟩, ⟨rN, rfl⟩, m7, m8, m9, m10, m11⟩ := hM
  have g := hT.2
  subst g
  by_cases q : m < 1 ∨ 60 < m
  · refine ⟨_, _, _, _, fun Q => p_years0 (d := 296) (u := u) (Q := Q) (h := (mdl h th to row (nI tO.1) ch now tape tp pt tt ne rd rM code rc cL cR stk ask un und aS aO aW aH ac (fun i => nI (tV i)) (fun s => nI (iV s)) (fun s => nI (gV s)) (fun i => nI (nN i)) (fun i => nI (mN i)) (fun i => nI (rN i)) wy ah late soon yet cir bed stp oO oW win wc rn wer iK kC kep)) (te := te) (tO := tO) (dr := dr) (pa := pa) (rk := rk) (rf := rf) (fi := fi) (od := od) (cs := cs) (ci := ci) (wn := wn) (sd := sd) (r1 := r1) (r2 := r2) (sw := sw) q, fun Q => ?_, h, te, tO, dr, pa, (rk, rf), fi, od, cs, ci, (wn, sd), r1, r2, sw, 0, to, row, (nI tO.1), ch, now, tape, tp, pt, tt, ne, rd, rM, code, rc, cL, cR, stk, ask, un, und, aS, aO, aW, aH, ac, (fun i => nI (tV i)), (fun s => nI (iV s)), (fun s => nI (gV s)), (fun i => nI (nN i)), (fun i => nI (mN i)), (fun i => nI (rN i)), wy, ah, late, soon, yet, cir, bed, stp, oO, oW, win, wc, rn, wer, iK, kC, kep, (wm_comm hN').symm, hX, hT, jP_up hP, hR, hS, jV_up hc hV (ve_self _), hO, hC, hU, ⟨rfl, rfl, rfl, ⟨_, rfl⟩, ⟨_, rfl⟩, ⟨_, rfl⟩, m7, m8, m9, m10, m11⟩, jN_up hN⟩
    rw [wm_comm hN']
    exact m_yearsn (d := 295) (u := u) (Q := Q) (h := (wld h te tO dr pa (rk, rf) fi od cs ci (wn, sd) r1 r2 sw)) (th := th) (to := to) (row := row) (ch := ch) (now := now) (tape := tape) (tp := tp) (pt := pt) (tt := tt) (ne := ne) (rd := rd) (rM := rM) (code := code) (rc := rc) (cL := cL) (cR := cR) (stk := stk) (ask := ask) (un := un) (und := und) (aS := aS) (aO := aO) (aW := aW) (aH := aH) (ac := ac) (wy := wy) (ah := ah) (late := late) (soon := soon) (yet := yet) (cir := cir) (bed := bed) (stp := stp) (oO := oO) (oW := oW) (win := win) (wc := wc) (rn := rn) (wer := wer) (iK := iK) (kC := kC) (kep := kep) (n := tO.1) (tN := tV) (iN := iV) (gN := gV) (nN := nN) (mN := mN) (rN := rN) q
  · obtain ⟨m', hm', rfl⟩ := i_rng (v := m) (b := 60) (by decide) (fun z => q (Or.inl (Int32.lt_trans z (by decide)))) (fun z => q (Or.inr z))
    have m1 : 1 ≤ m' := by
      have : ¬ nI m' < 1 := fun z => q (Or.inl z)
      rw [show (1 : Int32) = nI 1 from rfl, nI_ult (by omega) (by decide)] at this
      omega
    have p := fun Q => p_years (d := 296) (u := u) (Q := Q) (h := (mdl h th to row (nI tO.1) ch now tape tp pt tt ne rd rM code rc cL cR stk ask un und aS aO aW aH ac (fun i => nI (tV i)) (fun s => nI (iV s)) (fun s => nI (gV s)) (fun i => nI (nN i)) (fun i => nI (mN i)) (fun i => nI (rN i)) wy ah late soon yet cir bed stp oO oW win wc rn wer iK kC kep)) (te := te) (tO := tO) (dr := dr) (pa := pa) (rk := rk) (rf := rf) (fi := fi) (od := od) (cs := cs) (ci := ci) (wn := wn) (sd := sd) (r1 := r1) (r2 := r2) (sw := sw) hT.1.1 hS.1 hS.2.1 hR.1 (s := s) m1 hm'
    have hL := like_ok hT.1.1 hS.1 (x := dr.2.2.2.2.2 + 1)
    have rel0 : relT (tO.1, pre tO.2.1 dr.2.1 7, pre tO.2.2.1 dr.2.2.1 7, pre tO.2.2.2.1 dr.2.2.2.1 7, tO.2.2.2.2.1, dr.2.2.2.2.2 + 1) now := by
      have pr : ∀ (f g : Nat → Nat) i, i < tO.1 → pre f g 7 i = f i := fun f g i hi => if_pos (by omega)
      exact ⟨hL, gd_cg hT.1.2.1 (fun i hi => pr _ _ i hi) (fun i hi => pr _ _ i hi), now_cg2 hT.1.2.2 (fun i hi => pr _ _ i hi) (fun i hi => pr _ _ i hi) (fun i hi => pr _ _ i hi)⟩
    have ey : yrsO tO dr fi s (nI m') = itr (yrF tO.1) ((tO.1, pre tO.2.1 dr.2.1 7, pre tO.2.2.1 dr.2.2.1 7, pre tO.2.2.2.1 dr.2.2.2.1 7, tO.2.2.2.2.1, dr.2.2.2.2.2 + 1), s, fi, 0) m' := by
      unfold yrsO
      rw [nI_clamp (by omega)]
    have hyI := yrF_I (n := tO.1) (q := ((tO.1, pre tO.2.1 dr.2.1 7, pre tO.2.2.1 dr.2.2.1 7, pre tO.2.2.2.1 dr.2.2.2.1 7, tO.2.2.2.2.1, dr.2.2.2.2.2 + 1), s, fi, 0)) ⟨rfl, hL, hS.2.1⟩ (N := m') m' (Nat.le_refl _)
    obtain ⟨y1, y2, y3, y4⟩ := years_R (n := tO.1) (now := now) (q := ((tO.1, pre tO.2.1 dr.2.1 7, pre tO.2.2.1 dr.2.2.1 7, pre tO.2.2.2.1 dr.2.2.2.1 7, tO.2.2.2.2.1, dr.2.2.2.2.2 + 1), s, fi, 0)) (s := s) hn rfl rel0 rfl rfl m'
    rw [← ey] at hyI y1 y2 y3 y4
    have cle := ysF_le (y1 := yD1 tO.1) (y2 := yD2 tO.1) (cA := cAll tO.1) (q := (s, now, 0)) m'
    obtain ⟨t, mt⟩ := m_years (u := u) (h := ((wld h te tO (yrsO tO dr fi s (nI m')).1 pa (2, vp_updL (vp_updL rf 0 (lN (psum tO.1 (yrsO tO dr fi s (nI m')).1.2.2.1 (yrsO tO dr fi s (nI m')).1.2.2.2.1 1 tO.1 / 2))) 1 (yrsO tO dr fi s (nI m')).2.2.2.toInt64) (yrsO tO dr fi s (nI m')).2.2.1 od cs ci (wn, (yrsO tO dr fi s (nI m')).2.1) r1 r2 sw))) (th := th) (to := to) (row := row) (ch := ch) (now := now) (tape := tape) (tp := tp) (pt := pt) (tt := tt) (ne := ne) (rd := rd) (rM := rM) (code := code) (rc := rc) (cL := cL) (cR := cR) (stk := stk) (ask := ask) (un := un) (und := und) (aS := aS) (aO := aO) (aW := aW) (aH := aH) (ac := ac) (wy := wy) (ah := ah) (late := late) (soon := soon) (yet := yet) (cir := cir) (bed := bed) (stp := stp) (oO := oO) (oW := oW) (win := win) (wc := wc) (rn := rn) (wer := wer) (iK := iK) (kC := kC) (kep := kep) (n := tO.1) (tN := tV) (iN := iV) (gN := gV) (nN := nN) (mN := mN) (rN := rN) (tb_K hn) (tb_B hn) (cAll_h hn) (s := s) (m := m') m1 hm' rfl
    generalize itr (ysF (yD1 tO.1) (yD2 tO.1) (cAll tO.1)) (s, now, 0) m' = R at *
    generalize yrsO tO dr fi s (nI m') = Y at *
    have g1 := y2.2.1
    have g2 := y2.2.2
    rw [y1] at g1 g2
    have ps2 := ps_eq g1 g2 (v := 2) (by decide) tO.1 (Nat.le_refl _)
    have ps1 := ps_eq g1 g2 (v := 1) (by decide) tO.1 (Nat.le_refl _)
    have e2 : itr (ptF R.2.1 tO.1 2) 0 tO.1 = psum tO.1 Y.1.2.2.1 Y.1.2.2.2.1 2 tO.1 := ps2
    have e1 : itr (ptF R.2.1 tO.1 1) 0 tO.1 = psum tO.1 Y.1.2.2.1 Y.1.2.2.2.1 1 tO.1 := ps1
    have e4 : Y.2.2.2.toInt64 = lN R.2.2 := by
      rw [y4, nI_l]
      have : R.2.2 ≤ 0 + m' := cle
      omega
    rw [e2, e1] at mt
    rw [e4] at p mt
    refine ⟨_, _, _, _, p, fun Q => ?_, h, te, tO, Y.1, pa, (2, vp_updL (vp_updL rf 0 (lN (psum tO.1 Y.1.2.2.1 Y.1.2.2.2.1 1 tO.1 / 2))) 1 (lN R.2.2)), Y.2.2.1, od, cs, ci, (wn, Y.2.1), r1, r2, sw, 0, 2, (vp_updL (vp_updL row 0 (lN (psum tO.1 Y.1.2.2.1 Y.1.2.2.2.1 1 tO.1 / 2))) 1 (lN R.2.2)), (nI tO.1), ch, (itr (cpC (itr (cpC now) wer 57)) R.2.1 57), tape, tp, pt, tt, ne, rd, rM, code, rc, cL, cR, stk, ask, un, und, aS, aO, aW, aH, ac, (fun i => nI (tV i)), (fun s => nI (iV s)), (fun s => nI (gV s)), (fun i => nI (t.1.1 i)), (fun i => nI (t.1.2.1 i)), (fun i => nI (t.1.2.2 i)), t.2, ah, late, soon, yet, cir, bed, stp, oO, oW, win, wc, R.1, (itr (cpC now) wer 57), iK, kC, kep, (wm_comm hN').symm, hX, ⟨⟨hT.1.1, hT.1.2.1, now_cg hn hT.1.2.2 (fun i hi => by rw [cpC_at, if_pos hi, cpC_at, if_pos hi])⟩, rfl⟩, jP_up hP, ⟨by show 2 ≤ 14; decide, rowM_2⟩, ⟨hyI.2.1, hyI.2.2, hS.2.2⟩, jV_up hc hV (ve_self _), hO, hC, hU, ⟨rfl, rfl, rfl, ⟨_, rfl⟩, ⟨_, rfl⟩, ⟨_, rfl⟩, m7, m8, m9, m10, m11⟩, jN_up hN⟩
    rw [wm_comm hN']
    exact mt 295 Q

