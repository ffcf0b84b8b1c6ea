/-! steps: rooms, who hears, who alone, the clash, years -/
theorem s_rooms {c : Nat} {H : Nat → zE} {u : zU} (hc : c < 64) (hI : jIV c H u) : jSt c 163 276 [] H u := by
  refine jIV_e hI (fun h te tO dr pa ro fi od cs ci ga r1 r2 sw th to row gu ch now tape tp pt tt ne rd rM code rc cL cR stk ask un und aS aO aW aH ac thr ins gon nO mO rO wy ah late soon yet cir bed stp oO oW win wc rn wer iK kC kep eH hA => ?_)
  subst eH
  obtain ⟨hX, hT, hP, hR, hS, hV, hO, hC, hU, hM, hN⟩ := hA
  have hN' := hN.1
  obtain ⟨rk, rf⟩ := ro
  obtain ⟨n, rm, mt, nt, fm, vr⟩ := tO
  obtain ⟨tu, be⟩ := ci
  have hn : n ≤ 7 := hT.1.1.1
  have g : gu = nI n := hT.2
  subst g
  obtain ⟨m1, m2, m3, m4, m5, m6, m7, ⟨cc, m8, m8'⟩, m9, m10, m11⟩ := hM
  subst m8
  have p := fun Q => p_rooms (d := 289) (u := u) (Q := Q) (h := (mdl h th to row (nI n) ch now tape tp pt tt ne rd rM code rc cL cR stk ask un und aS aO aW aH ac thr ins gon nO mO rO wy ah late soon yet cir (fun i => nI (cc i)) stp oO oW win wc rn wer iK kC kep)) (te := te) (dr := dr) (pa := pa) (rk := rk) (rf := rf) (fi := fi) (od := od) (cs := cs) (tu := tu) (be := be) (ga := ga) (r1 := r1) (r2 := r2) (sw := sw) hT.1.1 hR.1
  obtain ⟨e1, e2, e3, e4⟩ := rooms_eq hT.1.2.1 hT.1.2.2 tu cc
  have m := fun h Q => m_rooms (d := 234) (u := u) (Q := Q) (h := h) (th := th) (to := to) (row := row) (ch := ch) (now := now) (tape := tape) (tp := tp) (pt := pt) (tt := tt) (ne := ne) (rd := rd) (rM := rM) (code := code) (rc := rc) (cL := cL) (cR := cR) (stk := stk) (ask := ask) (un := un) (und := und) (aS := aS) (aO := aO) (aW := aW) (aH := aH) (ac := ac) (thr := thr) (ins := ins) (gon := gon) (nO := nO) (mO := mO) (rO := rO) (wy := wy) (ah := ah) (late := late) (soon := soon) (yet := yet) (cir := cir) (stp := stp) (oO := oO) (oW := oW) (win := win) (wc := wc) (rn := rn) (wer := wer) (iK := iK) (kC := kC) (kep := kep) (n := n) hn m8' e3 (q := rmsV now n 7 0 cc) rfl
  rw [e1] at p
  have lt : ∀ j many c, many + j ≤ 7 → (∀ i, c i < 7) → ∀ i, (rmsV now n j many c).2 i < 7 := by
    intro j
    induction j with
    | zero => intro many c hm hcc; exact bkF_lt (B := 7) (by omega) (fit := rmB now) n 0 c hcc
    | succ j ih =>
      intro many c hm hcc
      have b := bkF_lt (B := 7) (show many ≤ 7 by omega) (fit := rmB now) n 0 c hcc
      rw [rms_s]
      split
      · exact b
      · exact ih _ _ (by omega) b
  have rr : rowR (n, itr (fun i g => vp_updL g i ((fwV mt n tu).2 i).toInt64) rf n) (n, itr (roF (rmsV now n 7 0 cc).2) row n) := by
    refine ⟨rfl, fun i hi => ?_⟩
    have hi : i < n := hi
    show itr (fun i g => vp_updL g i ((fwV mt n tu).2 i).toInt64) rf n i = itr (roF (rmsV now n 7 0 cc).2) row n i
    rw [row_fill (f := fun i => ((fwV mt n tu).2 i).toInt64) n i hi]
    have q2 : itr (roF (rmsV now n 7 0 cc).2) row n i = lN ((rmsV now n 7 0 cc).2 i) := row_fill (f := fun i => lN ((rmsV now n 7 0 cc).2 i)) n i hi
    rw [q2]
    obtain ⟨b1, b2⟩ := e2 i hi
    show ((fwV mt n tu).2 i).toInt64 = _
    rw [b1, nI_l (by omega)]
  refine ⟨_, _, _, _, p, fun Q => ?_, h, te, (n, rm, mt, nt, fm, vr), dr, pa, (n, itr (fun i g => vp_updL g i ((fwV mt n tu).2 i).toInt64) rf n), fi, od, cs, ((fwV mt n tu).2, be), ga, r1, r2, sw, 0, (nI n), (itr (roF (rmsV now n 7 0 cc).2) row n), (nI n), ch, now, tape, tp, pt, tt, ne, rd, rM, code, rc, cL, cR, stk, ask, un, und, aS, aO, aW, aH, ac, thr, ins, gon, nO, mO, rO, wy, ah, late, soon, yet, cir, (fun i => nI ((rmsV now n 7 0 cc).2 i)), stp, oO, oW, win, wc, rn, wer, iK, kC, kep, (wm_comm hN').symm, hX, hT, jP_up hP, ⟨by show n ≤ 14; omega, rowM_R rr⟩, hS, jV_up hc hV (ve_self _), hO, hC, hU, ⟨m1, m2, m3, m4, m5, m6, m7, ⟨_, rfl, lt 7 0 cc (by decide) m8'⟩, m9, m10, m11⟩, jN_up hN⟩
  rw [wm_comm hN']
  exact m _ Q
theorem sw_len {mt : Nat → Nat} {n : Nat} {be : Nat → Int32} : ∀ t x (r : cRow), (swV mt n be t x r).1 ≤ r.1 + t := by
  intro t
  induction t with
  | zero => intro x r; exact Nat.le_refl _
  | succ t ih =>
    intro x r
    obtain ⟨k, f⟩ := r
    rw [swV_s]
    split
    · have := ih (lowB (mt x &&& (be t).toNatClampNeg)) (k + 1, vp_updL f k (lN (lowB (mt x &&& (be t).toNatClampNeg))))
      dsimp only at this ⊢
      omega
    · show k ≤ k + (t + 1); omega
theorem s_hears {c : Nat} {H : Nat → zE} {u : zU} (hc : c < 64) (hI : jIV c H u) (f t : Int32) : jSt c 165 278 [.int f, .int t] H u := by
  refine jIV_e hI (fun h te tO dr pa ro fi od cs ci ga r1 r2 sw th to row gu ch now tape tp pt tt ne rd rM code rc cL cR stk ask un und aS aO aW aH ac thr ins gon nO mO rO wy ah late soon yet cir bed stp oO oW win wc rn wer iK kC kep eH hA => ?_)
  subst eH
  obtain ⟨hX, hT, hP, hR, hS, hV, hO, hC, hU, hM, hN⟩ := hA
  have hN' := hN.1
  obtain ⟨rk, rf⟩ := ro
  obtain ⟨n, rm, mt, nt, fm, vr⟩ := tO
  obtain ⟨tu, be⟩ := ci
  have hn : n ≤ 7 := hT.1.1.1
  have g : gu = nI n := hT.2
  subst g
  have p := fun Q => p_hears (d := 296) (u := u) (Q := Q) (h := (mdl h th to row (nI n) ch now tape tp pt tt ne rd rM code rc cL cR stk ask un und aS aO aW aH ac thr ins gon nO mO rO wy ah late soon yet cir bed stp oO oW win wc rn wer iK kC kep)) (te := te) (dr := dr) (pa := pa) (rk := rk) (rf := rf) (fi := fi) (od := od) (cs := cs) (tu := tu) (be := be) (ga := ga) (r1 := r1) (r2 := r2) (sw := sw) hT.1.1 hS.2.2.1 hR.1 (f := f) (t := t)
  by_cases q : hasB n f = true ∧ hasB n t = true
  · obtain ⟨f', hf, rfl⟩ := hasB_of hn q.1
    obtain ⟨t', ht, rfl⟩ := hasB_of hn q.2
    obtain ⟨h1, h2⟩ := hear_eq hT.1.2.1 hT.1.2.2 ht hf (be := be) (stp := stp) (rf := rf) (row := row) (q := heV now n t' stp) rfl (R := rbV mt n f' 0 n (2 ^ t') be) rfl
    have sm : smI (rbV mt n f' 0 n (2 ^ t') be).2 := rbV_sm hT.1.1.2.2.1 _ _ _ _ (q_pow_lt (by omega)) hS.2.2.1
    have e : hearO mt n (nI f') (nI t') (rk, rf) be = ((wayV mt n f' t' (rk, rf) be).1, (wayV mt n f' t' (rk, rf) be).2, (rbV mt n f' 0 n (2 ^ t') be).2) := by
      unfold hearO
      rw [if_pos q, nI_clamp (by omega), nI_clamp (by omega)]
    rw [e] at p
    by_cases z : (rbV mt n f' 0 n (2 ^ t') be).1 = 0
    · have ew : wayV mt n f' t' (rk, rf) be = (-2, (rk, rf)) := if_pos z
      rw [ew] at p
      refine ⟨_, _, _, _, p, fun Q => ?_, h, te, (n, rm, mt, nt, fm, vr), dr, pa, (rk, rf), fi, od, cs, (tu, (rbV mt n f' 0 n (2 ^ t') be).2), ga, r1, r2, sw, 0, to, row, (nI n), ch, now, tape, tp, pt, tt, ne, rd, rM, code, rc, cL, cR, stk, ask, un, und, aS, aO, aW, aH, ac, thr, ins, gon, nO, mO, rO, wy, ah, late, soon, yet, cir, bed, (heV now n t' stp), oO, oW, win, wc, rn, wer, iK, kC, kep, (wm_comm hN').symm, hX, hT, jP_up hP, hR, ⟨hS.1, hS.2.1, sm, hS.2.2.2⟩, jV_up hc hV (ve_self _), hO, hC, hU, hM, jN_up hN⟩
      rw [wm_comm hN']
      exact m_hears0 (d := 296) (u := u) (Q := Q) (h := (wld h te (n, rm, mt, nt, fm, vr) dr pa (rk, rf) fi od cs (tu, (rbV mt n f' 0 n (2 ^ t') be).2) ga r1 r2 sw)) (th := th) (to := to) (row := row) (ch := ch) (now := now) (tape := tape) (tp := tp) (pt := pt) (tt := tt) (ne := ne) (rd := rd) (rM := rM) (code := code) (rc := rc) (cL := cL) (cR := cR) (stk := stk) (ask := ask) (un := un) (und := und) (aS := aS) (aO := aO) (aW := aW) (aH := aH) (ac := ac) (thr := thr) (ins := ins) (gon := gon) (nO := nO) (mO := mO) (rO := rO) (wy := wy) (ah := ah) (late := late) (soon := soon) (yet := yet) (cir := cir) (bed := bed) (stp := stp) (oO := oO) (oW := oW) (win := win) (wc := wc) (rn := rn) (wer := wer) (iK := iK) (kC := kC) (kep := kep) (n := n) (f := f') (g := t') hn hf ht rfl (h1 z)
    · obtain ⟨a1, a2, a3, a4, a5⟩ := h2 z
      have ew : wayV mt n f' t' (rk, rf) be = (nI (rbV mt n f' 0 n (2 ^ t') be).1, swV mt n (rbV mt n f' 0 n (2 ^ t') be).2 ((rbV mt n f' 0 n (2 ^ t') be).1 - 1) f' (1, vp_updL rf 0 (lN f'))) := if_neg z
      rw [ew, ← a2] at p
      have l14 := sw_len (mt := mt) (n := n) (be := (rbV mt n f' 0 n (2 ^ t') be).2) ((rbV mt n f' 0 n (2 ^ t') be).1 - 1) f' (1, vp_updL rf 0 (lN f'))
      refine ⟨_, _, _, _, p, fun Q => ?_, h, te, (n, rm, mt, nt, fm, vr), dr, pa, (swV mt n (rbV mt n f' 0 n (2 ^ t') be).2 ((rbV mt n f' 0 n (2 ^ t') be).1 - 1) f' (1, vp_updL rf 0 (lN f'))), fi, od, cs, (tu, (rbV mt n f' 0 n (2 ^ t') be).2), ga, r1, r2, sw, 0, (nI (wgR (hrB now (heV now n t' stp)) n t' 7 f' (1, vp_updL row 0 (lN f'))).1), (wgR (hrB now (heV now n t' stp)) n t' 7 f' (1, vp_updL row 0 (lN f'))).2, (nI n), ch, now, tape, tp, pt, tt, ne, rd, rM, code, rc, cL, cR, stk, ask, un, und, aS, aO, aW, aH, ac, thr, ins, gon, nO, mO, rO, wy, ah, late, soon, yet, cir, bed, (heV now n t' stp), oO, oW, win, wc, rn, wer, iK, kC, kep, (wm_comm hN').symm, hX, hT, jP_up hP, ⟨by dsimp only at l14; omega, rowM_R a5⟩, ⟨hS.1, hS.2.1, sm, hS.2.2.2⟩, jV_up hc hV (ve_self _), hO, hC, hU, hM, jN_up hN⟩
      rw [wm_comm hN']
      exact m_hears (d := 296) (u := u) (Q := Q) (h := (wld h te (n, rm, mt, nt, fm, vr) dr pa (swV mt n (rbV mt n f' 0 n (2 ^ t') be).2 ((rbV mt n f' 0 n (2 ^ t') be).1 - 1) f' (1, vp_updL rf 0 (lN f'))) fi od cs (tu, (rbV mt n f' 0 n (2 ^ t') be).2) ga r1 r2 sw)) (th := th) (to := to) (row := row) (ch := ch) (now := now) (tape := tape) (tp := tp) (pt := pt) (tt := tt) (ne := ne) (rd := rd) (rM := rM) (code := code) (rc := rc) (cL := cL) (cR := cR) (stk := stk) (ask := ask) (un := un) (und := und) (aS := aS) (aO := aO) (aW := aW) (aH := aH) (ac := ac) (thr := thr) (ins := ins) (gon := gon) (nO := nO) (mO := mO) (rO := rO) (wy := wy) (ah := ah) (late := late) (soon := soon) (yet := yet) (cir := cir) (bed := bed) (stp := stp) (oO := oO) (oW := oW) (win := win) (wc := wc) (rn := rn) (wer := wer) (iK := iK) (kC := kC) (kep := kep) (n := n) (f := f') (g := t') hn hf ht rfl a1 a4
  · have e : hearO mt n f t (rk, rf) be = (-1, (rk, rf), be) := if_neg q
    rw [e] at p
    refine ⟨_, _, _, _, p, fun Q => ?_, h, te, (n, rm, mt, nt, fm, vr), dr, pa, (rk, rf), fi, od, cs, (tu, be), ga, r1, r2, sw, 0, to, row, (nI n), ch, now, tape, tp, pt, tt, ne, rd, rM, code, rc, cL, cR, stk, ask, un, und, aS, aO, aW, aH, ac, thr, ins, gon, nO, mO, rO, wy, ah, late, soon, yet, cir, bed, stp, oO, oW, win, wc, rn, wer, iK, kC, kep, (wm_comm hN').symm, hX, hT, jP_up hP, hR, hS, jV_up hc hV (ve_self _), hO, hC, hU, hM, jN_up hN⟩
    rw [wm_comm hN']
    refine m_hearsn (d := 296) (u := u) (Q := Q) (h := (wld h te (n, rm, mt, nt, fm, vr) dr pa (rk, rf) fi od cs (tu, be) ga r1 r2 sw)) (th := th) (to := to) (row := row) (ch := ch) (now := now) (tape := tape) (tp := tp) (pt := pt) (tt := tt) (ne := ne) (rd := rd) (rM := rM) (code := code) (rc := rc) (cL := cL) (cR := cR) (stk := stk) (ask := ask) (un := un) (und := und) (aS := aS) (aO := aO) (aW := aW) (aH := aH) (ac := ac) (thr := thr) (ins := ins) (gon := gon) (nO := nO) (mO := mO) (rO := rO) (wy := wy) (ah := ah) (late := late) (soon := soon) (yet := yet) (cir := cir) (bed := bed) (stp := stp) (oO := oO) (oW := oW) (win := win) (wc := wc) (rn := rn) (wer := wer) (iK := iK) (kC := kC) (kep := kep) (n := n) hn ?_
    cases b1 : hasB n f
    · rfl
    · cases b2 : hasB n t
      · rfl
      · exact absurd ⟨b1, b2⟩ q
theorem s_alone {c : Nat} {H : Nat → zE} {u : zU} (hc : c < 64) (hI : jIV c H u) : jSt c 159 263 [] H u := by
  refine jIV_e hI (fun h te tO dr pa ro fi od cs ci ga r1 r2 sw th to row gu ch now tape tp pt tt ne rd rM code rc cL cR stk ask un und aS aO aW aH ac thr ins gon nO mO rO wy ah late soon yet cir bed stp oO oW win wc rn wer iK kC kep eH hA => ?_)
  subst eH
  obtain ⟨hX, hT, hP, hR, hS, hV, hO, hC, hU, hM, hN⟩ := hA
  have hN' := hN.1
  obtain ⟨rk, rf⟩ := ro
  obtain ⟨n, rm, mt, nt, fm, vr⟩ := tO
  have hn : n ≤ 7 := hT.1.1.1
  have g : gu = nI n := hT.2
  subst g
  obtain ⟨rfl, rfl, rfl, ⟨nN, rfl⟩, ⟨mN, rfl⟩, ⟨rN, rfl⟩, m7, m8, m9, m10, m11⟩ := hM
  have p := fun Q => p_alone (d := 296) (u := u) (Q := Q) (h := (mdl h th to row (nI n) ch now tape tp pt tt ne rd rM code rc cL cR stk ask un und aS aO aW aH ac (fun i => nI (tV i)) (fun s => nI (iV s)) (fun s => nI (gV s)) (fun i => nI (nN i)) (fun i => nI (mN i)) (fun i => nI (rN i)) wy ah late soon yet cir bed stp oO oW win wc rn wer iK kC kep)) (te := te) (dr := dr) (pa := pa) (rk := rk) (rf := rf) (fi := fi) (od := od) (cs := cs) (ci := ci) (ga := ga) (r1 := r1) (r2 := r2) (sw := sw) hT.1.1 hS.2.1 hR.1
  have e := alone_eq (vr := vr) hT.1.2.1 hT.1.2.2 hT.1.1.2.1 fi (nN, mN, rN) wy
  have of := (aloF_I hT.1.1 hS.2.1 hn n (Nat.le_refl _)).2
  rw [e] at p
  have m := fun h Q => m_alone (d := 296) (u := u) (Q := Q) (h := h) (th := th) (to := to) (row := row) (ch := ch) (now := now) (tape := tape) (tp := tp) (pt := pt) (tt := tt) (ne := ne) (rd := rd) (rM := rM) (code := code) (rc := rc) (cL := cL) (cR := cR) (stk := stk) (ask := ask) (un := un) (und := und) (aS := aS) (aO := aO) (aW := aW) (aH := aH) (ac := ac) (wy := wy) (ah := ah) (late := late) (soon := soon) (yet := yet) (cir := cir) (bed := bed) (stp := stp) (oO := oO) (oW := oW) (win := win) (wc := wc) (rn := rn) (wer := wer) (iK := iK) (kC := kC) (kep := kep) (n := n) (tN := tV) (iN := iV) (gN := gV) (nN := nN) (mN := mN) (rN := rN) (tb_K hn) (tb_B hn)
  generalize malV now iV gV n (nN, mN, rN) wy = A at *
  refine ⟨_, _, _, _, p, fun Q => ?_, h, te, (n, rm, mt, nt, fm, vr), dr, pa, (1, vp_updL rf 0 (lN (pop A.1))), (itr (aloF (n, rm, mt, nt, fm, vr)) (0, fi) n).2, od, cs, ci, ga, r1, r2, sw, 0, 1, (vp_updL row 0 (lN (pop A.1))), (nI n), ch, now, tape, tp, pt, tt, ne, rd, rM, code, rc, cL, cR, stk, ask, un, und, aS, aO, aW, aH, ac, (fun i => nI (tV i)), (fun s => nI (iV s)), (fun s => nI (gV s)), (fun i => nI (A.2.1.1 i)), (fun i => nI (A.2.1.2.1 i)), (fun i => nI (A.2.1.2.2 i)), A.2.2, ah, late, soon, yet, cir, bed, stp, oO, oW, win, wc, rn, wer, iK, kC, kep, (wm_comm hN').symm, hX, hT, jP_up hP, ⟨by show 1 ≤ 14; decide, rowM_1⟩, ⟨hS.1, of, hS.2.2⟩, jV_up hc hV (ve_self _), hO, hC, hU, ⟨rfl, rfl, rfl, ⟨_, rfl⟩, ⟨_, rfl⟩, ⟨_, rfl⟩, m7, m8, m9, m10, m11⟩, jN_up hN⟩
  rw [wm_comm hN']
  exact m _ Q
theorem s_clash {c : Nat} {H : Nat → zE} {u : zU} (hc : c < 64) (hI : jIV c H u) : jSt c 160 266 [] H u := by
  refine jIV_e hI (fun h te tO dr pa ro fi od cs ci ga r1 r2 sw th to row gu ch now tape tp pt tt ne rd rM code rc cL cR stk ask un und aS aO aW aH ac thr ins gon nO mO rO wy ah late soon yet cir bed stp oO oW win wc rn wer iK kC kep eH hA => ?_)
  subst eH
  obtain ⟨hX, hT, hP, hR, hS, hV, hO, hC, hU, hM, hN⟩ := hA
  have hN' := hN.1
  obtain ⟨rk, rf⟩ := ro
  obtain ⟨n, rm, mt, nt, fm, vr⟩ := tO
  have hn : n ≤ 7 := hT.1.1.1
  have g : gu = nI n := hT.2
  subst g
  obtain ⟨rfl, rfl, rfl, ⟨nN, rfl⟩, ⟨mN, rfl⟩, ⟨rN, rfl⟩, m7, m8, m9, m10, m11⟩ := hM
  have p := fun Q => p_clash (d := 296) (u := u) (Q := Q) (h := (mdl h th to row (nI n) ch now tape tp pt tt ne rd rM code rc cL cR stk ask un und aS aO aW aH ac (fun i => nI (tV i)) (fun s => nI (iV s)) (fun s => nI (gV s)) (fun i => nI (nN i)) (fun i => nI (mN i)) (fun i => nI (rN i)) wy ah late soon yet cir bed stp oO oW win wc rn wer iK kC kep)) (te := te) (dr := dr) (pa := pa) (rk := rk) (rf := rf) (fi := fi) (od := od) (cs := cs) (ci := ci) (ga := ga) (r1 := r1) (r2 := r2) (sw := sw) hT.1.1 hS.2.1 hR.1
  have of : oldF (claO (n, rm, mt, nt, fm, vr) fi (rk, rf)).2.1 := by
    have o1 := amgO_ok hT.1.1 hS.2.1 (2 ^ n - 1)
    have h2 := two7 hn
    unfold claO
    split
    · exact o1
    · exact (claF_I hT.1.1 o1 (N := 2 ^ n - 1) (y := 2 ^ n - 1) (by omega) (by omega) _ (Nat.le_refl _)).2
  have m := fun h Q => m_clash (d := 295) (u := u) (Q := Q) (h := h) (th := th) (to := to) (row := row) (ch := ch) (now := now) (tape := tape) (tp := tp) (pt := pt) (tt := tt) (ne := ne) (rd := rd) (rM := rM) (code := code) (rc := rc) (cL := cL) (cR := cR) (stk := stk) (ask := ask) (un := un) (und := und) (aS := aS) (aO := aO) (aW := aW) (aH := aH) (ac := ac) (wy := wy) (ah := ah) (late := late) (soon := soon) (yet := yet) (cir := cir) (bed := bed) (stp := stp) (oO := oO) (oW := oW) (win := win) (wc := wc) (rn := rn) (wer := wer) (iK := iK) (kC := kC) (kep := kep) (n := n) (tN := tV) (iN := iV) (gN := gV) (nN := nN) (mN := mN) (rN := rN) (tb_K hn) (tb_B hn) (q := mclV now iV gV n (nN, mN, rN) wy) rfl
  obtain ⟨e1, e2⟩ := clash_eq (vr := vr) hT.1.2.1 hT.1.2.2 hT.1.1.2.1 fi (rk, rf) (nN, mN, rN) wy rfl
  rw [e1] at p
  generalize mclV now iV gV n (nN, mN, rN) wy = A at *
  have hr' : jR (claO (n, rm, mt, nt, fm, vr) fi (rk, rf)).2.2 (if A.1 = 0 then to else 1) (if A.1 = 0 then row else vp_updL row 0 (lN A.1)) := by
    rcases e2 with ⟨z1, z2⟩ | ⟨z1, z2⟩
    · rw [if_pos z1, if_pos z1, z2]; exact hR
    · rw [if_neg z1, if_neg z1, z2]; exact ⟨by show 1 ≤ 14; decide, rowM_1⟩
  refine ⟨_, _, _, _, p, fun Q => ?_, h, te, (n, rm, mt, nt, fm, vr), dr, pa, (claO (n, rm, mt, nt, fm, vr) fi (rk, rf)).2.2, (claO (n, rm, mt, nt, fm, vr) fi (rk, rf)).2.1, od, cs, ci, ga, r1, r2, sw, 0, (if A.1 = 0 then to else 1), (if A.1 = 0 then row else vp_updL row 0 (lN A.1)), (nI n), ch, now, tape, tp, pt, tt, ne, rd, rM, code, rc, cL, cR, stk, ask, un, und, aS, aO, aW, aH, ac, (fun i => nI (tV i)), (fun s => nI (iV s)), (fun s => nI (gV s)), (fun i => nI (A.2.1.1 i)), (fun i => nI (A.2.1.2.1 i)), (fun i => nI (A.2.1.2.2 i)), A.2.2, ah, late, soon, yet, cir, bed, stp, oO, oW, win, wc, rn, wer, iK, kC, kep, (wm_comm hN').symm, hX, hT, jP_up hP, hr', ⟨hS.1, of, hS.2.2⟩, jV_up hc hV (ve_self _), hO, hC, hU, ⟨rfl, rfl, rfl, ⟨_, rfl⟩, ⟨_, rfl⟩, ⟨_, rfl⟩, m7, m8, m9, m10, m11⟩, jN_up hN⟩
  rw [wm_comm hN']
  exact m _ Q

