/-! steps: stories, rules -/
theorem rowM_2 {f g : Nat → Int64} {x y : Int64} : rowM (2, vp_updL (vp_updL f 0 x) 1 y) 2 (vp_updL (vp_updL g 0 x) 1 y) := ⟨rfl, (row_2 (f := f) (g := g)).2⟩
theorem rowM_1 {f g : Nat → Int64} {x : Int64} : rowM (1, vp_updL f 0 x) 1 (vp_updL g 0 x) := ⟨rfl, (row_1 (f := f) (g := g)).2⟩
theorem rowM_R {a b : cRow} (h : rowR a b) : rowM a (nI b.1) b.2 := ⟨by rw [h.1], h.2⟩
theorem s_story {c : Nat} {H : Nat → zE} {u : zU} (hc : c < 64) (hI : jIV c H u) : jSt c 143 234 [] H u := by
  refine jIV_e hI (fun h te tO dr pa ro fi od cs ci ga r1 r2 sw th to row gu ch now tape tp pt tt ne rd rM code rc cL cR stk ask un und aS aO aW aH ac thr ins gon nO mO rO wy ah late soon yet cir bed stp oO oW win wc rn wer iK kC kep eH hA => ?_)
  subst eH
  obtain ⟨hX, hT, hP, hR, hS, hV, hO, hC, hU, hM, hN⟩ := hA
  have hN' := hN.1
  obtain ⟨hX1, rfl, rfl⟩ := hX
  obtain ⟨hT1, rfl⟩ := hT
  obtain ⟨len, sg⟩ := te
  have hl : len ≤ 80 := hX1.1
  have hsg : ∀ i, sg i < 256 := hX1.2
  have hn : tO.1 ≤ 7 := hT1.1.1
  obtain ⟨rk, rf⟩ := ro
  have p := fun Q => p_story (d := 295) (u := u) (Q := Q) (h := (mdl h th to row (nI tO.1) ch now (fun i => nI (sg i)) (nI len) pt tt ne rd rM code rc cL cR stk ask un und aS aO aW aH ac thr ins gon nO mO rO wy ah late soon yet cir bed stp oO oW win wc rn wer iK kC kep)) (te := (len, sg)) (dr := dr) (rk := rk) (rf := rf) (fi := fi) (od := od) (cs := cs) (ci := ci) (ga := ga) (r1 := r1) (r2 := r2) (sw := sw) hT1.1 hX1 hP.1 hR.1
  obtain ⟨q1, rfl, q3, q4, q5⟩ := hP
  rcases hr : sryS sg len (aS, aO, aW, aH) with ⟨b1, b2, b3, b4⟩
  obtain ⟨g1, g2⟩ := st_eq hsg hl hr
  have hX' : jX (0, sg) 0 (fun i => nI (sg i)) := ⟨⟨by show 0 ≤ 80; decide, hsg⟩, rfl, rfl⟩
  by_cases q : fsV len sg = -1
  · obtain ⟨f1, f2, f3⟩ := g1 q
    dsimp only at f1 f2
    rcases hC' : sdR b4 tO.1 b3 0 now with ⟨C, N⟩
    obtain ⟨a1, a2, a3, a4, a5⟩ := sto_eq hT1 hsg f3 hr f2 hC'
    dsimp only at a2
    have hve : veR tO (stO (len, sg) 60 0 0 tO).2.2 := veK_R (K := 7 * 60) (by decide) (veK_st 60 0 0 tO hT1.1)
    have hps := ps_eq a3.2.1 a3.2.2 (v := 2) (by decide) (stO (len, sg) 60 0 0 tO).2.2.1 (Nat.le_refl _)
    have e : stoO (len, sg) tO pa (rk, rf) = (nI C, (stO (len, sg) 60 0 0 tO).2.2, setO (if C = 0 then -1 else 0) (stgO pa tO), (2, vp_updL (vp_updL rf 0 (lN (decide (C < b3)).toNat)) 1 (lN (itr (ptF N tO.1 2) 0 tO.1 / 2)))) := by
      unfold stoO
      rw [if_pos q, a1, a2]
      have e1 : (0 < nI C) = (0 < C) := nI_ult (a := 0) (by decide) (by omega)
      simp only [e1]
      rw [pa_push, ← hps, a4]
      rfl
    rw [e] at p
    have m := fun h Q => m_story (d := 294) (u := u) (Q := Q) (h := h) (th := th) (to := to) (row := row) (ch := ch) (now := now) (pt := pt) (tt := tt) (ne := ne) (rd := rd) (rM := rM) (code := code) (rc := rc) (cL := cL) (cR := cR) (stk := stk) (ask := ask) (und := und) (aS := aS) (aO := aO) (aW := aW) (aH := aH) (ac := ac) (thr := thr) (ins := ins) (gon := gon) (nO := nO) (mO := mO) (rO := rO) (wy := wy) (ah := ah) (late := late) (soon := soon) (yet := yet) (cir := cir) (bed := bed) (stp := stp) (oO := oO) (oW := oW) (win := win) (wc := wc) (rn := rn) (wer := wer) (iK := iK) (kC := kC) (kep := kep) (n := tO.1) (k := pa.2.2.2.2) (sg := sg) (len := len) hsg hl hn q1.1 hr f1 rfl hC'
    dsimp only at m
    obtain ⟨w1, w2⟩ := un_push (k := pa.2.2.2.2) (c := C) (U := itr (pbF now pa.2.2.2.2) und 57)
    obtain ⟨z1, z2, z3, z4, z5⟩ := pst_set (a := if C = 0 then -1 else 0) q1 hT1 q3
    obtain ⟨x, q5, q6⟩ := q5
    refine ⟨_, _, _, _, p, fun Q => ?_, h, (0, sg), (stO (len, sg) 60 0 0 tO).2.2, dr, (setO (if C = 0 then -1 else 0) (stgO pa tO)), (2, vp_updL (vp_updL rf 0 (lN (decide (C < b3)).toNat)) 1 (lN (itr (ptF N tO.1 2) 0 tO.1 / 2))), fi, od, cs, ci, ga, r1, r2, sw, 0, 2, (vp_updL (vp_updL row 0 (lN (decide (C < b3)).toNat)) 1 (lN (itr (ptF N tO.1 2) 0 tO.1 / 2))), (nI tO.1), ch, N, (fun i => nI (sg i)), 0, (nI b2), (nI (min len 60)), 0, rd, rM, code, rc, cL, cR, stk, ask, (nI (if C = 0 then pa.2.2.2.2 else (addU pa.2.2.2.2 (itr (pbF now pa.2.2.2.2) und 57)).1)), (if C = 0 then (itr (pbF now pa.2.2.2.2) und 57) else (addU pa.2.2.2.2 (itr (pbF now pa.2.2.2.2) und 57)).2), b4.1, b4.2.1, b4.2.2.1, b4.2.2.2, (nI b3), thr, ins, gon, nO, mO, rO, wy, ah, late, soon, yet, cir, bed, stp, oO, oW, win, wc, rn, wer, iK, kC, kep, (wm_comm hN').symm, hX', ⟨a3, by rw [a4]⟩, ⟨z3, by rw [w1, z2], by rw [w2, a4]; exact z1, by rw [a4, z4, z5]; exact q4, x, by omega, q6⟩, ⟨by show 2 ≤ 14; decide, rowM_2⟩, hS, jV_up hc hV hve, jO_up hc hV hO hve, hC, hU, hM, jN_up hN⟩
    rw [wm_comm hN']
    exact m _ Q
  · obtain ⟨f1, f2⟩ := g2 q
    dsimp only at f1 f2
    have e : stoO (len, sg) tO pa (rk, rf) = (-1 - fsV len sg, tO, pa, (rk, rf)) := by
      unfold stoO
      rw [if_neg q]
    rw [e, ← f2] at p
    refine ⟨_, _, _, _, p, fun Q => ?_, h, (0, sg), tO, dr, pa, (rk, rf), fi, od, cs, ci, ga, r1, r2, sw, 0, to, row, (nI tO.1), ch, now, (fun i => nI (sg i)), 0, (nI b2), (nI (min len 60)), 0, rd, rM, code, rc, cL, cR, stk, ask, (nI pa.2.2.2.2), und, b4.1, b4.2.1, b4.2.2.1, b4.2.2.2, (nI b3), thr, ins, gon, nO, mO, rO, wy, ah, late, soon, yet, cir, bed, stp, oO, oW, win, wc, rn, wer, iK, kC, kep, (wm_comm hN').symm, hX', ⟨hT1, rfl⟩, jP_up ⟨q1, rfl, q3, q4, q5⟩, hR, hS, jV_up hc hV (ve_self _), hO, hC, hU, hM, jN_up hN⟩
    rw [wm_comm hN']
    exact m_storyf (d := 294) (u := u) (Q := Q) (h := (wld h (0, sg) tO dr pa (rk, rf) fi od cs ci ga r1 r2 sw)) (th := th) (to := to) (row := row) (ch := ch) (now := now) (pt := pt) (tt := tt) (ne := ne) (rd := rd) (rM := rM) (code := code) (rc := rc) (cL := cL) (cR := cR) (stk := stk) (ask := ask) (un := nI pa.2.2.2.2) (und := und) (aS := aS) (aO := aO) (aW := aW) (aH := aH) (ac := ac) (thr := thr) (ins := ins) (gon := gon) (nO := nO) (mO := mO) (rO := rO) (wy := wy) (ah := ah) (late := late) (soon := soon) (yet := yet) (cir := cir) (bed := bed) (stp := stp) (oO := oO) (oW := oW) (win := win) (wc := wc) (rn := rn) (wer := wer) (iK := iK) (kC := kC) (kep := kep) (n := tO.1) (sg := sg) (len := len) hsg hl hr f1
theorem rd_ok {len : Nat} {sg : Nat → Nat} {r : cRule} (hX : oldX (len, sg)) (hU : oldU r) : oldU (readO (len, sg) r).2 := by
  obtain ⟨cd, st, s0, sz, sp, p⟩ := r
  have hp : ∀ i, pre sg s0 (min len 40) i < 256 := fun i => by
    unfold pre
    split
    · exact hX.2 i
    · exact hU.2.2.2 i
  unfold readO rdS
  by_cases q : len = 0
  · subst q
    refine ⟨?_, ?_, ?_, hp⟩
    · show (if 0 = 0 then (0, 1, upd cd 0 1003) else _ : pS).2.1 ≤ 40
      rw [if_pos rfl]; show 1 ≤ 40; decide
    · show min 0 40 ≤ 40; decide
    · show (if 0 = 0 then (0, 1, upd cd 0 1003) else _ : pS).1 ≤ _
      rw [if_pos rfl]; exact Nat.zero_le _
  · have g := (pTop_ok (r := 46) (st := st) (sg := pre sg s0 (min len 40)) (sp := min len 40) (u := (0, 0, 0)) 4 (by decide)).1 (0, 0, cd) (Nat.zero_le _) (Nat.zero_le _)
    refine ⟨?_, ?_, ?_, hp⟩
    · show (if len = 0 then (0, 1, upd cd 0 1003) else (rdQ len sg s0 cd).2 : pS).2.1 ≤ 40
      rw [if_neg q]; exact g.2
    · show min len 40 ≤ 40; omega
    · show (if len = 0 then (0, 1, upd cd 0 1003) else (rdQ len sg s0 cd).2 : pS).1 ≤ min len 40
      rw [if_neg q]; exact g.1
theorem s_rule {c : Nat} {H : Nat → zE} {u : zU} (hc : c < 64) (hI : jIV c H u) : jSt c 134 211 [] H u := by
  refine jIV_e hI (fun h te tO dr pa ro fi od cs ci ga r1 r2 sw th to row gu ch now tape tp pt tt ne rd rM code rc cL cR stk ask un und aS aO aW aH ac thr ins gon nO mO rO wy ah late soon yet cir bed stp oO oW win wc rn wer iK kC kep eH hA => ?_)
  subst eH
  obtain ⟨hX, hT, hP, hR, hS, hV, hO, hC, hU, hM, hN⟩ := hA
  have hN' := hN.1
  obtain ⟨hX1, rfl, rfl⟩ := hX
  obtain ⟨len, sg⟩ := te
  have hl : len ≤ 80 := hX1.1
  have hsg : ∀ i, sg i < 256 := hX1.2
  obtain ⟨u1, u2, L, u3, u4⟩ := hU
  have hX' : jX (0, sg) 0 (fun i => nI (sg i)) := ⟨⟨by show 0 ≤ 80; decide, hsg⟩, rfl, rfl⟩
  have mm : ∀ h Q, ¬ ftV len 40 (rrS sg len rc).1 (rrS sg len rc).2.1 (min len 40) = 0 → zK 300 211 [.ref 54] ((mdl h th to row gu ch now (fun i => nI (sg i)) (nI len) pt tt ne rd rM code rc cL cR stk ask un und aS aO aW aH ac thr ins gon nO mO rO wy ah late soon yet cir bed stp oO oW win wc rn wer iK kC kep), u) Q = Q (some (.int (ftV len 40 (rrS sg len rc).1 (rrS sg len rc).2.1 (min len 40))), ((mdl h 0 to row gu ch now (fun i => nI (sg i)) 0 (nI (rrS sg len rc).2.1) (nI (min len 40)) (nI (rrS sg len rc).2.2.1) rd rM code (rrS sg len rc).2.2.2.2 cL (nI (rrS sg len rc).2.2.2.1) stk ask un und aS aO aW aH ac thr ins gon nO mO rO wy ah late soon yet cir bed stp oO oW win wc rn wer iK kC kep), u)) := fun h Q z => m_rule0 (d := 39) (u := u) (Q := Q) (h := h) (th := th) (to := to) (row := row) (gu := gu) (ch := ch) (now := now) (pt := pt) (tt := tt) (ne := ne) (rd := rd) (rM := rM) (code := code) (rc := rc) (cL := cL) (cR := cR) (stk := stk) (ask := ask) (un := un) (und := und) (aS := aS) (aO := aO) (aW := aW) (aH := aH) (ac := ac) (thr := thr) (ins := ins) (gon := gon) (nO := nO) (mO := mO) (rO := rO) (wy := wy) (ah := ah) (late := late) (soon := soon) (yet := yet) (cir := cir) (bed := bed) (stp := stp) (oO := oO) (oW := oW) (win := win) (wc := wc) (rn := rn) (wer := wer) (iK := iK) (kC := kC) (kep := kep) (sg := sg) (len := len) hsg hl rfl z
  have mo : ∀ h Q, ftV len 40 (rrS sg len rc).1 (rrS sg len rc).2.1 (min len 40) = 0 → zK 300 211 [.ref 54] ((mdl h th to row gu ch now (fun i => nI (sg i)) (nI len) pt tt ne rd rM code rc cL cR stk ask un und aS aO aW aH ac thr ins gon nO mO rO wy ah late soon yet cir bed stp oO oW win wc rn wer iK kC kep), u) Q = Q (some (.int 0), ((mdl h 0 to row gu ch now (fun i => nI (sg i)) 0 (nI (rrS sg len rc).2.1) (nI (min len 40)) (nI (rrS sg len rc).2.2.1) rd rM (itr (cpC (rrS sg len rc).2.2.2.2) code (rrS sg len rc).2.2.2.1) (rrS sg len rc).2.2.2.2 (nI (rrS sg len rc).2.2.2.1) (nI (rrS sg len rc).2.2.2.1) stk ask un und aS aO aW aH ac thr ins gon nO mO rO wy ah late soon yet cir bed stp oO oW win wc rn wer iK kC kep), u)) := fun h Q z => m_rule (d := 39) (u := u) (Q := Q) (h := h) (th := th) (to := to) (row := row) (gu := gu) (ch := ch) (now := now) (pt := pt) (tt := tt) (ne := ne) (rd := rd) (rM := rM) (code := code) (rc := rc) (cL := cL) (cR := cR) (stk := stk) (ask := ask) (un := un) (und := und) (aS := aS) (aO := aO) (aW := aW) (aH := aH) (ac := ac) (thr := thr) (ins := ins) (gon := gon) (nO := nO) (mO := mO) (rO := rO) (wy := wy) (ah := ah) (late := late) (soon := soon) (yet := yet) (cir := cir) (bed := bed) (stp := stp) (oO := oO) (oW := oW) (win := win) (wc := wc) (rn := rn) (wer := wer) (iK := iK) (kC := kC) (kep := kep) (sg := sg) (len := len) hsg hl rfl z
  cases sw with
  | false =>
    have p := fun Q => p_rule_f (d := 248) (u := u) (Q := Q) (h := (mdl h th to row gu ch now (fun i => nI (sg i)) (nI len) pt tt ne rd rM code rc cL cR stk ask un und aS aO aW aH ac thr ins gon nO mO rO wy ah late soon yet cir bed stp oO oW win wc rn wer iK kC kep)) (te := (len, sg)) (tO := tO) (pa := pa) (dr := dr) (ro := ro) (fi := fi) (od := od) (cs := cs) (ci := ci) (ga := ga) (r1 := r1) hX1 u2
    obtain ⟨e1, e2, e3⟩ := rd_eq (r := r2) hl hsg u2.2.2.2 rc code
    have ok := rd_ok hX1 u2
    rw [e1] at p
    by_cases q : (readO (len, sg) r2).1 = -1
    · have q' := q
      rw [e2] at q'
      rw [q', decide_eq_true q] at p
      refine ⟨_, _, _, _, p, fun Q => ?_, h, (0, sg), tO, dr, pa, ro, fi, od, cs, ci, ga, r1, (readO (len, sg) r2).2, true, 0, to, row, gu, ch, now, (fun i => nI (sg i)), 0, (nI (rrS sg len rc).2.1), (nI (min len 40)), (nI (rrS sg len rc).2.2.1), rd, rM, (itr (cpC (rrS sg len rc).2.2.2.2) code (rrS sg len rc).2.2.2.1), ((rrS sg len rc).2.2.2.2), (nI (rrS sg len rc).2.2.2.1), (nI (rrS sg len rc).2.2.2.1), stk, ask, un, und, aS, aO, aW, aH, ac, thr, ins, gon, nO, mO, rO, wy, ah, late, soon, yet, cir, bed, stp, oO, oW, win, wc, rn, wer, iK, kC, kep, (wm_comm hN').symm, hX', hT, jP_up hP, hR, hS, jV_up hc hV (ve_self _), hO, hC, ⟨u1, ok, _, rfl, e3 q⟩, hM, jN_up hN⟩
      rw [wm_comm hN']
      exact mo _ Q q'
    · have q' := q
      rw [e2] at q'
      rw [decide_eq_false q] at p
      refine ⟨_, _, _, _, p, fun Q => ?_, h, (0, sg), tO, dr, pa, ro, fi, od, cs, ci, ga, r1, (readO (len, sg) r2).2, false, 0, to, row, gu, ch, now, (fun i => nI (sg i)), 0, (nI (rrS sg len rc).2.1), (nI (min len 40)), (nI (rrS sg len rc).2.2.1), rd, rM, code, ((rrS sg len rc).2.2.2.2), cL, (nI (rrS sg len rc).2.2.2.1), stk, ask, un, und, aS, aO, aW, aH, ac, thr, ins, gon, nO, mO, rO, wy, ah, late, soon, yet, cir, bed, stp, oO, oW, win, wc, rn, wer, iK, kC, kep, (wm_comm hN').symm, hX', hT, jP_up hP, hR, hS, jV_up hc hV (ve_self _), hO, hC, ⟨u1, ok, L, u3, u4⟩, hM, jN_up hN⟩
      rw [wm_comm hN']
      exact mm _ Q q'
  | true =>
    have p := fun Q => p_rule_t (d := 248) (u := u) (Q := Q) (h := (mdl h th to row gu ch now (fun i => nI (sg i)) (nI len) pt tt ne rd rM code rc cL cR stk ask un und aS aO aW aH ac thr ins gon nO mO rO wy ah late soon yet cir bed stp oO oW win wc rn wer iK kC kep)) (te := (len, sg)) (tO := tO) (pa := pa) (dr := dr) (ro := ro) (fi := fi) (od := od) (cs := cs) (ci := ci) (ga := ga) (r2 := r2) hX1 u1
    obtain ⟨e1, e2, e3⟩ := rd_eq (r := r1) hl hsg u1.2.2.2 rc code
    have ok := rd_ok hX1 u1
    rw [e1] at p
    by_cases q : (readO (len, sg) r1).1 = -1
    · have q' := q
      rw [e2] at q'
      rw [q', decide_eq_false (fun z => z q)] at p
      refine ⟨_, _, _, _, p, fun Q => ?_, h, (0, sg), tO, dr, pa, ro, fi, od, cs, ci, ga, (readO (len, sg) r1).2, r2, false, 0, to, row, gu, ch, now, (fun i => nI (sg i)), 0, (nI (rrS sg len rc).2.1), (nI (min len 40)), (nI (rrS sg len rc).2.2.1), rd, rM, (itr (cpC (rrS sg len rc).2.2.2.2) code (rrS sg len rc).2.2.2.1), ((rrS sg len rc).2.2.2.2), (nI (rrS sg len rc).2.2.2.1), (nI (rrS sg len rc).2.2.2.1), stk, ask, un, und, aS, aO, aW, aH, ac, thr, ins, gon, nO, mO, rO, wy, ah, late, soon, yet, cir, bed, stp, oO, oW, win, wc, rn, wer, iK, kC, kep, (wm_comm hN').symm, hX', hT, jP_up hP, hR, hS, jV_up hc hV (ve_self _), hO, hC, ⟨ok, u2, _, rfl, e3 q⟩, hM, jN_up hN⟩
      rw [wm_comm hN']
      exact mo _ Q q'
    · have q' := q
      rw [e2] at q'
      rw [decide_eq_true q] at p
      refine ⟨_, _, _, _, p, fun Q => ?_, h, (0, sg), tO, dr, pa, ro, fi, od, cs, ci, ga, (readO (len, sg) r1).2, r2, true, 0, to, row, gu, ch, now, (fun i => nI (sg i)), 0, (nI (rrS sg len rc).2.1), (nI (min len 40)), (nI (rrS sg len rc).2.2.1), rd, rM, code, ((rrS sg len rc).2.2.2.2), cL, (nI (rrS sg len rc).2.2.2.1), stk, ask, un, und, aS, aO, aW, aH, ac, thr, ins, gon, nO, mO, rO, wy, ah, late, soon, yet, cir, bed, stp, oO, oW, win, wc, rn, wer, iK, kC, kep, (wm_comm hN').symm, hX', hT, jP_up hP, hR, hS, jV_up hc hV (ve_self _), hO, hC, ⟨ok, u2, L, u3, u4⟩, hM, jN_up hN⟩
      rw [wm_comm hN']
      exact mm _ Q q'

