/-! steps: undo, keep, again, counts, sheets -/
theorem ko_lt : ∀ x, x < 8 → ∀ i, i < 3 → x ||| 2 ^ i < 8 := by decide
theorem s_undo {c : Nat} {H : Nat → zE} {u : zU} (hc : c < 64) (hI : jIV c H u) : jSt c 144 221 [] H u := by
  refine jIV_e hI (fun h te tO dr pa ro fi od cs ci ga r1 r2 sw th to row gu ch now tape tp pt tt ne rd rM code rc cL cR stk ask un und aS aO aW aH ac thr ins gon nO mO rO wy ah late soon yet cir bed stp oO oW win wc rn wer iK kC kep eH hA => ?_)
  subst eH
  obtain ⟨hX, hT, hP, hR, hS, hV, hO, hC, hU, hM, hN⟩ := hA
  have hN' := hN.1
  obtain ⟨p1, rfl, p3, p4, p5⟩ := hP
  obtain ⟨F, S, K, ko, k⟩ := pa
  obtain ⟨n, rm, mt, nt, fm, vr⟩ := tO
  dsimp only at p3 p4
  cases k with
  | zero =>
    refine ⟨_, _, _, _, fun Q => p_undo0 (d := 296) (u := u) (Q := Q) (h := (mdl h th to row gu ch now tape tp pt tt ne rd rM code rc cL cR stk ask (nI 0) und aS aO aW aH ac thr ins gon nO mO rO wy ah late soon yet cir bed stp oO oW win wc rn wer iK kC kep)) (te := te) (dr := dr) (ro := ro) (fi := fi) (od := od) (cs := cs) (ci := ci) (ga := ga) (r1 := r1) (r2 := r2) (sw := sw) (n := n) (rm := rm) (mt := mt) (nt := nt) (fm := fm) (vr := vr) p1, fun Q => ?_, h, te, (n, rm, mt, nt, fm, vr), dr, (F, S, K, ko, 0), ro, fi, od, cs, ci, ga, r1, r2, sw, 0, to, row, gu, ch, now, tape, tp, pt, tt, ne, rd, rM, code, rc, cL, cR, stk, ask, 0, und, aS, aO, aW, aH, ac, thr, ins, gon, nO, mO, rO, wy, ah, late, soon, yet, cir, bed, stp, oO, oW, win, wc, rn, wer, iK, kC, kep, (wm_comm hN').symm, hX, hT, jP_up ⟨p1, rfl, p3, p4, p5⟩, hR, hS, jV_up hc hV (ve_self _), hO, hC, hU, hM, jN_up hN⟩
    rw [wm_comm hN']
    exact m_undo0 (d := 299) (u := u) (Q := Q) (h := (wld h te (n, rm, mt, nt, fm, vr) dr (F, S, K, ko, 0) ro fi od cs ci ga r1 r2 sw)) (th := th) (to := to) (row := row) (gu := gu) (ch := ch) (now := now) (tape := tape) (tp := tp) (pt := pt) (tt := tt) (ne := ne) (rd := rd) (rM := rM) (code := code) (rc := rc) (cL := cL) (cR := cR) (stk := stk) (ask := ask) (und := und) (aS := aS) (aO := aO) (aW := aW) (aH := aH) (ac := ac) (thr := thr) (ins := ins) (gon := gon) (nO := nO) (mO := mO) (rO := rO) (wy := wy) (ah := ah) (late := late) (soon := soon) (yet := yet) (cir := cir) (bed := bed) (stp := stp) (oO := oO) (oW := oW) (win := win) (wc := wc) (rn := rn) (wer := wer) (iK := iK) (kC := kC) (kep := kep)
  | succ k =>
    have hk : k + 1 ≤ 15 := p1.1
    obtain ⟨rm', mt', nt', fm', a1, a2, a3, a4, a5, a6, a7, a8, a9, a10, a11⟩ := slot_get (p3 k (Nat.lt_succ_self _)) rm mt nt hT.1.1.2.1 hT.1.1.2.2.1 hT.1.1.2.2.2
    have hr' : relT (n, rm', mt', nt', fm', vr + 1) (itr (unF und k) now 57) := ⟨⟨hT.1.1.1, a1, a2, a3⟩, a4, now_cg hT.1.1.1 a5 (fun i hi => by rw [un_at, if_pos hi])⟩
    refine ⟨_, _, _, _, fun Q => p_undo (d := 296) (u := u) (Q := Q) (h := (mdl h th to row gu ch now tape tp pt tt ne rd rM code rc cL cR stk ask (nI (k + 1)) und aS aO aW aH ac thr ins gon nO mO rO wy ah late soon yet cir bed stp oO oW win wc rn wer iK kC kep)) (te := te) (dr := dr) (ro := ro) (fi := fi) (od := od) (cs := cs) (ci := ci) (ga := ga) (r1 := r1) (r2 := r2) (sw := sw) hT.1.1 p1 a2 a3 a1 a10 a11 a9 a6 a7 a8, fun Q => ?_, h, te, (n, rm', mt', nt', fm', vr + 1), dr, (F, S, K, ko, k), ro, fi, od, cs, ci, ga, r1, r2, sw, 0, to, row, gu, ch, (itr (unF und k) now 57), tape, tp, pt, tt, ne, rd, rM, code, rc, cL, cR, stk, ask, (nI k), und, aS, aO, aW, aH, ac, thr, ins, gon, nO, mO, rO, wy, ah, late, soon, yet, cir, bed, stp, oO, oW, win, wc, rn, wer, iK, kC, kep, (wm_comm hN').symm, hX, ⟨hr', hT.2⟩, jP_up ⟨⟨by show k ≤ 15; omega, p1.2⟩, rfl, fun j hj => p3 j (Nat.lt_succ_of_lt hj), p4, p5⟩, hR, hS, jV_up hc hV (ve_1 rfl), jO_up hc hV hO (ve_1 rfl), hC, hU, hM, jN_up hN⟩
    rw [wm_comm hN']
    exact m_undo (d := 299) (u := u) (Q := Q) (h := (wld h te (n, rm', mt', nt', fm', vr + 1) dr (F, S, K, ko, k) ro fi od cs ci ga r1 r2 sw)) (th := th) (to := to) (row := row) (gu := gu) (ch := ch) (now := now) (tape := tape) (tp := tp) (pt := pt) (tt := tt) (ne := ne) (rd := rd) (rM := rM) (code := code) (rc := rc) (cL := cL) (cR := cR) (stk := stk) (ask := ask) (und := und) (aS := aS) (aO := aO) (aW := aW) (aH := aH) (ac := ac) (thr := thr) (ins := ins) (gon := gon) (nO := nO) (mO := mO) (rO := rO) (wy := wy) (ah := ah) (late := late) (soon := soon) (yet := yet) (cir := cir) (bed := bed) (stp := stp) (oO := oO) (oW := oW) (win := win) (wc := wc) (rn := rn) (wer := wer) (iK := iK) (kC := kC) (kep := kep) (k := k) (show k < 15 by omega)
theorem s_keep {c : Nat} {H : Nat → zE} {u : zU} (hc : c < 64) (hI : jIV c H u) (i : Int32) : jSt c 172 288 [.int i] H u := by
  refine jIV_e hI (fun h te tO dr pa ro fi od cs ci ga r1 r2 sw th to row gu ch now tape tp pt tt ne rd rM code rc cL cR stk ask un und aS aO aW aH ac thr ins gon nO mO rO wy ah late soon yet cir bed stp oO oW win wc rn wer iK kC kep eH hA => ?_)
  subst eH
  obtain ⟨hX, hT, hP, hR, hS, hV, hO, hC, hU, hM, hN⟩ := hA
  have hN' := hN.1
  by_cases q : i < 0 ∨ ¬ i < 3
  · obtain ⟨F, S, K, ko, k⟩ := pa
    obtain ⟨n, rm, mt, nt, fm, vr⟩ := tO
    refine ⟨_, _, _, _, fun Q => p_keep0 (d := 296) (u := u) (Q := Q) (h := (mdl h th to row gu ch now tape tp pt tt ne rd rM code rc cL cR stk ask un und aS aO aW aH ac thr ins gon nO mO rO wy ah late soon yet cir bed stp oO oW win wc rn wer iK kC kep)) (te := te) (dr := dr) (ro := ro) (fi := fi) (od := od) (cs := cs) (ci := ci) (ga := ga) (r1 := r1) (r2 := r2) (sw := sw) (n := n) (rm := rm) (mt := mt) (nt := nt) (fm := fm) (vr := vr) (F := F) (S := S) (K := K) (ko := ko) (k := k) q, fun Q => ?_, h, te, (n, rm, mt, nt, fm, vr), dr, (F, S, K, ko, k), ro, fi, od, cs, ci, ga, r1, r2, sw, 0, to, row, gu, ch, now, tape, tp, pt, tt, ne, rd, rM, code, rc, cL, cR, stk, ask, un, und, aS, aO, aW, aH, ac, thr, ins, gon, nO, mO, rO, wy, ah, late, soon, yet, cir, bed, stp, oO, oW, win, wc, rn, wer, iK, kC, kep, (wm_comm hN').symm, hX, hT, jP_up hP, hR, hS, jV_up hc hV (ve_self _), hO, hC, hU, hM, jN_up hN⟩
    rw [wm_comm hN']
    exact m_keep0 (d := 298) (u := u) (Q := Q) (h := (wld h te (n, rm, mt, nt, fm, vr) dr (F, S, K, ko, k) ro fi od cs ci ga r1 r2 sw)) (th := th) (to := to) (row := row) (gu := gu) (ch := ch) (now := now) (tape := tape) (tp := tp) (pt := pt) (tt := tt) (ne := ne) (rd := rd) (rM := rM) (code := code) (rc := rc) (cL := cL) (cR := cR) (stk := stk) (ask := ask) (un := un) (und := und) (aS := aS) (aO := aO) (aW := aW) (aH := aH) (ac := ac) (thr := thr) (ins := ins) (gon := gon) (nO := nO) (mO := mO) (rO := rO) (wy := wy) (ah := ah) (late := late) (soon := soon) (yet := yet) (cir := cir) (bed := bed) (stp := stp) (oO := oO) (oW := oW) (win := win) (wc := wc) (rn := rn) (wer := wer) (iK := iK) (kC := kC) (kep := kep) q
  · have q1 : ¬ i < 0 := fun z => q (Or.inl z)
    obtain ⟨w, hw, e⟩ := nI_of q1
    subst e
    have w3 : w < 3 := by
      have : nI w < 3 := Classical.byContradiction (fun z => q (Or.inr z))
      rw [show (3 : Int32) = nI 3 from rfl, nI_ult hw (by decide)] at this
      exact this
    obtain ⟨p1, rfl, p3, p4, x, p5, p6⟩ := hP
    have kk := kpt_keep hT.1 p4 w3
    obtain ⟨F, S, K, ko, k⟩ := pa
    obtain ⟨n, rm, mt, nt, fm, vr⟩ := tO
    refine ⟨_, _, _, _, fun Q => p_keep (d := 296) (u := u) (Q := Q) (h := (mdl h th to row gu ch now tape tp pt tt ne rd rM code rc cL cR stk ask (nI k) und aS aO aW aH ac thr ins gon nO mO rO wy ah late soon yet cir bed stp oO oW win wc rn wer iK kC kep)) (te := te) (dr := dr) (ro := ro) (fi := fi) (od := od) (cs := cs) (ci := ci) (ga := ga) (r1 := r1) (r2 := r2) (sw := sw) hT.1.1 p1 w3, fun Q => ?_, h, te, (n, rm, mt, nt, fm, vr), dr, (F, S, sv3 K w (pk7 mt 7) (pk7 nt 7) (2 * pk7 rm 7 + fm.toNat), ko ||| 2 ^ w, k), ro, fi, od, cs, ci, ga, r1, r2, sw, 0, to, row, gu, ch, now, tape, tp, pt, tt, ne, rd, rM, code, rc, cL, cR, stk, ask, (nI k), und, aS, aO, aW, aH, ac, thr, ins, gon, nO, mO, rO, wy, ah, late, soon, yet, cir, bed, stp, oO, oW, win, wc, rn, wer, (upd iK w 1), (upd kC w ch), (itr (kpF now w) kep 57), (wm_comm hN').symm, hX, hT, ⟨⟨p1.1, ko_lt ko p1.2 w w3⟩, rfl, p3, kk, x, by omega, p6⟩, hR, hS, jV_up hc hV (ve_self _), hO, hC, hU, hM, jN_up hN⟩
    rw [wm_comm hN']
    exact m_keep (d := 298) (u := u) (Q := Q) (h := (wld h te (n, rm, mt, nt, fm, vr) dr (F, S, sv3 K w (pk7 mt 7) (pk7 nt 7) (2 * pk7 rm 7 + fm.toNat), ko ||| 2 ^ w, k) ro fi od cs ci ga r1 r2 sw)) (th := th) (to := to) (row := row) (gu := gu) (ch := ch) (now := now) (tape := tape) (tp := tp) (pt := pt) (tt := tt) (ne := ne) (rd := rd) (rM := rM) (code := code) (rc := rc) (cL := cL) (cR := cR) (stk := stk) (ask := ask) (un := nI k) (und := und) (aS := aS) (aO := aO) (aW := aW) (aH := aH) (ac := ac) (thr := thr) (ins := ins) (gon := gon) (nO := nO) (mO := mO) (rO := rO) (wy := wy) (ah := ah) (late := late) (soon := soon) (yet := yet) (cir := cir) (bed := bed) (stp := stp) (oO := oO) (oW := oW) (win := win) (wc := wc) (rn := rn) (wer := wer) (iK := iK) (kC := kC) (kep := kep) (k := w) w3
theorem s_again {c : Nat} {H : Nat → zE} {u : zU} (hc : c < 64) (hI : jIV c H u) (i : Int32) : jSt c 173 289 [.int i] H u := by
  refine jIV_e hI (fun h te tO dr pa ro fi od cs ci ga r1 r2 sw th to row gu ch now tape tp pt tt ne rd rM code rc cL cR stk ask un und aS aO aW aH ac thr ins gon nO mO rO wy ah late soon yet cir bed stp oO oW win wc rn wer iK kC kep eH hA => ?_)
  subst eH
  obtain ⟨hX, hT, hP, hR, hS, hV, hO, hC, hU, hM, hN⟩ := hA
  have hN' := hN.1
  by_cases q : i < 0 ∨ ¬ i < 3
  · have q' : i < 0 ∨ ¬ i < 3 ∨ ∃ j : Nat, i = nI j ∧ j < 3 ∧ pa.2.2.2.1.testBit j = false := q.elim Or.inl (fun z => Or.inr (Or.inl z))
    have hP1 := hP.1
    obtain ⟨F, S, K, ko, k⟩ := pa
    obtain ⟨n, rm, mt, nt, fm, vr⟩ := tO
    refine ⟨_, _, _, _, fun Q => p_again0 (d := 296) (u := u) (Q := Q) (h := (mdl h th to row gu ch now tape tp pt tt ne rd rM code rc cL cR stk ask un und aS aO aW aH ac thr ins gon nO mO rO wy ah late soon yet cir bed stp oO oW win wc rn wer iK kC kep)) (te := te) (dr := dr) (ro := ro) (fi := fi) (od := od) (cs := cs) (ci := ci) (ga := ga) (r1 := r1) (r2 := r2) (sw := sw) (n := n) (rm := rm) (mt := mt) (nt := nt) (fm := fm) (vr := vr) (F := F) (S := S) (K := K) (ko := ko) (k := k) hP1 q', fun Q => ?_, h, te, (n, rm, mt, nt, fm, vr), dr, (F, S, K, ko, k), ro, fi, od, cs, ci, ga, r1, r2, sw, 0, to, row, gu, ch, now, tape, tp, pt, tt, ne, rd, rM, code, rc, cL, cR, stk, ask, un, und, aS, aO, aW, aH, ac, thr, ins, gon, nO, mO, rO, wy, ah, late, soon, yet, cir, bed, stp, oO, oW, win, wc, rn, wer, iK, kC, kep, (wm_comm hN').symm, hX, hT, jP_up hP, hR, hS, jV_up hc hV (ve_self _), hO, hC, hU, hM, jN_up hN⟩
    rw [wm_comm hN']
    exact m_againn (d := 298) (u := u) (Q := Q) (h := (wld h te (n, rm, mt, nt, fm, vr) dr (F, S, K, ko, k) ro fi od cs ci ga r1 r2 sw)) (th := th) (to := to) (row := row) (gu := gu) (ch := ch) (now := now) (tape := tape) (tp := tp) (pt := pt) (tt := tt) (ne := ne) (rd := rd) (rM := rM) (code := code) (rc := rc) (cL := cL) (cR := cR) (stk := stk) (ask := ask) (un := un) (und := und) (aS := aS) (aO := aO) (aW := aW) (aH := aH) (ac := ac) (thr := thr) (ins := ins) (gon := gon) (nO := nO) (mO := mO) (rO := rO) (wy := wy) (ah := ah) (late := late) (soon := soon) (yet := yet) (cir := cir) (bed := bed) (stp := stp) (oO := oO) (oW := oW) (win := win) (wc := wc) (rn := rn) (wer := wer) (iK := iK) (kC := kC) (kep := kep) q
  · have q1 : ¬ i < 0 := fun z => q (Or.inl z)
    obtain ⟨w, hw, e⟩ := nI_of q1
    subst e
    have w3 : w < 3 := by
      have : nI w < 3 := Classical.byContradiction (fun z => q (Or.inr z))
      rw [show (3 : Int32) = nI 3 from rfl, nI_ult hw (by decide)] at this
      exact this
    obtain ⟨p1, rfl, p3, p4, x, p5, p6⟩ := hP
    have kd := kpt_dec p4 w3
    obtain ⟨F, S, K, ko, k⟩ := pa
    obtain ⟨n, rm, mt, nt, fm, vr⟩ := tO
    dsimp only at kd p3 p4
    by_cases kb : ko.testBit w = true
    · obtain ⟨k1, k2⟩ := kd.mp kb
      obtain ⟨cc, c1, c2, c3⟩ := p4
      obtain ⟨-, -, sl⟩ := (c3 w w3).1 kb
      obtain ⟨rm', mt', nt', fm', a1, a2, a3, a4, a5, a6, a7, a8, a9, a10, a11⟩ := slot_get sl rm mt nt hT.1.1.2.1 hT.1.1.2.2.1 hT.1.1.2.2.2
      have hr' : relT (n, rm', mt', nt', fm', vr + 1) (itr (agF kep w) now 57) := ⟨⟨hT.1.1.1, a1, a2, a3⟩, a4, now_cg hT.1.1.1 a5 (fun i hi => by rw [ag_at, if_pos hi])⟩
      refine ⟨_, _, _, _, fun Q => p_again (d := 296) (u := u) (Q := Q) (h := (mdl h th to row gu ch now tape tp pt tt ne rd rM code rc cL cR stk ask (nI k) und aS aO aW aH ac thr ins gon nO mO rO wy ah late soon yet cir bed stp oO oW win wc rn wer iK kC kep)) (te := te) (dr := dr) (ro := ro) (fi := fi) (od := od) (cs := cs) (ci := ci) (ga := ga) (r1 := r1) (r2 := r2) (sw := sw) hT.1.1 p1 w3 kb a2 a3 a1 a10 a11 a9 a6 a7 a8, fun Q => ?_, h, te, (n, rm', mt', nt', fm', vr + 1), dr, (F, S, K, ko, 0), ro, fi, od, cs, ci, ga, r1, r2, sw, 0, to, row, gu, ch, (itr (agF kep w) now 57), tape, tp, pt, tt, ne, rd, rM, code, rc, cL, cR, stk, ask, 0, und, aS, aO, aW, aH, ac, thr, ins, gon, nO, mO, rO, wy, ah, late, soon, yet, cir, bed, stp, oO, oW, win, wc, rn, wer, iK, kC, kep, (wm_comm hN').symm, hX, ⟨hr', hT.2⟩, jP_up ⟨⟨by show 0 ≤ 15; decide, p1.2⟩, rfl, fun j hj => absurd hj (Nat.not_lt_zero _), ⟨cc, c1, c2, c3⟩, x, p5, p6⟩, hR, hS, jV_up hc hV (ve_1 rfl), jO_up hc hV hO (ve_1 rfl), hC, hU, hM, jN_up hN⟩
      rw [wm_comm hN']
      exact m_again (d := 298) (u := u) (Q := Q) (h := (wld h te (n, rm', mt', nt', fm', vr + 1) dr (F, S, K, ko, 0) ro fi od cs ci ga r1 r2 sw)) (th := th) (to := to) (row := row) (gu := gu) (ch := ch) (now := now) (tape := tape) (tp := tp) (pt := pt) (tt := tt) (ne := ne) (rd := rd) (rM := rM) (code := code) (rc := rc) (cL := cL) (cR := cR) (stk := stk) (ask := ask) (un := nI k) (und := und) (aS := aS) (aO := aO) (aW := aW) (aH := aH) (ac := ac) (thr := thr) (ins := ins) (gon := gon) (nO := nO) (mO := mO) (rO := rO) (wy := wy) (ah := ah) (late := late) (soon := soon) (yet := yet) (cir := cir) (bed := bed) (stp := stp) (oO := oO) (oW := oW) (win := win) (wc := wc) (rn := rn) (wer := wer) (iK := iK) (kC := kC) (kep := kep) (k := w) w3 k1 k2
    · have kb' : ko.testBit w = false := by cases e : ko.testBit w <;> simp_all
      have q' : nI w < 0 ∨ ¬ nI w < 3 ∨ ∃ j : Nat, nI w = nI j ∧ j < 3 ∧ ko.testBit j = false := Or.inr (Or.inr ⟨w, rfl, w3, kb'⟩)
      refine ⟨_, _, _, _, fun Q => p_again0 (d := 296) (u := u) (Q := Q) (h := (mdl h th to row gu ch now tape tp pt tt ne rd rM code rc cL cR stk ask (nI k) und aS aO aW aH ac thr ins gon nO mO rO wy ah late soon yet cir bed stp oO oW win wc rn wer iK kC kep)) (te := te) (dr := dr) (ro := ro) (fi := fi) (od := od) (cs := cs) (ci := ci) (ga := ga) (r1 := r1) (r2 := r2) (sw := sw) (n := n) (rm := rm) (mt := mt) (nt := nt) (fm := fm) (vr := vr) (F := F) (S := S) (K := K) (ko := ko) (k := k) p1 q', fun Q => ?_, h, te, (n, rm, mt, nt, fm, vr), dr, (F, S, K, ko, k), ro, fi, od, cs, ci, ga, r1, r2, sw, 0, to, row, gu, ch, now, tape, tp, pt, tt, ne, rd, rM, code, rc, cL, cR, stk, ask, (nI k), und, aS, aO, aW, aH, ac, thr, ins, gon, nO, mO, rO, wy, ah, late, soon, yet, cir, bed, stp, oO, oW, win, wc, rn, wer, iK, kC, kep, (wm_comm hN').symm, hX, hT, jP_up ⟨p1, rfl, p3, p4, x, p5, p6⟩, hR, hS, jV_up hc hV (ve_self _), hO, hC, hU, hM, jN_up hN⟩
      rw [wm_comm hN']
      refine m_again0 (d := 298) (u := u) (Q := Q) (h := (wld h te (n, rm, mt, nt, fm, vr) dr (F, S, K, ko, k) ro fi od cs ci ga r1 r2 sw)) (th := th) (to := to) (row := row) (gu := gu) (ch := ch) (now := now) (tape := tape) (tp := tp) (pt := pt) (tt := tt) (ne := ne) (rd := rd) (rM := rM) (code := code) (rc := rc) (cL := cL) (cR := cR) (stk := stk) (ask := ask) (un := nI k) (und := und) (aS := aS) (aO := aO) (aW := aW) (aH := aH) (ac := ac) (thr := thr) (ins := ins) (gon := gon) (nO := nO) (mO := mO) (rO := rO) (wy := wy) (ah := ah) (late := late) (soon := soon) (yet := yet) (cir := cir) (bed := bed) (stp := stp) (oO := oO) (oW := oW) (win := win) (wc := wc) (rn := rn) (wer := wer) (iK := iK) (kC := kC) (kep := kep) (k := w) w3 ?_
      by_cases z : iK w = 0
      · exact Or.inl z
      · exact Or.inr (fun z2 => kb (kd.mpr ⟨z, z2⟩))
theorem s_count {c : Nat} {H : Nat → zE} {u : zU} (hc : c < 64) (hI : jIV c H u) (x : Int32) : jSt c 174 290 [.int x] H u := by
  refine jIV_e hI (fun h te tO dr pa ro fi od cs ci ga r1 r2 sw th to row gu ch now tape tp pt tt ne rd rM code rc cL cR stk ask un und aS aO aW aH ac thr ins gon nO mO rO wy ah late soon yet cir bed stp oO oW win wc rn wer iK kC kep eH hA => ?_)
  subst eH
  obtain ⟨hX, hT, hP, hR, hS, hV, hO, hC, hU, hM, hN⟩ := hA
  have hN' := hN.1
  have ec := cnt_eq2 hT.1 (x := x) (k := pa.2.2.2.2) (rk := ro.1) (len := te.1)
  rw [← hP.2.1, ← hX.2.1, hR.2.1] at ec
  have p := fun Q => p_count (d := 296) (u := u) (Q := Q) (h := (mdl h th to row gu ch now tape tp pt tt ne rd rM code rc cL cR stk ask un und aS aO aW aH ac thr ins gon nO mO rO wy ah late soon yet cir bed stp oO oW win wc rn wer iK kC kep)) (te := te) (dr := dr) (ro := ro) (fi := fi) (od := od) (cs := cs) (ci := ci) (ga := ga) (r1 := r1) (r2 := r2) (sw := sw) (F := pa.1) (S := pa.2.1) (K := pa.2.2.1) (ko := pa.2.2.2.1) (k := pa.2.2.2.2) (n := tO.1) (rm := tO.2.1) (mt := tO.2.2.1) (nt := tO.2.2.2.1) (fm := tO.2.2.2.2.1) (vr := tO.2.2.2.2.2) hT.1.1 (x := x)
  have ec' : cntO x (tO.1, tO.2.1, tO.2.2.1, tO.2.2.2.1, tO.2.2.2.2.1, tO.2.2.2.2.2) pa.2.2.2.2 ro.1 te.1 = ctV now tO.1 un to tp x := ec
  rw [ec'] at p
  refine ⟨_, _, _, _, p, fun Q => ?_, h, te, tO, dr, pa, ro, fi, od, cs, ci, ga, r1, r2, sw, 0, to, row, gu, ch, now, tape, tp, pt, tt, ne, rd, rM, code, rc, cL, cR, stk, ask, un, und, aS, aO, aW, aH, ac, thr, ins, gon, nO, mO, rO, wy, ah, late, soon, yet, cir, bed, stp, oO, oW, win, wc, rn, wer, iK, kC, kep, (wm_comm hN').symm, hX, hT, jP_up hP, hR, hS, jV_up hc hV (ve_self _), hO, hC, hU, hM, jN_up hN⟩
  show zK 300 290 [.ref 54, .int x] ((wld ((mdl h th to row gu ch now tape tp pt tt ne rd rM code rc cL cR stk ask un und aS aO aW aH ac thr ins gon nO mO rO wy ah late soon yet cir bed stp oO oW win wc rn wer iK kC kep)) te tO dr pa ro fi od cs ci ga r1 r2 sw), u) Q = _
  rw [wm_comm hN', hT.2]
  exact m_count (d := 296) (u := u) (Q := Q) (h := (wld h te tO dr pa ro fi od cs ci ga r1 r2 sw)) (th := th) (to := to) (row := row) (ch := ch) (now := now) (tape := tape) (tp := tp) (pt := pt) (tt := tt) (ne := ne) (rd := rd) (rM := rM) (code := code) (rc := rc) (cL := cL) (cR := cR) (stk := stk) (ask := ask) (un := un) (und := und) (aS := aS) (aO := aO) (aW := aW) (aH := aH) (ac := ac) (thr := thr) (ins := ins) (gon := gon) (nO := nO) (mO := mO) (rO := rO) (wy := wy) (ah := ah) (late := late) (soon := soon) (yet := yet) (cir := cir) (bed := bed) (stp := stp) (oO := oO) (oW := oW) (win := win) (wc := wc) (rn := rn) (wer := wer) (iK := iK) (kC := kC) (kep := kep) (n := tO.1) hT.1.1.1
theorem s_sheet {c : Nat} {H : Nat → zE} {u : zU} (hc : c < 64) (hI : jIV c H u) (k m f s : Int32) : jSt c 137 217 [.int k, .int m, .int f, .int s] H u := by
  refine jIV_e hI (fun h te tO dr pa ro fi od cs ci ga r1 r2 sw th to row gu ch now tape tp pt tt ne rd rM code rc cL cR stk ask un und aS aO aW aH ac thr ins gon nO mO rO wy ah late soon yet cir bed stp oO oW win wc rn wer iK kC kep eH hA => ?_)
  subst eH
  obtain ⟨hX, hT, hP, hR, hS, hV, hO, hC, hU, hM, hN⟩ := hA
  have hN' := hN.1
  obtain ⟨n, rm, mt, nt, fm, vr⟩ := tO
  have hn : n ≤ 7 := hT.1.1.1
  have p := fun Q => p_sheet (d := 298) (u := u) (Q := Q) (h := (mdl h th to row gu ch now tape tp pt tt ne rd rM code rc cL cR stk ask un und aS aO aW aH ac thr ins gon nO mO rO wy ah late soon yet cir bed stp oO oW win wc rn wer iK kC kep)) (te := te) (dr := dr) (pa := pa) (ro := ro) (fi := fi) (od := od) (cs := cs) (ci := ci) (ga := ga) (r1 := r1) (r2 := r2) (sw := sw) hT.1.1 (k := k) (m := m) (f := f) (s := s)
  have go : ∀ (a : Int32), sheetO (n, rm, mt, nt, fm, vr) k m f s = (a, (n, rm, mt, nt, fm, vr)) → (∀ h Q, zK 300 217 [.ref 54, .int k, .int m, .int f, .int s] ((mdl h th to row gu ch now tape tp pt tt ne rd rM code rc cL cR stk ask un und aS aO aW aH ac thr ins gon nO mO rO wy ah late soon yet cir bed stp oO oW win wc rn wer iK kC kep), u) Q = Q (some (.int a), ((mdl h 0 to row gu ch now tape tp pt tt ne rd rM code rc cL cR stk ask un und aS aO aW aH ac thr ins gon nO mO rO wy ah late soon yet cir bed stp oO oW win wc rn wer iK kC kep), u))) → jSt c 137 217 [.int k, .int m, .int f, .int s] (wld ((mdl h th to row gu ch now tape tp pt tt ne rd rM code rc cL cR stk ask un und aS aO aW aH ac thr ins gon nO mO rO wy ah late soon yet cir bed stp oO oW win wc rn wer iK kC kep)) te (n, rm, mt, nt, fm, vr) dr pa ro fi od cs ci ga r1 r2 sw) u := by
    intro a e hm
    rw [e] at p
    refine ⟨_, _, _, _, p, fun Q => ?_, h, te, (n, rm, mt, nt, fm, vr), dr, pa, ro, fi, od, cs, ci, ga, r1, r2, sw, 0, to, row, gu, ch, now, tape, tp, pt, tt, ne, rd, rM, code, rc, cL, cR, stk, ask, un, und, aS, aO, aW, aH, ac, thr, ins, gon, nO, mO, rO, wy, ah, late, soon, yet, cir, bed, stp, oO, oW, win, wc, rn, wer, iK, kC, kep, (wm_comm hN').symm, hX, hT, jP_up hP, hR, hS, jV_up hc hV (ve_self _), hO, hC, hU, hM, jN_up hN⟩
    rw [wm_comm hN']
    exact hm _ Q
  have gu' := hT.2
  dsimp only at gu'
  subst gu'
  by_cases q1 : k < 0 ∨ 3 < k ∨ 7 < m
  · exact go (-1) (by unfold sheetO; rw [if_pos q1]) (fun h Q => m_sheet1 (d := 298) (u := u) (Q := Q) (h := h) (th := th) (to := to) (row := row) (ch := ch) (now := now) (tape := tape) (tp := tp) (pt := pt) (tt := tt) (ne := ne) (rd := rd) (rM := rM) (code := code) (rc := rc) (cL := cL) (cR := cR) (stk := stk) (ask := ask) (un := un) (und := und) (aS := aS) (aO := aO) (aW := aW) (aH := aH) (ac := ac) (thr := thr) (ins := ins) (gon := gon) (nO := nO) (mO := mO) (rO := rO) (wy := wy) (ah := ah) (late := late) (soon := soon) (yet := yet) (cir := cir) (bed := bed) (stp := stp) (oO := oO) (oW := oW) (win := win) (wc := wc) (rn := rn) (wer := wer) (iK := iK) (kC := kC) (kep := kep) (n := n) q1)
  · have k0 : ¬ k < 0 := fun z => q1 (Or.inl z)
    have k3 : ¬ 3 < k := fun z => q1 (Or.inr (Or.inl z))
    have m7 : ¬ 7 < m := fun z => q1 (Or.inr (Or.inr z))
    have chg : ∀ (a cc : Int32), cc = (if k = 3 then 0 else m) → (k = 3 ∨ ¬ m < 0) → sheetO (n, rm, mt, nt, fm, vr) k m f s = (a, (n, shF k cc f s rm n, mt, nt, fm, vr + 1)) → a = (if k = 3 then -3 else itr (srF (itr (shM k m f s) now n)) 0 n) → jSt c 137 217 [.int k, .int m, .int f, .int s] (wld ((mdl h th to row (nI n) ch now tape tp pt tt ne rd rM code rc cL cR stk ask un und aS aO aW aH ac thr ins gon nO mO rO wy ah late soon yet cir bed stp oO oW win wc rn wer iK kC kep)) te (n, rm, mt, nt, fm, vr) dr pa ro fi od cs ci ga r1 r2 sw) u := by
      intro a cc hcc h4 e ea
      rw [e, ea] at p
      have hr' : relT (n, shF k cc f s rm n, mt, nt, fm, vr + 1) (itr (shM k m f s) now n) := ⟨⟨hn, shF_le hT.1.1.2.1 n, hT.1.1.2.2⟩, hT.1.2.1, sh_rel hn hT.1.2.2 hcc n (Nat.le_refl _)⟩
      refine ⟨_, _, _, _, p, fun Q => ?_, h, te, (n, shF k cc f s rm n, mt, nt, fm, vr + 1), dr, pa, ro, fi, od, cs, ci, ga, r1, r2, sw, 0, to, row, (nI n), ch, (itr (shM k m f s) now n), tape, tp, pt, tt, ne, rd, rM, code, rc, cL, cR, stk, ask, un, und, aS, aO, aW, aH, ac, thr, ins, gon, nO, mO, rO, wy, ah, late, soon, yet, cir, bed, stp, oO, oW, win, wc, rn, wer, iK, kC, kep, (wm_comm hN').symm, hX, ⟨hr', rfl⟩, jP_up hP, hR, hS, jV_up hc hV (ve_1 rfl), jO_up hc hV hO (ve_1 rfl), hC, hU, hM, jN_up hN⟩
      rw [wm_comm hN']
      exact m_sheet (d := 298) (u := u) (Q := Q) (h := (wld h te (n, shF k cc f s rm n, mt, nt, fm, vr + 1) dr pa ro fi od cs ci ga r1 r2 sw)) (th := th) (to := to) (row := row) (ch := ch) (now := now) (tape := tape) (tp := tp) (pt := pt) (tt := tt) (ne := ne) (rd := rd) (rM := rM) (code := code) (rc := rc) (cL := cL) (cR := cR) (stk := stk) (ask := ask) (un := un) (und := und) (aS := aS) (aO := aO) (aW := aW) (aH := aH) (ac := ac) (thr := thr) (ins := ins) (gon := gon) (nO := nO) (mO := mO) (rO := rO) (wy := wy) (ah := ah) (late := late) (soon := soon) (yet := yet) (cir := cir) (bed := bed) (stp := stp) (oO := oO) (oW := oW) (win := win) (wc := wc) (rn := rn) (wer := wer) (iK := iK) (kC := kC) (kep := kep) (n := n) hn k0 k3 m7 h4 rfl
    by_cases q2 : k = 3
    · exact chg (-3) 0 (by rw [if_pos q2]) (Or.inl q2) (by unfold sheetO; rw [if_neg q1, if_pos q2]) (by rw [if_pos q2])
    · by_cases q3 : m < 0
      · exact go (-2) (by unfold sheetO; rw [if_neg q1, if_neg q2, if_pos q3]) (fun h Q => m_sheet2 (d := 298) (u := u) (Q := Q) (h := h) (th := th) (to := to) (row := row) (ch := ch) (now := now) (tape := tape) (tp := tp) (pt := pt) (tt := tt) (ne := ne) (rd := rd) (rM := rM) (code := code) (rc := rc) (cL := cL) (cR := cR) (stk := stk) (ask := ask) (un := un) (und := und) (aS := aS) (aO := aO) (aW := aW) (aH := aH) (ac := ac) (thr := thr) (ins := ins) (gon := gon) (nO := nO) (mO := mO) (rO := rO) (wy := wy) (ah := ah) (late := late) (soon := soon) (yet := yet) (cir := cir) (bed := bed) (stp := stp) (oO := oO) (oW := oW) (win := win) (wc := wc) (rn := rn) (wer := wer) (iK := iK) (kC := kC) (kep := kep) (n := n) k0 k3 m7 q2 q3)
      · refine chg (nI (rsum (shF k m f s rm n) n)) m (by rw [if_neg q2]) (Or.inr q3) (by unfold sheetO; rw [if_neg q1, if_neg q2, if_neg q3]) ?_
        rw [if_neg q2]
        exact (rs_eq (sh_rel hn hT.1.2.2 (kind := k) (nn := m) (f := f) (s := s) (c := m) (by rw [if_neg q2]) n (Nat.le_refl _)) n (Nat.le_refl _)).symm

