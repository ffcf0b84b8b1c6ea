/-! the steps -/
theorem s_sign {c : Nat} {H : Nat → zE} {u : zU} (hc : c < 64) (hI : jIV c H u) (v : Int32) : jSt c 130 195 [.int v] H u := by
  refine jIV_e hI (fun h te tO dr pa ro fi od cs ci ga r1 r2 sw th to row gu ch now tape tp pt tt ne rd rM code rc cL cR stk ask un und aS aO aW aH ac thr ins gon nO mO rO wy ah late soon yet cir bed stp oO oW win wc rn wer iK kC kep eH hA => ?_)
  subst eH
  obtain ⟨hX, hT, hP, hR, hS, hV, hO, hC, hU, hM, hN⟩ := hA
  obtain ⟨hX1, rfl, rfl⟩ := hX
  have hN' := hN.1
  obtain ⟨k, sg⟩ := te
  have p := fun Q => p_sign (d := 298) (u := u) (Q := Q) (h := (mdl h th to row gu ch now (fun i => nI (sg i)) (nI k) pt tt ne rd rM code rc cL cR stk ask un und aS aO aW aH ac thr ins gon nO mO rO wy ah late soon yet cir bed stp oO oW win wc rn wer iK kC kep)) (te := (k, sg)) (tO := tO) (dr := dr) (pa := pa) (ro := ro) (fi := fi) (od := od) (cs := cs) (ci := ci) (ga := ga) (r1 := r1) (r2 := r2) (sw := sw) hX1 (v := v)
  have hk : k ≤ 80 := hX1.1
  by_cases q : k ≤ 76
  · have e : signO (k, sg) v = (nI (k + 4), (k + 4, c4 sg k v)) := if_pos q
    rw [e] at p
    refine ⟨_, _, _, _, p, fun Q => ?_, h, (k + 4, c4 sg k v), tO, dr, pa, ro, fi, od, cs, ci, ga, r1, r2, sw, 0, to, row, gu, ch, now, (fun i => nI (c4 sg k v i)), nI (k + 4), pt, tt, ne, rd, rM, code, rc, cL, cR, stk, ask, un, und, aS, aO, aW, aH, ac, thr, ins, gon, nO, mO, rO, wy, ah, late, soon, yet, cir, bed, stp, oO, oW, win, wc, rn, wer, iK, kC, kep, (wm_comm hN').symm, ⟨?_, rfl, rfl⟩, hT, jP_up hP, hR, hS, jV_up hc hV (ve_self _), hO, hC, hU, hM, jN_up hN⟩
    · rw [wm_comm hN']
      exact m_sign (d := 299) (u := u) (Q := Q) (h := (wld h (k + 4, c4 sg k v) tO dr pa ro fi od cs ci ga r1 r2 sw)) (th := th) (to := to) (row := row) (gu := gu) (ch := ch) (now := now) (pt := pt) (tt := tt) (ne := ne) (rd := rd) (rM := rM) (code := code) (rc := rc) (cL := cL) (cR := cR) (stk := stk) (ask := ask) (un := un) (und := und) (aS := aS) (aO := aO) (aW := aW) (aH := aH) (ac := ac) (thr := thr) (ins := ins) (gon := gon) (nO := nO) (mO := mO) (rO := rO) (wy := wy) (ah := ah) (late := late) (soon := soon) (yet := yet) (cir := cir) (bed := bed) (stp := stp) (oO := oO) (oW := oW) (win := win) (wc := wc) (rn := rn) (wer := wer) (iK := iK) (kC := kC) (kep := kep) (k := k) (sg := sg) q
    · refine ⟨by show k + 4 ≤ 80; omega, fun i => ?_⟩
      show c4 sg k v i < 256
      have hc := hX1.2
      exact z_up_lt2 (z_up_lt2 (z_up_lt2 (z_up_lt2 hc (bN_lt _ _)) (bN_lt _ _)) (bN_lt _ _)) (bN_lt _ _) i
  · have e : signO (k, sg) v = (-1, (k, sg)) := if_neg q
    rw [e] at p
    refine ⟨_, _, _, _, p, fun Q => ?_, h, (k, sg), tO, dr, pa, ro, fi, od, cs, ci, ga, r1, r2, sw, 0, to, row, gu, ch, now, (fun i => nI (sg i)), nI k, pt, tt, ne, rd, rM, code, rc, cL, cR, stk, ask, un, und, aS, aO, aW, aH, ac, thr, ins, gon, nO, mO, rO, wy, ah, late, soon, yet, cir, bed, stp, oO, oW, win, wc, rn, wer, iK, kC, kep, (wm_comm hN').symm, ⟨hX1, rfl, rfl⟩, hT, jP_up hP, hR, hS, jV_up hc hV (ve_self _), hO, hC, hU, hM, jN_up hN⟩
    rw [wm_comm hN']
    exact m_sign0 (d := 299) (u := u) (Q := Q) (h := (wld h (k, sg) tO dr pa ro fi od cs ci ga r1 r2 sw)) (th := th) (to := to) (row := row) (gu := gu) (ch := ch) (now := now) (pt := pt) (tt := tt) (ne := ne) (rd := rd) (rM := rM) (code := code) (rc := rc) (cL := cL) (cR := cR) (stk := stk) (ask := ask) (un := un) (und := und) (aS := aS) (aO := aO) (aW := aW) (aH := aH) (ac := ac) (thr := thr) (ins := ins) (gon := gon) (nO := nO) (mO := mO) (rO := rO) (wy := wy) (ah := ah) (late := late) (soon := soon) (yet := yet) (cir := cir) (bed := bed) (stp := stp) (oO := oO) (oW := oW) (win := win) (wc := wc) (rn := rn) (wer := wer) (iK := iK) (kC := kC) (kep := kep) (k := k) (sg := sg) (by omega) hk

