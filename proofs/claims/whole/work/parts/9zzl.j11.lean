/-! steps: rings, rooms, circles, bargains, games -/
theorem t3_R {p : Nat → Nat → Nat → Bool} {n : Nat} {rf row : Nat → Int64} : (itr (t3H p n) (0, 0, rf) n).1 = (itr (t3H p n) (0, 0, row) n).1 ∧ rowR (itr (t3H p n) (0, 0, rf) n).2 (itr (t3H p n) (0, 0, row) n).2 := by
  refine itr_two (R := fun _ (r r' : Int32 × cRow) => r.1 = r'.1 ∧ rowR r.2 r'.2) (x := (0, 0, rf)) (y := (0, 0, row)) ⟨rfl, row_0⟩ n (fun a r r' _ h => ?_)
  refine itr_two (R := fun _ (r r' : Int32 × cRow) => r.1 = r'.1 ∧ rowR r.2 r'.2) h (n - (a + 1)) (fun b r r' _ h => ?_)
  refine itr_two (R := fun _ (r r' : Int32 × cRow) => r.1 = r'.1 ∧ rowR r.2 r'.2) h (n - (a + 1 + b + 1)) (fun j r r' _ h => ?_)
  unfold t3F
  rw [h.1]
  split
  · split
    · exact ⟨rfl, row_3⟩
    · exact ⟨rfl, h.2⟩
  · exact h
theorem rt_R {v : Int32} {rf row : Nat → Int64} : (itr (rtG v) (0, 0, rf) 10).1 = (itr (rtG v) (0, 0, row) 10).1 ∧ rowR (itr (rtG v) (0, 0, rf) 10).2 (itr (rtG v) (0, 0, row) 10).2 := by
  refine itr_two (R := fun _ (r r' : Int32 × cRow) => r.1 = r'.1 ∧ rowR r.2 r'.2) (x := (0, 0, rf)) (y := (0, 0, row)) ⟨rfl, row_0⟩ 10 (fun a r r' _ h => ?_)
  exact itr_two (R := fun _ (r r' : Int32 × cRow) => r.1 = r'.1 ∧ rowR r.2 r'.2) h 10 (fun b r r' _ h => t2F_R rfl h.1 h.2)
/-- only the row changes -/
theorem s_row {c : Nat} {u : zU} {h : Nat → zE} {te : cText} {tO : cTold} {dr : cTold} {pa : cPast} {ro : cRow} {fi : cFits} {od : cOrd} {cs : cCst} {ci : cCir} {ga : cGam} {r1 : cRule} {r2 : cRule} {sw : Bool} {th : Int32} {to : Int32} {row : Nat → Int64} {gu : Int32} {ch : Int32} {now : Nat → Int32} {tape : Nat → Int32} {tp : Int32} {pt : Int32} {tt : Int32} {ne : Int32} {rd : Nat → Int32} {rM : Int32} {code : Nat → Int32} {rc : Nat → Int32} {cL : Int32} {cR : Int32} {stk : Nat → Int32} {ask : Nat → Int32} {un : Int32} {und : Nat → Int32} {aS : Nat → Int32} {aO : Nat → Int32} {aW : Nat → Int32} {aH : Nat → Int32} {ac : Int32} {thr : Nat → Int32} {ins : Nat → Int32} {gon : Nat → Int32} {nO : Nat → Int32} {mO : Nat → Int32} {rO : Nat → Int32} {wy : Nat → Int64} {ah : Nat → Int64} {late : Nat → Int32} {soon : Nat → Int32} {yet : Nat → Int32} {cir : Nat → Int32} {bed : Nat → Int32} {stp : Nat → Int32} {oO : Nat → Int32} {oW : Nat → Int32} {win : Nat → Int32} {wc : Nat → Int32} {rn : Int32} {wer : Nat → Int32} {iK : Nat → Int32} {kC : Nat → Int32} {kep : Nat → Int32} (hc : c < 64) (hA : jAll c u h te tO dr pa ro fi od cs ci ga r1 r2 sw th to row gu ch now tape tp pt tt ne rd rM code rc cL cR stk ask un und aS aO aW aH ac thr ins gon nO mO rO wy ah late soon yet cir bed stp oO oW win wc rn wer iK kC kep) {y y' : Nat} {as : List Value} {v : Value} {ro' : cRow} {to' : Int32} {row' : Nat → Int64} (hp : ∀ Q, zK 300 y (.ref 1 :: as) ((wld ((mdl h th to row gu ch now tape tp pt tt ne rd rM code rc cL cR stk ask un und aS aO aW aH ac thr ins gon nO mO rO wy ah late soon yet cir bed stp oO oW win wc rn wer iK kC kep)) te tO dr pa ro fi od cs ci ga r1 r2 sw), u) Q = Q (some v, ((wld ((mdl h th to row gu ch now tape tp pt tt ne rd rM code rc cL cR stk ask un und aS aO aW aH ac thr ins gon nO mO rO wy ah late soon yet cir bed stp oO oW win wc rn wer iK kC kep)) te tO dr pa ro' fi od cs ci ga r1 r2 sw), u))) (hm : ∀ h Q, zK 300 y' (.ref 54 :: as) ((mdl h th to row gu ch now tape tp pt tt ne rd rM code rc cL cR stk ask un und aS aO aW aH ac thr ins gon nO mO rO wy ah late soon yet cir bed stp oO oW win wc rn wer iK kC kep), u) Q = Q (some v, ((mdl h 0 to' row' gu ch now tape tp pt tt ne rd rM code rc cL cR stk ask un und aS aO aW aH ac thr ins gon nO mO rO wy ah late soon yet cir bed stp oO oW win wc rn wer iK kC kep), u))) (hr : jR ro' to' row') : jSt c y y' as (wld ((mdl h th to row gu ch now tape tp pt tt ne rd rM code rc cL cR stk ask un und aS aO aW aH ac thr ins gon nO mO rO wy ah late soon yet cir bed stp oO oW win wc rn wer iK kC kep)) te tO dr pa ro fi od cs ci ga r1 r2 sw) u := by
  obtain ⟨hX, hT, hP, hR, hS, hV, hO, hC, hU, hM, hN⟩ := hA
  have hN' := hN.1
  refine ⟨_, _, _, _, hp, fun Q => ?_, h, te, tO, dr, pa, ro', fi, od, cs, ci, ga, r1, r2, sw, 0, to', row', gu, ch, now, tape, tp, pt, tt, ne, rd, rM, code, rc, cL, cR, stk, ask, un, und, aS, aO, aW, aH, ac, thr, ins, gon, nO, mO, rO, wy, ah, late, soon, yet, cir, bed, stp, oO, oW, win, wc, rn, wer, iK, kC, kep, (wm_comm hN').symm, hX, hT, jP_up hP, hr, hS, jV_up hc hV (ve_self _), hO, hC, hU, hM, jN_up hN⟩
  rw [wm_comm hN']
  exact hm _ Q
theorem th0 {f : Nat → Int64} : thB 0 ((0 : Int32), 0, f) := ⟨0, Nat.le_refl _, rfl, fun _ => rfl, by show 0 ≤ 14; decide⟩
theorem thB_14 {m : Nat} {r : Int32 × cRow} (h : thB m r) : r.2.1 ≤ 14 := by
  obtain ⟨k, -, -, -, h⟩ := h
  exact h
theorem s_rests {c : Nat} {H : Nat → zE} {u : zU} (hc : c < 64) (hI : jIV c H u) (v : Int32) : jSt c 170 285 [.int v] H u := by
  refine jIV_e hI (fun h te tO dr pa ro fi od cs ci ga r1 r2 sw th to row gu ch now tape tp pt tt ne rd rM code rc cL cR stk ask un und aS aO aW aH ac thr ins gon nO mO rO wy ah late soon yet cir bed stp oO oW win wc rn wer iK kC kep eH hA => ?_)
  subst eH
  have hR := hA.2.2.2.1
  obtain ⟨rk, rf⟩ := ro
  have p := fun Q => p_rests (d := 296) (u := u) (Q := Q) (h := (mdl h th to row gu ch now tape tp pt tt ne rd rM code rc cL cR stk ask un und aS aO aW aH ac thr ins gon nO mO rO wy ah late soon yet cir bed stp oO oW win wc rn wer iK kC kep)) (te := te) (tO := tO) (dr := dr) (pa := pa) (rk := rk) (rf := rf) (fi := fi) (od := od) (cs := cs) (ci := ci) (ga := ga) (r1 := r1) (r2 := r2) (sw := sw) hR.1 (v := v)
  by_cases q : v < 0 ∨ 20 < v
  · have e : restO v (rk, rf) = (-1, (rk, rf)) := if_pos q
    rw [e] at p
    exact s_row hc hA p (fun h Q => m_restsn (d := 296) (u := u) (Q := Q) (h := h) (th := th) (to := to) (row := row) (gu := gu) (ch := ch) (now := now) (tape := tape) (tp := tp) (pt := pt) (tt := tt) (ne := ne) (rd := rd) (rM := rM) (code := code) (rc := rc) (cL := cL) (cR := cR) (stk := stk) (ask := ask) (un := un) (und := und) (aS := aS) (aO := aO) (aW := aW) (aH := aH) (ac := ac) (thr := thr) (ins := ins) (gon := gon) (nO := nO) (mO := mO) (rO := rO) (wy := wy) (ah := ah) (late := late) (soon := soon) (yet := yet) (cir := cir) (bed := bed) (stp := stp) (oO := oO) (oW := oW) (win := win) (wc := wc) (rn := rn) (wer := wer) (iK := iK) (kC := kC) (kep := kep) q) hR
  · have e : restO v (rk, rf) = itr (rtG v) (0, 0, rf) 10 := if_neg q
    rw [e] at p
    obtain ⟨r1', r2'⟩ := rt_R (v := v) (rf := rf) (row := row)
    rw [r1'] at p
    refine s_row hc hA p (fun h Q => ?_) ⟨thB_14 (rtG_I th0 10 (Nat.le_refl _)), rowM_R r2'⟩
    have m := m_rests (d := 296) (u := u) (Q := Q) (h := h) (th := th) (to := to) (row := row) (gu := gu) (ch := ch) (now := now) (tape := tape) (tp := tp) (pt := pt) (tt := tt) (ne := ne) (rd := rd) (rM := rM) (code := code) (rc := rc) (cL := cL) (cR := cR) (stk := stk) (ask := ask) (un := un) (und := und) (aS := aS) (aO := aO) (aW := aW) (aH := aH) (ac := ac) (thr := thr) (ins := ins) (gon := gon) (nO := nO) (mO := mO) (rO := rO) (wy := wy) (ah := ah) (late := late) (soon := soon) (yet := yet) (cir := cir) (bed := bed) (stp := stp) (oO := oO) (oW := oW) (win := win) (wc := wc) (rn := rn) (wer := wer) (iK := iK) (kC := kC) (kep := kep) (v := v) (fun z => q (Or.inl z)) (fun z => q (Or.inr z))
    rw [rsN_eq] at m
    exact m
theorem s_threes {c : Nat} {H : Nat → zE} {u : zU} (hc : c < 64) (hI : jIV c H u) : jSt c 162 274 [] H u := by
  refine jIV_e hI (fun h te tO dr pa ro fi od cs ci ga r1 r2 sw th to row gu ch now tape tp pt tt ne rd rM code rc cL cR stk ask un und aS aO aW aH ac thr ins gon nO mO rO wy ah late soon yet cir bed stp oO oW win wc rn wer iK kC kep eH hA => ?_)
  subst eH
  have hR := hA.2.2.2.1
  have hT := hA.2.1
  obtain ⟨rk, rf⟩ := ro
  obtain ⟨n, rm, mt, nt, fm, vr⟩ := tO
  obtain ⟨tu, be⟩ := ci
  have hn : n ≤ 7 := hT.1.1.1
  have p := fun Q => p_threes (d := 295) (u := u) (Q := Q) (h := (mdl h th to row gu ch now tape tp pt tt ne rd rM code rc cL cR stk ask un und aS aO aW aH ac thr ins gon nO mO rO wy ah late soon yet cir bed stp oO oW win wc rn wer iK kC kep)) (te := te) (dr := dr) (pa := pa) (rk := rk) (rf := rf) (fi := fi) (od := od) (cs := cs) (tu := tu) (be := be) (ga := ga) (r1 := r1) (r2 := r2) (sw := sw) hT.1.1 hR.1
  have te' := thr_eq hT.1.2.1 hT.1.2.2
  obtain ⟨q1, q2⟩ := t3_R (p := farB mt nt n) (n := n) (rf := rf) (row := row)
  rw [q1] at p
  have i14 : (itr (t3H (farB mt nt n) n) (0, 0, rf) n).2.1 ≤ 14 := thB_14 (t3H_I hn th0 n hn)
  refine s_row hc hA p (fun h Q => ?_) ⟨i14, rowM_R q2⟩
  have m := m_threes (d := 295) (u := u) (Q := Q) (h := h) (th := th) (to := to) (row := row) (ch := ch) (now := now) (tape := tape) (tp := tp) (pt := pt) (tt := tt) (ne := ne) (rd := rd) (rM := rM) (code := code) (rc := rc) (cL := cL) (cR := cR) (stk := stk) (ask := ask) (un := un) (und := und) (aS := aS) (aO := aO) (aW := aW) (aH := aH) (ac := ac) (thr := thr) (ins := ins) (gon := gon) (nO := nO) (mO := mO) (rO := rO) (wy := wy) (ah := ah) (late := late) (soon := soon) (yet := yet) (cir := cir) (bed := bed) (stp := stp) (oO := oO) (oW := oW) (win := win) (wc := wc) (rn := rn) (wer := wer) (iK := iK) (kC := kC) (kep := kep) (n := n) hn
  rw [te'] at m
  have g : gu = nI n := hT.2
  rw [g]
  exact m
theorem s_circle {c : Nat} {H : Nat → zE} {u : zU} (hc : c < 64) (hI : jIV c H u) : jSt c 164 277 [] H u := by
  refine jIV_e hI (fun h te tO dr pa ro fi od cs ci ga r1 r2 sw th to row gu ch now tape tp pt tt ne rd rM code rc cL cR stk ask un und aS aO aW aH ac thr ins gon nO mO rO wy ah late soon yet cir bed stp oO oW win wc rn wer iK kC kep eH hA => ?_)
  subst eH
  have hR := hA.2.2.2.1
  have hT := hA.2.1
  obtain ⟨rk, rf⟩ := ro
  obtain ⟨n, rm, mt, nt, fm, vr⟩ := tO
  obtain ⟨tu, be⟩ := ci
  have hn : n ≤ 7 := hT.1.1.1
  have p := fun Q => p_circle (d := 297) (u := u) (Q := Q) (h := (mdl h th to row gu ch now tape tp pt tt ne rd rM code rc cL cR stk ask un und aS aO aW aH ac thr ins gon nO mO rO wy ah late soon yet cir bed stp oO oW win wc rn wer iK kC kep)) (te := te) (dr := dr) (pa := pa) (rk := rk) (rf := rf) (fi := fi) (od := od) (cs := cs) (tu := tu) (be := be) (ga := ga) (r1 := r1) (r2 := r2) (sw := sw) hT.1.1 hR.1
  refine s_row hc hA p (fun h Q => ?_) ⟨by show 2 ≤ 14; decide, rowM_2 (g := row)⟩
  have m := m_circle (d := 297) (u := u) (Q := Q) (h := h) (th := th) (to := to) (row := row) (ch := ch) (now := now) (tape := tape) (tp := tp) (pt := pt) (tt := tt) (ne := ne) (rd := rd) (rM := rM) (code := code) (rc := rc) (cL := cL) (cR := cR) (stk := stk) (ask := ask) (un := un) (und := und) (aS := aS) (aO := aO) (aW := aW) (aH := aH) (ac := ac) (thr := thr) (ins := ins) (gon := gon) (nO := nO) (mO := mO) (rO := rO) (wy := wy) (ah := ah) (late := late) (soon := soon) (yet := yet) (cir := cir) (bed := bed) (stp := stp) (oO := oO) (oW := oW) (win := win) (wc := wc) (rn := rn) (wer := wer) (iK := iK) (kC := kC) (kep := kep) (n := n) hn
  rw [mgc_eq hT.1.2.1 hT.1.2.2] at m
  have g : gu = nI n := hT.2
  rw [g]
  exact m
theorem s_game {c : Nat} {H : Nat → zE} {u : zU} (hc : c < 64) (hI : jIV c H u) (m k : Int32) : jSt c 168 281 [.int m, .int k] H u := by
  refine jIV_e hI (fun h te tO dr pa ro fi od cs ci ga r1 r2 sw th to row gu ch now tape tp pt tt ne rd rM code rc cL cR stk ask un und aS aO aW aH ac thr ins gon nO mO rO wy ah late soon yet cir bed stp oO oW win wc rn wer iK kC kep eH hA => ?_)
  subst eH
  obtain ⟨hX, hT, hP, hR, hS, hV, hO, hC, hU, hM, hN⟩ := hA
  have hN' := hN.1
  obtain ⟨s1, s2, s3, w, s4, s5⟩ := hS
  obtain ⟨g1, sd⟩ := ga
  dsimp only at s4
  subst s4
  have p := fun Q => p_game (d := 296) (u := u) (Q := Q) (h := (mdl h th to row gu ch now tape tp pt tt ne rd rM code rc cL cR stk ask un und aS aO aW aH ac thr ins gon nO mO rO wy ah late soon yet cir bed stp oO oW win wc rn wer iK kC kep)) (te := te) (tO := tO) (dr := dr) (pa := pa) (ro := ro) (fi := fi) (od := od) (cs := cs) (ci := ci) (sd := sd) (r1 := r1) (r2 := r2) (sw := sw) (m := m) (k := k) s5
  by_cases q : m < 0 ∨ 60 < m ∨ k < 2 ∨ 9 < k
  · have e : gameO m k w = (-1, w) := if_pos q
    rw [e] at p
    refine ⟨_, _, _, _, p, fun Q => ?_, h, te, tO, dr, pa, ro, fi, od, cs, ci, (fun x => nI (w x), sd), r1, r2, sw, 0, to, row, gu, ch, now, tape, tp, pt, tt, ne, rd, rM, code, rc, cL, cR, stk, ask, un, und, aS, aO, aW, aH, ac, thr, ins, gon, nO, mO, rO, wy, ah, late, soon, yet, cir, bed, stp, oO, oW, win, wc, rn, wer, iK, kC, kep, (wm_comm hN').symm, hX, hT, jP_up hP, hR, ⟨s1, s2, s3, w, rfl, s5⟩, jV_up hc hV (ve_self _), hO, hC, hU, hM, jN_up hN⟩
    rw [wm_comm hN']
    exact m_gamen (d := 296) (u := u) (Q := Q) (h := (wld h te tO dr pa ro fi od cs ci (fun x => nI (w x), sd) r1 r2 sw)) (th := th) (to := to) (row := row) (gu := gu) (ch := ch) (now := now) (tape := tape) (tp := tp) (pt := pt) (tt := tt) (ne := ne) (rd := rd) (rM := rM) (code := code) (rc := rc) (cL := cL) (cR := cR) (stk := stk) (ask := ask) (un := un) (und := und) (aS := aS) (aO := aO) (aW := aW) (aH := aH) (ac := ac) (thr := thr) (ins := ins) (gon := gon) (nO := nO) (mO := mO) (rO := rO) (wy := wy) (ah := ah) (late := late) (soon := soon) (yet := yet) (cir := cir) (bed := bed) (stp := stp) (oO := oO) (oW := oW) (win := win) (wc := wc) (rn := rn) (wer := wer) (iK := iK) (kC := kC) (kep := kep) (n := m) (k := k) q
  · obtain ⟨n', hn', rfl⟩ := i_rng (v := m) (b := 60) (by decide) (fun z => q (Or.inl z)) (fun z => q (Or.inr (Or.inl z)))
    obtain ⟨k', hk', rfl⟩ := i_rng (v := k) (b := 9) (by decide) (fun z => q (Or.inr (Or.inr (Or.inl (by have z2 : k < 0 := z; exact Int32.lt_trans z2 (by decide)))))) (fun z => q (Or.inr (Or.inr (Or.inr z))))
    have k2 : 2 ≤ k' := by
      have : ¬ nI k' < 2 := fun z => q (Or.inr (Or.inr (Or.inl z)))
      rw [show (2 : Int32) = nI 2 from rfl, nI_ult (by omega) (by decide)] at this
      omega
    obtain ⟨m1, m2, m3, m4, m5, m6, m7, m8, m9, m10, cw, m11, m12⟩ := hM
    subst m11
    have e : gameO (nI n') (nI k') w = (nI (gmV n' k' cw (10 * n')), itr (wiG k') w (n' + 1)) := by
      unfold gameO
      rw [if_neg q, nI_clamp (by omega), nI_clamp (by omega), game_eq (by omega) w cw (fun l _ => wiG_lt hk' s5 (N := n' + 1) _ (Nat.le_refl _) l)]
    rw [e] at p
    have gl : ∀ i, gmV n' k' cw i < 10 := fun i => by
      unfold gmV
      exact itr_inv (N := n' + 1) (f := gmL k') (fun _ (w : Nat → Nat) => ∀ j, w j < 10) m12 (fun i y _ hy => gmL_lt (by omega) hy 10 (Nat.le_refl _)) _ (Nat.le_refl _) i
    refine ⟨_, _, _, _, p, fun Q => ?_, h, te, tO, dr, pa, ro, fi, od, cs, ci, (fun x => nI (itr (wiG k') w (n' + 1) x), sd), r1, r2, sw, 0, to, row, gu, ch, now, tape, tp, pt, tt, ne, rd, rM, code, rc, cL, cR, stk, ask, un, und, aS, aO, aW, aH, ac, thr, ins, gon, nO, mO, rO, wy, ah, late, soon, yet, cir, bed, stp, oO, oW, (fun i => nI (gmV n' k' cw i)), wc, rn, wer, iK, kC, kep, (wm_comm hN').symm, hX, hT, jP_up hP, hR, ⟨s1, s2, s3, itr (wiG k') w (n' + 1), rfl, wiG_lt hk' s5 (N := n' + 1) _ (Nat.le_refl _)⟩, jV_up hc hV (ve_self _), hO, hC, hU, ⟨m1, m2, m3, m4, m5, m6, m7, m8, m9, m10, gmV n' k' cw, rfl, gl⟩, jN_up hN⟩
    rw [wm_comm hN']
    exact m_game (d := 296) (u := u) (Q := Q) (h := (wld h te tO dr pa ro fi od cs ci (fun x => nI (itr (wiG k') w (n' + 1) x), sd) r1 r2 sw)) (th := th) (to := to) (row := row) (gu := gu) (ch := ch) (now := now) (tape := tape) (tp := tp) (pt := pt) (tt := tt) (ne := ne) (rd := rd) (rM := rM) (code := code) (rc := rc) (cL := cL) (cR := cR) (stk := stk) (ask := ask) (un := un) (und := und) (aS := aS) (aO := aO) (aW := aW) (aH := aH) (ac := ac) (thr := thr) (ins := ins) (gon := gon) (nO := nO) (mO := mO) (rO := rO) (wy := wy) (ah := ah) (late := late) (soon := soon) (yet := yet) (cir := cir) (bed := bed) (stp := stp) (oO := oO) (oW := oW) (wc := wc) (rn := rn) (wer := wer) (iK := iK) (kC := kC) (kep := kep) (n := n') (k := k') (w := cw) hn' k2 hk' m12
theorem rs_sm {mt nt : Nat → Nat} {n m x : Nat} (hn : n ≤ 7) {r : Bool × (Nat → Int32) × (Nat → Int32)} (h : smI r.2.2) : smI (rsF mt nt n m x r).2.2 := by
  obtain ⟨r1, r2, r3⟩ := r
  have cp : (rgV mt nt n x m r2).1 = true → smI (va_cpy (rgV mt nt n x m r2).2 r3 0 0 m) := by
    intro z t
    rw [cpy_at]
    by_cases c : t < m
    · rw [if_pos c]
      unfold rgV at z ⊢
      by_cases o : okF (rgB mt nt n x) 0 n = true
      · rw [if_pos o] at z ⊢
        obtain ⟨w1, w2, w3⟩ := wkR_sp (mt := mt) (n := n) (x := x) m 0 r2
        have a := w1.mp z t (Nat.zero_le _) (by omega)
        exact ⟨wkc mt x t, by omega, w3 z t (Nat.zero_le _) (by omega)⟩
      · rw [if_neg o] at z; exact absurd z Bool.false_ne_true
    · rw [if_neg c]; exact h t
  unfold rsF
  dsimp only
  split
  · split
    · rename_i z
      split
      · split
        · exact cp z
        · exact h
      · exact cp z
    · exact h
  · exact h
theorem rg_sm {mt nt : Nat → Nat} {n : Nat} (hn : n ≤ 7) {ro : cRow} : ∀ j m (ci : cCir), smI ci.2 → smI (rgO mt nt n ro m j ci).2.1.2 := by
  intro j
  induction j with
  | zero => intro m ci h; exact h
  | succ j ih =>
    intro m ci h
    have a : smI (itr (rsF mt nt n m) (false, ci) (2 ^ n)).2.2 := itr_inv (N := 2 ^ n) (f := rsF mt nt n m) (fun _ (r : Bool × (Nat → Int32) × (Nat → Int32)) => smI r.2.2) h (fun i r _ hr => rs_sm hn hr) _ (Nat.le_refl _)
    rw [rgO_s]
    split
    · exact a
    · exact ih _ _ a
theorem mr_lt {now : Nat → Int32} {n : Nat} (hn : n ≤ 7) : ∀ j m c, (∀ i, c i < 7) → ∀ i, (mrgV now n j m c).2 i < 7 := by
  intro j
  induction j with
  | zero => intro m c hc; exact hc
  | succ j ih =>
    intro m c hc
    have b := bkF_lt (B := 7) hn (fit := mrgB now m) m 0 c hc
    show ∀ i, (if (bkF n (mrgB now m) m 0 c).1 = true then (m, (bkF n (mrgB now m) m 0 c).2) else mrgV now n j (m + 1) (bkF n (mrgB now m) m 0 c).2).2 i < 7
    split
    · exact b
    · exact ih _ _ b
theorem s_ring {c : Nat} {H : Nat → zE} {u : zU} (hc : c < 64) (hI : jIV c H u) : jSt c 161 271 [] H u := by
  refine jIV_e hI (fun h te tO dr pa ro fi od cs ci ga r1 r2 sw th to row gu ch now tape tp pt tt ne rd rM code rc cL cR stk ask un und aS aO aW aH ac thr ins gon nO mO rO wy ah late soon yet cir bed stp oO oW win wc rn wer iK kC kep eH hA => ?_)
  subst eH
  obtain ⟨hX, hT, hP, hR, hS, hV, hO, hC, hU, hM, hN⟩ := hA
  have hN' := hN.1
  obtain ⟨rk, rf⟩ := ro
  obtain ⟨n, rm, mt, nt, fm, vr⟩ := tO
  have hn : n ≤ 7 := hT.1.1.1
  have g : gu = nI n := hT.2
  subst g
  obtain ⟨m1, m2, m3, m4, m5, m6, ⟨cc, m7, m7'⟩, m8, m9, m10, m11⟩ := hM
  subst m7
  have p := fun Q => p_ring (d := 294) (u := u) (Q := Q) (h := (mdl h th to row (nI n) ch now tape tp pt tt ne rd rM code rc cL cR stk ask un und aS aO aW aH ac thr ins gon nO mO rO wy ah late soon yet (fun i => nI (cc i)) bed stp oO oW win wc rn wer iK kC kep)) (te := te) (dr := dr) (pa := pa) (rk := rk) (rf := rf) (fi := fi) (od := od) (cs := cs) (ci := ci) (ga := ga) (r1 := r1) (r2 := r2) (sw := sw) hT.1.1 hR.1
  have mr := fun h Q => m_ring (d := 234) (u := u) (Q := Q) (h := h) (th := th) (to := to) (row := row) (ch := ch) (now := now) (tape := tape) (tp := tp) (pt := pt) (tt := tt) (ne := ne) (rd := rd) (rM := rM) (code := code) (rc := rc) (cL := cL) (cR := cR) (stk := stk) (ask := ask) (un := un) (und := und) (aS := aS) (aO := aO) (aW := aW) (aH := aH) (ac := ac) (thr := thr) (ins := ins) (gon := gon) (nO := nO) (mO := mO) (rO := rO) (wy := wy) (ah := ah) (late := late) (soon := soon) (yet := yet) (bed := bed) (stp := stp) (oO := oO) (oW := oW) (win := win) (wc := wc) (rn := rn) (wer := wer) (iK := iK) (kC := kC) (kep := kep) (n := n) hn m7' (q := mrgV now n (n - 3) 4 cc) rfl
  have sm : smI (rgO mt nt n (rk, rf) 4 (n + 1 - 4) ci).2.1.2 := rg_sm hn _ _ _ hS.2.2.1
  have lt7 : ∀ i, (mrgV now n (n - 3) 4 cc).2 i < 7 := mr_lt hn _ _ _ m7'
  by_cases n3 : n < 3
  · rw [show n + 1 - 4 = 0 by omega] at p
    rw [show n - 3 = 0 by omega] at mr
    have e0 : (mrgV now n 0 4 cc).1 = 0 := rfl
    simp only [e0, if_true] at mr
    refine ⟨_, _, _, _, p, fun Q => ?_, h, te, (n, rm, mt, nt, fm, vr), dr, pa, (rk, rf), fi, od, cs, ci, ga, r1, r2, sw, 0, to, row, (nI n), ch, now, tape, tp, pt, tt, ne, rd, rM, code, rc, cL, cR, stk, ask, un, und, aS, aO, aW, aH, ac, thr, ins, gon, nO, mO, rO, wy, ah, late, soon, yet, (fun i => nI (cc i)), bed, stp, oO, oW, win, wc, rn, wer, iK, kC, kep, (wm_comm hN').symm, hX, hT, jP_up hP, hR, hS, jV_up hc hV (ve_self _), hO, hC, hU, ⟨m1, m2, m3, m4, m5, m6, ⟨_, rfl, m7'⟩, m8, m9, m10, m11⟩, jN_up hN⟩
    rw [wm_comm hN']
    exact mr _ Q
  · have re := ring_eq (ro := (rk, rf)) (row := row) hT.1.2.1 hT.1.2.2 (n - 3) 4 ci cc (by decide) (by omega)
    rw [show n + 1 - 4 = n - 3 by omega] at p sm
    rcases re with ⟨e1, e2, e3⟩ | ⟨e1, e2, e3, e4⟩
    · simp only [e3, if_true] at mr
      rw [e1, e2] at p
      refine ⟨_, _, _, _, p, fun Q => ?_, h, te, (n, rm, mt, nt, fm, vr), dr, pa, (rk, rf), fi, od, cs, (rgO mt nt n (rk, rf) 4 (n - 3) ci).2.1, ga, r1, r2, sw, 0, to, row, (nI n), ch, now, tape, tp, pt, tt, ne, rd, rM, code, rc, cL, cR, stk, ask, un, und, aS, aO, aW, aH, ac, thr, ins, gon, nO, mO, rO, wy, ah, late, soon, yet, (fun i => nI ((mrgV now n (n - 3) 4 cc).2 i)), bed, stp, oO, oW, win, wc, rn, wer, iK, kC, kep, (wm_comm hN').symm, hX, hT, jP_up hP, hR, ⟨hS.1, hS.2.1, sm, hS.2.2.2⟩, jV_up hc hV (ve_self _), hO, hC, hU, ⟨m1, m2, m3, m4, m5, m6, ⟨_, rfl, lt7⟩, m8, m9, m10, m11⟩, jN_up hN⟩
      rw [wm_comm hN']
      exact mr _ Q
    · simp only [e1, if_false] at mr
      rw [e3] at p
      refine ⟨_, _, _, _, p, fun Q => ?_, h, te, (n, rm, mt, nt, fm, vr), dr, pa, (rgO mt nt n (rk, rf) 4 (n - 3) ci).2.2, fi, od, cs, (rgO mt nt n (rk, rf) 4 (n - 3) ci).2.1, ga, r1, r2, sw, 0, (nI (mrgV now n (n - 3) 4 cc).1), (itr (roF (mrgV now n (n - 3) 4 cc).2) row (mrgV now n (n - 3) 4 cc).1), (nI n), ch, now, tape, tp, pt, tt, ne, rd, rM, code, rc, cL, cR, stk, ask, un, und, aS, aO, aW, aH, ac, thr, ins, gon, nO, mO, rO, wy, ah, late, soon, yet, (fun i => nI ((mrgV now n (n - 3) 4 cc).2 i)), bed, stp, oO, oW, win, wc, rn, wer, iK, kC, kep, (wm_comm hN').symm, hX, hT, jP_up hP, ⟨by rw [e4.1]; exact Nat.le_trans e2 (by decide), rowM_R e4⟩, ⟨hS.1, hS.2.1, sm, hS.2.2.2⟩, jV_up hc hV (ve_self _), hO, hC, hU, ⟨m1, m2, m3, m4, m5, m6, ⟨_, rfl, lt7⟩, m8, m9, m10, m11⟩, jN_up hN⟩
      rw [wm_comm hN']
      exact mr _ Q

