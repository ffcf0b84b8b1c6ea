/-! steps of the methods that may throw, on both sides -/
/-- both answer alike, or the class throws and the model says so -/
def jSg {α : Type} (mk : α → Value) (w0 : α) (c y y' : Nat) (M : zM) (pcT : Nat) (as : List Value) (H : Nat → zE) (u : zU) : Prop :=
  (∃ v : α, (∀ Q, zK 300 y (.ref 1 :: as) (H, u) Q = Q (some (mk v), (H, u))) ∧ ∀ e : zE, ∃ H2, (∀ Q, zK 300 y' (.ref 54 :: as) (z_up H 90 e, u) Q = Q (some (mk v), (H2, u))) ∧ (∀ Q, zK 300 180 [.ref 54] (H2, u) Q = Q (some (.int 0), (H2, u))) ∧ H2 90 = e ∧ jIV (c + 1) H2 u) ∨
  (zP 290 M (fun pc S => pc = pcT ∧ S.2.1 = [] ∧ S.2.2 = (H, u)) 0 (z_in M.2.2.2.1 (.ref 1 :: as), [], (H, u)) ∧ ∃ H2, (∀ Q, zK 300 y' (.ref 54 :: as) (H, (u.1, u.2.1 + 1, u.2.2 + 6)) Q = Q (some (mk w0), (H2, (u.1, u.2.1 + 1, u.2.2 + 6)))) ∧ (∀ Q, zK 300 180 [.ref 54] (H2, (u.1, u.2.1 + 1, u.2.2 + 6)) Q = Q (some (.int 1), (H2, (u.1, u.2.1 + 1, u.2.2 + 6)))) ∧ jIV (c + 1) H2 (u.1, u.2.1 + 1, u.2.2 + 6))
theorem W_90 {h : Nat → zE} {te : cText} {tO : cTold} {dr : cTold} {pa : cPast} {ro : cRow} {fi : cFits} {od : cOrd} {cs : cCst} {ci : cCir} {ga : cGam} {r1 : cRule} {r2 : cRule} {sw : Bool} {th : Int32} {to : Int32} {row : Nat → Int64} {gu : Int32} {ch : Int32} {now : Nat → Int32} {tape : Nat → Int32} {tp : Int32} {pt : Int32} {tt : Int32} {ne : Int32} {rd : Nat → Int32} {rM : Int32} {code : Nat → Int32} {rc : Nat → Int32} {cL : Int32} {cR : Int32} {stk : Nat → Int32} {ask : Nat → Int32} {un : Int32} {und : Nat → Int32} {aS : Nat → Int32} {aO : Nat → Int32} {aW : Nat → Int32} {aH : Nat → Int32} {ac : Int32} {thr : Nat → Int32} {ins : Nat → Int32} {gon : Nat → Int32} {nO : Nat → Int32} {mO : Nat → Int32} {rO : Nat → Int32} {wy : Nat → Int64} {ah : Nat → Int64} {late : Nat → Int32} {soon : Nat → Int32} {yet : Nat → Int32} {cir : Nat → Int32} {bed : Nat → Int32} {stp : Nat → Int32} {oO : Nat → Int32} {oW : Nat → Int32} {win : Nat → Int32} {wc : Nat → Int32} {rn : Int32} {wer : Nat → Int32} {iK : Nat → Int32} {kC : Nat → Int32} {kep : Nat → Int32} {e : zE} (hN : nm9 od cs) : z_up (wld ((mdl h th to row gu ch now tape tp pt tt ne rd rM code rc cL cR stk ask un und aS aO aW aH ac thr ins gon nO mO rO wy ah late soon yet cir bed stp oO oW win wc rn wer iK kC kep)) te tO dr pa ro fi od cs ci ga r1 r2 sw) 90 e = (wld ((mdl (z_up h 90 e) th to row gu ch now tape tp pt tt ne rd rM code rc cL cR stk ask un und aS aO aW aH ac thr ins gon nO mO rO wy ah late soon yet cir bed stp oO oW win wc rn wer iK kC kep)) te tO dr pa ro fi od cs ci ga r1 r2 sw) := by
  obtain ⟨-, h1, h2⟩ := hN
  funext j
  by_cases q : j = 90
  · subst q
    rw [z_up_s, W_hi (by decide) (by omega) (by omega), M_lo (by decide), z_up_s]
  · rw [z_up_n _ _ q]
    refine W_pt ?_
    by_cases r : 54 ≤ j ∧ j ≤ 89
    · exact M_hi r
    · rw [M_lo r, M_lo r, z_up_n _ _ q]
theorem jN_x {c : Nat} {od : cOrd} {cs : cCst} {u : zU} (h : jN c od cs u) : jN (c + 1) od cs (u.1, u.2.1 + 1, u.2.2 + 6) := by
  obtain ⟨h1, h2, h3, h4, h5, h6, h7⟩ := h
  exact ⟨h1, h2, h3, h4, by dsimp only; omega, by dsimp only; omega, by dsimp only; omega⟩
theorem s_guest {c : Nat} {H : Nat → zE} {u : zU} (hc : c < 64) (hI : jIV c H u) (x w : Int32) : jSg Value.int 0 c 135 214 MX10_guest 20 [.int x, .int w] H u := by
  refine jIV_e hI (fun h te tO dr pa ro fi od cs ci ga r1 r2 sw th to row gu ch now tape tp pt tt ne rd rM code rc cL cR stk ask un und aS aO aW aH ac thr ins gon nO mO rO wy ah late soon yet cir bed stp oO oW win wc rn wer iK kC kep eH hA => ?_)
  subst eH
  obtain ⟨hX, hT, hP, hR, hS, hV, hO, hC, hU, hM, hN⟩ := hA
  have hN' := hN.1
  obtain ⟨rk, rf⟩ := ro
  obtain ⟨n, rm, mt, nt, fm, vr⟩ := tO
  have hn : n ≤ 7 := hT.1.1.1
  have g : gu = nI n := hT.2
  subst g
  by_cases q : hasB n x = true ∧ ¬ w < 0 ∧ ¬ 3 < w
  · obtain ⟨a, ha, rfl⟩ := hasB_of hn q.1
    obtain ⟨b, hb, rfl⟩ := nI_of q.2.1
    have hb3 : b ≤ 3 := by
      have q2 : ¬ nI 3 < nI b := q.2.2
      rw [nI_ult (by decide) hb] at q2
      omega
    have ge : nI (gstV n rm mt nt a b) = gsW now n a b := gst_eq hT.1 ha hb3
    refine Or.inl ⟨nI (gstV n rm mt nt a b), fun Q => q_guest (d := 297) (u := u) (Q := Q) hT.1.1 ha hb3, fun e => ⟨(wld ((mdl (z_up h 90 e) 0 to row (nI n) ch now tape tp pt tt ne rd rM code rc cL cR stk ask un und aS aO aW aH ac thr ins gon nO mO rO wy ah late soon yet cir bed stp oO oW win wc rn wer iK kC kep)) te (n, rm, mt, nt, fm, vr) dr pa (rk, rf) fi od cs ci ga r1 r2 sw), fun Q => ?_, fun Q => ?_, ?_, z_up h 90 e, te, (n, rm, mt, nt, fm, vr), dr, pa, (rk, rf), fi, od, cs, ci, ga, r1, r2, sw, 0, to, row, nI n, ch, now, tape, tp, pt, tt, ne, rd, rM, code, rc, cL, cR, stk, ask, un, und, aS, aO, aW, aH, ac, thr, ins, gon, nO, mO, rO, wy, ah, late, soon, yet, cir, bed, stp, oO, oW, win, wc, rn, wer, iK, kC, kep, rfl, hX, hT, jP_up hP, hR, hS, jV_up hc hV (ve_self _), hO, hC, hU, hM, jN_up hN⟩⟩
    · rw [W_90 hN', wm_comm hN', wm_comm hN', ge]
      exact m_guest (d := 296) (u := u) (Q := Q) (h := (wld (z_up h 90 e) te (n, rm, mt, nt, fm, vr) dr pa (rk, rf) fi od cs ci ga r1 r2 sw)) (th := th) (to := to) (row := row) (ch := ch) (now := now) (tape := tape) (tp := tp) (pt := pt) (tt := tt) (ne := ne) (rd := rd) (rM := rM) (code := code) (rc := rc) (cL := cL) (cR := cR) (stk := stk) (ask := ask) (un := un) (und := und) (aS := aS) (aO := aO) (aW := aW) (aH := aH) (ac := ac) (thr := thr) (ins := ins) (gon := gon) (nO := nO) (mO := mO) (rO := rO) (wy := wy) (ah := ah) (late := late) (soon := soon) (yet := yet) (cir := cir) (bed := bed) (stp := stp) (oO := oO) (oW := oW) (win := win) (wc := wc) (rn := rn) (wer := wer) (iK := iK) (kC := kC) (kep := kep) (n := n) hn ha hb3
    · rw [wm_comm hN']
      exact m_thrown (d := 299) (u := u) (Q := Q) (h := (wld (z_up h 90 e) te (n, rm, mt, nt, fm, vr) dr pa (rk, rf) fi od cs ci ga r1 r2 sw)) (th := 0) (to := to) (row := row) (gu := nI n) (ch := ch) (now := now) (tape := tape) (tp := tp) (pt := pt) (tt := tt) (ne := ne) (rd := rd) (rM := rM) (code := code) (rc := rc) (cL := cL) (cR := cR) (stk := stk) (ask := ask) (un := un) (und := und) (aS := aS) (aO := aO) (aW := aW) (aH := aH) (ac := ac) (thr := thr) (ins := ins) (gon := gon) (nO := nO) (mO := mO) (rO := rO) (wy := wy) (ah := ah) (late := late) (soon := soon) (yet := yet) (cir := cir) (bed := bed) (stp := stp) (oO := oO) (oW := oW) (win := win) (wc := wc) (rn := rn) (wer := wer) (iK := iK) (kC := kC) (kep := kep)
    · rw [← W_90 hN', z_up_s]
  · refine Or.inr ⟨t_guest hT.1.1 q, (wld ((mdl h 1 to row (nI n) ch now tape tp pt tt ne rd rM code rc cL cR stk ask un und aS aO aW aH ac thr ins gon nO mO rO wy ah late soon yet cir bed stp oO oW win wc rn wer iK kC kep)) te (n, rm, mt, nt, fm, vr) dr pa (rk, rf) fi od cs ci ga r1 r2 sw), fun Q => ?_, fun Q => ?_, h, te, (n, rm, mt, nt, fm, vr), dr, pa, (rk, rf), fi, od, cs, ci, ga, r1, r2, sw, 1, to, row, nI n, ch, now, tape, tp, pt, tt, ne, rd, rM, code, rc, cL, cR, stk, ask, un, und, aS, aO, aW, aH, ac, thr, ins, gon, nO, mO, rO, wy, ah, late, soon, yet, cir, bed, stp, oO, oW, win, wc, rn, wer, iK, kC, kep, rfl, hX, hT, jP_up hP, hR, hS, jV_up hc hV (ve_self _), hO, hC, hU, hM, jN_x hN⟩
    · rw [wm_comm hN', wm_comm hN']
      exact m_guestn (d := 296) (u := (u.1, u.2.1 + 1, u.2.2 + 6)) (Q := Q) (h := (wld h te (n, rm, mt, nt, fm, vr) dr pa (rk, rf) fi od cs ci ga r1 r2 sw)) (th := th) (to := to) (row := row) (ch := ch) (now := now) (tape := tape) (tp := tp) (pt := pt) (tt := tt) (ne := ne) (rd := rd) (rM := rM) (code := code) (rc := rc) (cL := cL) (cR := cR) (stk := stk) (ask := ask) (un := un) (und := und) (aS := aS) (aO := aO) (aW := aW) (aH := aH) (ac := ac) (thr := thr) (ins := ins) (gon := gon) (nO := nO) (mO := mO) (rO := rO) (wy := wy) (ah := ah) (late := late) (soon := soon) (yet := yet) (cir := cir) (bed := bed) (stp := stp) (oO := oO) (oW := oW) (win := win) (wc := wc) (rn := rn) (wer := wer) (iK := iK) (kC := kC) (kep := kep) (n := n) hn q
    · rw [wm_comm hN']
      exact m_thrown (d := 299) (u := (u.1, u.2.1 + 1, u.2.2 + 6)) (Q := Q) (h := (wld h te (n, rm, mt, nt, fm, vr) dr pa (rk, rf) fi od cs ci ga r1 r2 sw)) (th := 1) (to := to) (row := row) (gu := nI n) (ch := ch) (now := now) (tape := tape) (tp := tp) (pt := pt) (tt := tt) (ne := ne) (rd := rd) (rM := rM) (code := code) (rc := rc) (cL := cL) (cR := cR) (stk := stk) (ask := ask) (un := un) (und := und) (aS := aS) (aO := aO) (aW := aW) (aH := aH) (ac := ac) (thr := thr) (ins := ins) (gon := gon) (nO := nO) (mO := mO) (rO := rO) (wy := wy) (ah := ah) (late := late) (soon := soon) (yet := yet) (cir := cir) (bed := bed) (stp := stp) (oO := oO) (oW := oW) (win := win) (wc := wc) (rn := rn) (wer := wer) (iK := iK) (kC := kC) (kep := kep)
theorem s_pair {c : Nat} {H : Nat → zE} {u : zU} (hc : c < 64) (hI : jIV c H u) (x w : Int32) : jSg Value.int 0 c 136 215 MX10_pair 12 [.int x, .int w] H u := by
  refine jIV_e hI (fun h te tO dr pa ro fi od cs ci ga r1 r2 sw th to row gu ch now tape tp pt tt ne rd rM code rc cL cR stk ask un und aS aO aW aH ac thr ins gon nO mO rO wy ah late soon yet cir bed stp oO oW win wc rn wer iK kC kep eH hA => ?_)
  subst eH
  obtain ⟨hX, hT, hP, hR, hS, hV, hO, hC, hU, hM, hN⟩ := hA
  have hN' := hN.1
  obtain ⟨rk, rf⟩ := ro
  obtain ⟨n, rm, mt, nt, fm, vr⟩ := tO
  have hn : n ≤ 7 := hT.1.1.1
  have g : gu = nI n := hT.2
  subst g
  cases q : (hasB n x && (hasB n w && decide (¬ x = w))) with
  | true =>
    simp only [Bool.and_eq_true, decide_eq_true_eq] at q
    obtain ⟨a, ha, rfl⟩ := hasB_of hn q.1
    obtain ⟨b, hb, rfl⟩ := hasB_of hn q.2.1
    have hab : a ≠ b := fun e => q.2.2 (by rw [e])
    have ge : (if (mt a).testBit b then (1 : Int32) else if (nt a).testBit b then 0 else 2) = now (7 * a + b) := by
      rw [hT.1.2.2.1 a b ha hb hab]
      unfold abt
      split
      · rfl
      · split <;> rfl
    refine Or.inl ⟨_, fun Q => q_pair (d := 297) (u := u) (Q := Q) hT.1.1 ha hb hab, fun e => ⟨(wld ((mdl (z_up h 90 e) 0 to row (nI n) ch now tape tp pt tt ne rd rM code rc cL cR stk ask un und aS aO aW aH ac thr ins gon nO mO rO wy ah late soon yet cir bed stp oO oW win wc rn wer iK kC kep)) te (n, rm, mt, nt, fm, vr) dr pa (rk, rf) fi od cs ci ga r1 r2 sw), fun Q => ?_, fun Q => ?_, ?_, z_up h 90 e, te, (n, rm, mt, nt, fm, vr), dr, pa, (rk, rf), fi, od, cs, ci, ga, r1, r2, sw, 0, to, row, nI n, ch, now, tape, tp, pt, tt, ne, rd, rM, code, rc, cL, cR, stk, ask, un, und, aS, aO, aW, aH, ac, thr, ins, gon, nO, mO, rO, wy, ah, late, soon, yet, cir, bed, stp, oO, oW, win, wc, rn, wer, iK, kC, kep, rfl, hX, hT, jP_up hP, hR, hS, jV_up hc hV (ve_self _), hO, hC, hU, hM, jN_up hN⟩⟩
    · rw [W_90 hN', wm_comm hN', wm_comm hN', ge]
      exact m_pair (d := 296) (u := u) (Q := Q) (h := (wld (z_up h 90 e) te (n, rm, mt, nt, fm, vr) dr pa (rk, rf) fi od cs ci ga r1 r2 sw)) (th := th) (to := to) (row := row) (ch := ch) (now := now) (tape := tape) (tp := tp) (pt := pt) (tt := tt) (ne := ne) (rd := rd) (rM := rM) (code := code) (rc := rc) (cL := cL) (cR := cR) (stk := stk) (ask := ask) (un := un) (und := und) (aS := aS) (aO := aO) (aW := aW) (aH := aH) (ac := ac) (thr := thr) (ins := ins) (gon := gon) (nO := nO) (mO := mO) (rO := rO) (wy := wy) (ah := ah) (late := late) (soon := soon) (yet := yet) (cir := cir) (bed := bed) (stp := stp) (oO := oO) (oW := oW) (win := win) (wc := wc) (rn := rn) (wer := wer) (iK := iK) (kC := kC) (kep := kep) (n := n) hn ha hb hab
    · rw [wm_comm hN']
      exact m_thrown (d := 299) (u := u) (Q := Q) (h := (wld (z_up h 90 e) te (n, rm, mt, nt, fm, vr) dr pa (rk, rf) fi od cs ci ga r1 r2 sw)) (th := 0) (to := to) (row := row) (gu := nI n) (ch := ch) (now := now) (tape := tape) (tp := tp) (pt := pt) (tt := tt) (ne := ne) (rd := rd) (rM := rM) (code := code) (rc := rc) (cL := cL) (cR := cR) (stk := stk) (ask := ask) (un := un) (und := und) (aS := aS) (aO := aO) (aW := aW) (aH := aH) (ac := ac) (thr := thr) (ins := ins) (gon := gon) (nO := nO) (mO := mO) (rO := rO) (wy := wy) (ah := ah) (late := late) (soon := soon) (yet := yet) (cir := cir) (bed := bed) (stp := stp) (oO := oO) (oW := oW) (win := win) (wc := wc) (rn := rn) (wer := wer) (iK := iK) (kC := kC) (kep := kep)
    · rw [← W_90 hN', z_up_s]
  | false =>
    refine Or.inr ⟨t_pair hT.1.1 q, (wld ((mdl h 1 to row (nI n) ch now tape tp pt tt ne rd rM code rc cL cR stk ask un und aS aO aW aH ac thr ins gon nO mO rO wy ah late soon yet cir bed stp oO oW win wc rn wer iK kC kep)) te (n, rm, mt, nt, fm, vr) dr pa (rk, rf) fi od cs ci ga r1 r2 sw), fun Q => ?_, fun Q => ?_, h, te, (n, rm, mt, nt, fm, vr), dr, pa, (rk, rf), fi, od, cs, ci, ga, r1, r2, sw, 1, to, row, nI n, ch, now, tape, tp, pt, tt, ne, rd, rM, code, rc, cL, cR, stk, ask, un, und, aS, aO, aW, aH, ac, thr, ins, gon, nO, mO, rO, wy, ah, late, soon, yet, cir, bed, stp, oO, oW, win, wc, rn, wer, iK, kC, kep, rfl, hX, hT, jP_up hP, hR, hS, jV_up hc hV (ve_self _), hO, hC, hU, hM, jN_x hN⟩
    · rw [wm_comm hN', wm_comm hN']
      exact m_pairn (d := 296) (u := (u.1, u.2.1 + 1, u.2.2 + 6)) (Q := Q) (h := (wld h te (n, rm, mt, nt, fm, vr) dr pa (rk, rf) fi od cs ci ga r1 r2 sw)) (th := th) (to := to) (row := row) (ch := ch) (now := now) (tape := tape) (tp := tp) (pt := pt) (tt := tt) (ne := ne) (rd := rd) (rM := rM) (code := code) (rc := rc) (cL := cL) (cR := cR) (stk := stk) (ask := ask) (un := un) (und := und) (aS := aS) (aO := aO) (aW := aW) (aH := aH) (ac := ac) (thr := thr) (ins := ins) (gon := gon) (nO := nO) (mO := mO) (rO := rO) (wy := wy) (ah := ah) (late := late) (soon := soon) (yet := yet) (cir := cir) (bed := bed) (stp := stp) (oO := oO) (oW := oW) (win := win) (wc := wc) (rn := rn) (wer := wer) (iK := iK) (kC := kC) (kep := kep) (n := n) hn q
    · rw [wm_comm hN']
      exact m_thrown (d := 299) (u := (u.1, u.2.1 + 1, u.2.2 + 6)) (Q := Q) (h := (wld h te (n, rm, mt, nt, fm, vr) dr pa (rk, rf) fi od cs ci ga r1 r2 sw)) (th := 1) (to := to) (row := row) (gu := nI n) (ch := ch) (now := now) (tape := tape) (tp := tp) (pt := pt) (tt := tt) (ne := ne) (rd := rd) (rM := rM) (code := code) (rc := rc) (cL := cL) (cR := cR) (stk := stk) (ask := ask) (un := un) (und := und) (aS := aS) (aO := aO) (aW := aW) (aH := aH) (ac := ac) (thr := thr) (ins := ins) (gon := gon) (nO := nO) (mO := mO) (rO := rO) (wy := wy) (ah := ah) (late := late) (soon := soon) (yet := yet) (cir := cir) (bed := bed) (stp := stp) (oO := oO) (oW := oW) (win := win) (wc := wc) (rn := rn) (wer := wer) (iK := iK) (kC := kC) (kep := kep)
theorem s_rowg {c : Nat} {H : Nat → zE} {u : zU} (hc : c < 64) (hI : jIV c H u) (x : Int32) : jSg Value.long 0 c 175 291 MX10_row 15 [.int x] H u := by
  refine jIV_e hI (fun h te tO dr pa ro fi od cs ci ga r1 r2 sw th to row gu ch now tape tp pt tt ne rd rM code rc cL cR stk ask un und aS aO aW aH ac thr ins gon nO mO rO wy ah late soon yet cir bed stp oO oW win wc rn wer iK kC kep eH hA => ?_)
  subst eH
  obtain ⟨hX, hT, hP, hR, hS, hV, hO, hC, hU, hM, hN⟩ := hA
  have hN' := hN.1
  obtain ⟨rk, rf⟩ := ro
  obtain ⟨n, rm, mt, nt, fm, vr⟩ := tO
  have hk : rk ≤ 14 := hR.1
  have hr2 : ∀ i, i < rk → rf i = row i := hR.2.2
  have g : nI rk = to := hR.2.1
  subst g
  cases q : hasB rk x with
  | true =>
    obtain ⟨i, hi, rfl⟩ : ∃ i, i < rk ∧ x = nI i := by
      unfold hasB at q
      simp only [Bool.and_eq_true, decide_eq_true_eq] at q
      obtain ⟨s, hs, rfl⟩ := nI_of q.1
      have q2 := q.2
      rw [nI_ult hs (by omega)] at q2
      exact ⟨s, q2, rfl⟩
    refine Or.inl ⟨rf i, fun Q => q_row (d := 299) (u := u) (Q := Q) hi hk, fun e => ⟨(wld ((mdl (z_up h 90 e) 0 (nI rk) row gu ch now tape tp pt tt ne rd rM code rc cL cR stk ask un und aS aO aW aH ac thr ins gon nO mO rO wy ah late soon yet cir bed stp oO oW win wc rn wer iK kC kep)) te (n, rm, mt, nt, fm, vr) dr pa (rk, rf) fi od cs ci ga r1 r2 sw), fun Q => ?_, fun Q => ?_, ?_, z_up h 90 e, te, (n, rm, mt, nt, fm, vr), dr, pa, (rk, rf), fi, od, cs, ci, ga, r1, r2, sw, 0, nI rk, row, gu, ch, now, tape, tp, pt, tt, ne, rd, rM, code, rc, cL, cR, stk, ask, un, und, aS, aO, aW, aH, ac, thr, ins, gon, nO, mO, rO, wy, ah, late, soon, yet, cir, bed, stp, oO, oW, win, wc, rn, wer, iK, kC, kep, rfl, hX, hT, jP_up hP, hR, hS, jV_up hc hV (ve_self _), hO, hC, hU, hM, jN_up hN⟩⟩
    · rw [W_90 hN', wm_comm hN', wm_comm hN', hr2 i hi]
      exact m_row (d := 298) (u := u) (Q := Q) (h := (wld (z_up h 90 e) te (n, rm, mt, nt, fm, vr) dr pa (rk, rf) fi od cs ci ga r1 r2 sw)) (th := th) (row := row) (gu := gu) (ch := ch) (now := now) (tape := tape) (tp := tp) (pt := pt) (tt := tt) (ne := ne) (rd := rd) (rM := rM) (code := code) (rc := rc) (cL := cL) (cR := cR) (stk := stk) (ask := ask) (un := un) (und := und) (aS := aS) (aO := aO) (aW := aW) (aH := aH) (ac := ac) (thr := thr) (ins := ins) (gon := gon) (nO := nO) (mO := mO) (rO := rO) (wy := wy) (ah := ah) (late := late) (soon := soon) (yet := yet) (cir := cir) (bed := bed) (stp := stp) (oO := oO) (oW := oW) (win := win) (wc := wc) (rn := rn) (wer := wer) (iK := iK) (kC := kC) (kep := kep) (by omega) hi q
    · rw [wm_comm hN']
      exact m_thrown (d := 299) (u := u) (Q := Q) (h := (wld (z_up h 90 e) te (n, rm, mt, nt, fm, vr) dr pa (rk, rf) fi od cs ci ga r1 r2 sw)) (th := 0) (to := nI rk) (row := row) (gu := gu) (ch := ch) (now := now) (tape := tape) (tp := tp) (pt := pt) (tt := tt) (ne := ne) (rd := rd) (rM := rM) (code := code) (rc := rc) (cL := cL) (cR := cR) (stk := stk) (ask := ask) (un := un) (und := und) (aS := aS) (aO := aO) (aW := aW) (aH := aH) (ac := ac) (thr := thr) (ins := ins) (gon := gon) (nO := nO) (mO := mO) (rO := rO) (wy := wy) (ah := ah) (late := late) (soon := soon) (yet := yet) (cir := cir) (bed := bed) (stp := stp) (oO := oO) (oW := oW) (win := win) (wc := wc) (rn := rn) (wer := wer) (iK := iK) (kC := kC) (kep := kep)
    · rw [← W_90 hN', z_up_s]
  | false =>
    refine Or.inr ⟨t_row q, (wld ((mdl h 1 (nI rk) row gu ch now tape tp pt tt ne rd rM code rc cL cR stk ask un und aS aO aW aH ac thr ins gon nO mO rO wy ah late soon yet cir bed stp oO oW win wc rn wer iK kC kep)) te (n, rm, mt, nt, fm, vr) dr pa (rk, rf) fi od cs ci ga r1 r2 sw), fun Q => ?_, fun Q => ?_, h, te, (n, rm, mt, nt, fm, vr), dr, pa, (rk, rf), fi, od, cs, ci, ga, r1, r2, sw, 1, nI rk, row, gu, ch, now, tape, tp, pt, tt, ne, rd, rM, code, rc, cL, cR, stk, ask, un, und, aS, aO, aW, aH, ac, thr, ins, gon, nO, mO, rO, wy, ah, late, soon, yet, cir, bed, stp, oO, oW, win, wc, rn, wer, iK, kC, kep, rfl, hX, hT, jP_up hP, hR, hS, jV_up hc hV (ve_self _), hO, hC, hU, hM, jN_x hN⟩
    · rw [wm_comm hN', wm_comm hN']
      exact m_rown (d := 298) (u := (u.1, u.2.1 + 1, u.2.2 + 6)) (Q := Q) (h := (wld h te (n, rm, mt, nt, fm, vr) dr pa (rk, rf) fi od cs ci ga r1 r2 sw)) (th := th) (row := row) (gu := gu) (ch := ch) (now := now) (tape := tape) (tp := tp) (pt := pt) (tt := tt) (ne := ne) (rd := rd) (rM := rM) (code := code) (rc := rc) (cL := cL) (cR := cR) (stk := stk) (ask := ask) (un := un) (und := und) (aS := aS) (aO := aO) (aW := aW) (aH := aH) (ac := ac) (thr := thr) (ins := ins) (gon := gon) (nO := nO) (mO := mO) (rO := rO) (wy := wy) (ah := ah) (late := late) (soon := soon) (yet := yet) (cir := cir) (bed := bed) (stp := stp) (oO := oO) (oW := oW) (win := win) (wc := wc) (rn := rn) (wer := wer) (iK := iK) (kC := kC) (kep := kep) (by omega) q
    · rw [wm_comm hN']
      exact m_thrown (d := 299) (u := (u.1, u.2.1 + 1, u.2.2 + 6)) (Q := Q) (h := (wld h te (n, rm, mt, nt, fm, vr) dr pa (rk, rf) fi od cs ci ga r1 r2 sw)) (th := 1) (to := nI rk) (row := row) (gu := gu) (ch := ch) (now := now) (tape := tape) (tp := tp) (pt := pt) (tt := tt) (ne := ne) (rd := rd) (rM := rM) (code := code) (rc := rc) (cL := cL) (cR := cR) (stk := stk) (ask := ask) (un := un) (und := und) (aS := aS) (aO := aO) (aW := aW) (aH := aH) (ac := ac) (thr := thr) (ins := ins) (gon := gon) (nO := nO) (mO := mO) (rO := rO) (wy := wy) (ah := ah) (late := late) (soon := soon) (yet := yet) (cir := cir) (bed := bed) (stp := stp) (oO := oO) (oW := oW) (win := win) (wc := wc) (rn := rn) (wer := wer) (iK := iK) (kC := kC) (kep := kep)

