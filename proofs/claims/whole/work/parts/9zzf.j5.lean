/-! steps: what is told changes -/
theorem s_chg {c : Nat} {u : zU} {h : Nat → zE} {te : cText} {tO : cTold} {dr : cTold} {pa : cPast} {ro : cRow} {fi : cFits} {od : cOrd} {cs : cCst} {ci : cCir} {ga : cGam} {r1 : cRule} {r2 : cRule} {sw : Bool} {th : Int32} {to : Int32} {row : Nat → Int64} {gu : Int32} {ch : Int32} {now : Nat → Int32} {tape : Nat → Int32} {tp : Int32} {pt : Int32} {tt : Int32} {ne : Int32} {rd : Nat → Int32} {rM : Int32} {code : Nat → Int32} {rc : Nat → Int32} {cL : Int32} {cR : Int32} {stk : Nat → Int32} {ask : Nat → Int32} {un : Int32} {und : Nat → Int32} {aS : Nat → Int32} {aO : Nat → Int32} {aW : Nat → Int32} {aH : Nat → Int32} {ac : Int32} {thr : Nat → Int32} {ins : Nat → Int32} {gon : Nat → Int32} {nO : Nat → Int32} {mO : Nat → Int32} {rO : Nat → Int32} {wy : Nat → Int64} {ah : Nat → Int64} {late : Nat → Int32} {soon : Nat → Int32} {yet : Nat → Int32} {cir : Nat → Int32} {bed : Nat → Int32} {stp : Nat → Int32} {oO : Nat → Int32} {oW : Nat → Int32} {win : Nat → Int32} {wc : Nat → Int32} {rn : Int32} {wer : Nat → Int32} {iK : Nat → Int32} {kC : Nat → Int32} {kep : Nat → Int32} (hc : c < 64) (hA : jAll c u h te tO dr pa ro fi od cs ci ga r1 r2 sw th to row gu ch now tape tp pt tt ne rd rM code rc cL cR stk ask un und aS aO aW aH ac thr ins gon nO mO rO wy ah late soon yet cir bed stp oO oW win wc rn wer iK kC kep) {y y' : Nat} {as : List Value} {a : Int32} {t' : cTold} {N : Nat → Int32} (hp : ∀ Q, zK 300 y (.ref 1 :: as) ((wld ((mdl h th to row gu ch now tape tp pt tt ne rd rM code rc cL cR stk ask un und aS aO aW aH ac thr ins gon nO mO rO wy ah late soon yet cir bed stp oO oW win wc rn wer iK kC kep)) te tO dr pa ro fi od cs ci ga r1 r2 sw), u) Q = Q (some (.int a), ((wld ((mdl h th to row gu ch now tape tp pt tt ne rd rM code rc cL cR stk ask un und aS aO aW aH ac thr ins gon nO mO rO wy ah late soon yet cir bed stp oO oW win wc rn wer iK kC kep)) te t' dr (setO a (stgO pa tO)) ro fi od cs ci ga r1 r2 sw), u))) (hm : ∀ h Q, zK 300 y' (.ref 54 :: as) ((mdl h th to row gu ch now tape tp pt tt ne rd rM code rc cL cR stk ask un und aS aO aW aH ac thr ins gon nO mO rO wy ah late soon yet cir bed stp oO oW win wc rn wer iK kC kep), u) Q = Q (some (.int a), ((mdl h 0 to row gu ch N tape tp pt tt ne rd rM code rc cL cR stk ask (nI (if a < 0 then pa.2.2.2.2 else (addU pa.2.2.2.2 (itr (pbF now pa.2.2.2.2) und 57)).1)) (if a < 0 then (itr (pbF now pa.2.2.2.2) und 57) else (addU pa.2.2.2.2 (itr (pbF now pa.2.2.2.2) und 57)).2) aS aO aW aH ac thr ins gon nO mO rO wy ah late soon yet cir bed stp oO oW win wc rn wer iK kC kep), u))) (hr : relT t' N) (hn : t'.1 = tO.1) (hv : veR tO t') : jSt c y y' as (wld ((mdl h th to row gu ch now tape tp pt tt ne rd rM code rc cL cR stk ask un und aS aO aW aH ac thr ins gon nO mO rO wy ah late soon yet cir bed stp oO oW win wc rn wer iK kC kep)) te tO dr pa ro fi od cs ci ga r1 r2 sw) u := by
  obtain ⟨hX, hT, hP, hR, hS, hV, hO, hC, hU, hM, hN⟩ := hA
  have hN' := hN.1
  obtain ⟨p1, p2, p3, p4, x, p5, p6⟩ := hP
  obtain ⟨q1, q2, q3, q4, q5⟩ := pst_set (a := a) p1 hT.1 p3
  refine ⟨_, _, _, _, hp, fun Q => ?_, h, te, t', dr, (setO a (stgO pa tO)), ro, fi, od, cs, ci, ga, r1, r2, sw, 0, to, row, gu, ch, N, tape, tp, pt, tt, ne, rd, rM, code, rc, cL, cR, stk, ask, (nI (if a < 0 then pa.2.2.2.2 else (addU pa.2.2.2.2 (itr (pbF now pa.2.2.2.2) und 57)).1)), (if a < 0 then (itr (pbF now pa.2.2.2.2) und 57) else (addU pa.2.2.2.2 (itr (pbF now pa.2.2.2.2) und 57)).2), aS, aO, aW, aH, ac, thr, ins, gon, nO, mO, rO, wy, ah, late, soon, yet, cir, bed, stp, oO, oW, win, wc, rn, wer, iK, kC, kep, (wm_comm hN').symm, hX, ⟨hr, by rw [hn]; exact hT.2⟩, ⟨q3, by rw [q2], by rw [hn]; exact q1, by rw [hn, q4, q5]; exact p4, x, by omega, p6⟩, hR, hS, jV_up hc hV hv, jO_up hc hV hO hv, hC, hU, hM, jN_up hN⟩
  rw [wm_comm hN']
  exact hm _ Q
theorem ve_1 {t t' : cTold} (e : t'.2.2.2.2.2 = t.2.2.2.2.2 + 1) : veR t t' := ⟨1, by decide, e, fun z => absurd z (by decide)⟩
theorem ve_tell {t : cTold} {g k v : Int32} : veR t (tellO t g k v).2 := by
  unfold tellO
  split
  · split
    · exact ve_self t
    · exact ve_1 rfl
  · exact ve_self t
theorem ve_move {t : cTold} {g w : Int32} : veR t (moveO t g w).2 := by
  unfold moveO
  split
  · split
    · exact ve_self t
    · exact ve_1 rfl
  · exact ve_self t
theorem ve_firm {t : cTold} {v : Int32} : veR t (firmO t v).2 := by
  unfold firmO
  split
  · exact ve_1 rfl
  · split
    · exact ve_1 rfl
    · exact ve_self t
theorem hdC_n : ∀ n, n < 8 → ∀ i, i < n → hdC i n = n - 1 := by decide
theorem ve_hide {t : cTold} {g : Int32} (hn : t.1 ≤ 7) (hg : gdT t.1 t.2.2.1 t.2.2.2.1) : veR t (hideO t g).2 := by
  unfold hideO
  split
  · rename_i c
    split
    · exact ve_self t
    · rename_i c2
      obtain ⟨i, hi, e⟩ := hasB_of hn c
      subst e
      rw [nI_clamp (by omega)] at c2
      refine ⟨hdC (nI i).toNatClampNeg t.1, ?_, rfl, fun z => ?_⟩
      · rw [nI_clamp (by omega), hdC_n _ (by omega) i hi]; omega
      · exfalso
        rw [nI_clamp (by omega), hdC_n _ (by omega) i hi] at z
        have n1 : t.1 = 1 := by omega
        have i0 : i = 0 := by omega
        apply c2
        have h2 := hg.2.1 i hi
        rw [n1] at h2
        have e1 : t.2.2.1 i = 0 := by
          have := (hg.2.2.2.1 i hi).1
          rw [i0] at this h2 ⊢
          rcases (show t.2.2.1 0 = 0 ∨ t.2.2.1 0 = 1 by omega) with w | w
          · exact w
          · rw [w] at this; exact absurd this (by decide)
        have e2 : t.2.2.2.1 i = 0 := by
          have := (hg.2.2.2.1 i hi).2
          rw [i0] at this h2 ⊢
          rcases (show t.2.2.2.1 0 = 0 ∨ t.2.2.2.1 0 = 1 by omega) with w | w
          · exact w
          · rw [w] at this; exact absurd this (by decide)
        rw [e1, e2]
        decide
  · exact ve_self t
theorem tellO_1 {t : cTold} {g k v : Int32} : (tellO t g k v).2.1 = t.1 := tellO_n
theorem hideO_1 {t : cTold} {g : Int32} : (hideO t g).2.1 = t.1 := by
  unfold hideO
  split
  · split <;> rfl
  · rfl
theorem moveO_1 {t : cTold} {g w : Int32} : (moveO t g w).2.1 = t.1 := by
  unfold moveO
  split
  · split <;> rfl
  · rfl
theorem firmO_1 {t : cTold} {v : Int32} : (firmO t v).2.1 = t.1 := by
  unfold firmO
  split
  · rfl
  · split <;> rfl
theorem neg_lt : (-1 : Int32) < 0 := by decide
theorem s_tells {c : Nat} {H : Nat → zE} {u : zU} (hc : c < 64) (hI : jIV c H u) (g k v : Int32) : jSt c 138 227 [.int g, .int k, .int v] H u := by
  refine jIV_e hI (fun h te tO dr pa ro fi od cs ci ga r1 r2 sw th to row gu ch now tape tp pt tt ne rd rM code rc cL cR stk ask un und aS aO aW aH ac thr ins gon nO mO rO wy ah late soon yet cir bed stp oO oW win wc rn wer iK kC kep eH hA => ?_)
  subst eH
  have hA' := hA
  obtain ⟨hX, hT, hP, hR, hS, hV, hO, hC, hU, hM, hN⟩ := hA
  have hpk : pa.2.2.2.2 ≤ 15 := hP.1.1
  have hn : tO.1 ≤ 7 := hT.1.1.1
  have p := fun Q => p_tells (d := 296) (u := u) (Q := Q) (h := (mdl h th to row gu ch now tape tp pt tt ne rd rM code rc cL cR stk ask un und aS aO aW aH ac thr ins gon nO mO rO wy ah late soon yet cir bed stp oO oW win wc rn wer iK kC kep)) (te := te) (dr := dr) (ro := ro) (fi := fi) (od := od) (cs := cs) (ci := ci) (ga := ga) (r1 := r1) (r2 := r2) (sw := sw) hT.1.1 hP.1 (g := g) (k := k) (v := v)
  by_cases q : hasB tO.1 g = true ∧ hasB tO.1 k = true ∧ ¬ g = k ∧ ¬ v < 0 ∧ ¬ 2 < v
  · obtain ⟨a1, a2, a3, a4, a5⟩ := q
    obtain ⟨i, hi, rfl⟩ := hasB_of hn a1
    obtain ⟨j, hj, rfl⟩ := hasB_of hn a2
    obtain ⟨w, hw, rfl⟩ := i_rng (b := 2) (by decide) a4 a5
    have hij : i ≠ j := fun e => a3 (by rw [e])
    obtain ⟨e1, e2⟩ := tell_eq hT.1 (i := i) (j := j) (v := w) (by omega) (by omega) (by omega)
    have et : tlN now tO.1 i j w = ((if now (7 * i + j) = nI w then -2 else 10 + now (7 * i + j)), upd (upd now (7 * i + j) (nI w)) (7 * j + i) (nI w)) := if_pos ⟨hi, hj, hij, hw⟩
    refine s_chg hc hA' p (fun h Q => ?_) e2 tellO_1 ve_tell
    rw [e1, et, hP.2.1, hT.2]
    exact m_tells (d := 295) (u := u) (Q := Q) (h := h) (th := th) (to := to) (row := row) (ch := ch) (now := now) (tape := tape) (tp := tp) (pt := pt) (tt := tt) (ne := ne) (rd := rd) (rM := rM) (code := code) (rc := rc) (cL := cL) (cR := cR) (stk := stk) (ask := ask) (und := und) (aS := aS) (aO := aO) (aW := aW) (aH := aH) (ac := ac) (thr := thr) (ins := ins) (gon := gon) (nO := nO) (mO := mO) (rO := rO) (wy := wy) (ah := ah) (late := late) (soon := soon) (yet := yet) (cir := cir) (bed := bed) (stp := stp) (oO := oO) (oW := oW) (win := win) (wc := wc) (rn := rn) (wer := wer) (iK := iK) (kC := kC) (kep := kep) (n := tO.1) (k := pa.2.2.2.2) hn hpk hi hj hij hw
  · have e : tellO tO g k v = (-1, tO) := if_neg q
    rw [e] at p
    refine s_chg hc hA' p (N := now) (fun h Q => ?_) hT.1 rfl (ve_self _)
    rw [if_pos neg_lt, if_pos neg_lt, hT.2, hP.2.1]
    exact m_tellsn (d := 295) (u := u) (Q := Q) (h := h) (th := th) (to := to) (row := row) (ch := ch) (now := now) (tape := tape) (tp := tp) (pt := pt) (tt := tt) (ne := ne) (rd := rd) (rM := rM) (code := code) (rc := rc) (cL := cL) (cR := cR) (stk := stk) (ask := ask) (und := und) (aS := aS) (aO := aO) (aW := aW) (aH := aH) (ac := ac) (thr := thr) (ins := ins) (gon := gon) (nO := nO) (mO := mO) (rO := rO) (wy := wy) (ah := ah) (late := late) (soon := soon) (yet := yet) (cir := cir) (bed := bed) (stp := stp) (oO := oO) (oW := oW) (win := win) (wc := wc) (rn := rn) (wer := wer) (iK := iK) (kC := kC) (kep := kep) (n := tO.1) (k := pa.2.2.2.2) hn hpk q
theorem s_hides {c : Nat} {H : Nat → zE} {u : zU} (hc : c < 64) (hI : jIV c H u) (g : Int32) : jSt c 139 228 [.int g] H u := by
  refine jIV_e hI (fun h te tO dr pa ro fi od cs ci ga r1 r2 sw th to row gu ch now tape tp pt tt ne rd rM code rc cL cR stk ask un und aS aO aW aH ac thr ins gon nO mO rO wy ah late soon yet cir bed stp oO oW win wc rn wer iK kC kep eH hA => ?_)
  subst eH
  have hA' := hA
  obtain ⟨hX, hT, hP, hR, hS, hV, hO, hC, hU, hM, hN⟩ := hA
  have hpk : pa.2.2.2.2 ≤ 15 := hP.1.1
  have hn : tO.1 ≤ 7 := hT.1.1.1
  have p := fun Q => p_hides (d := 296) (u := u) (Q := Q) (h := (mdl h th to row gu ch now tape tp pt tt ne rd rM code rc cL cR stk ask un und aS aO aW aH ac thr ins gon nO mO rO wy ah late soon yet cir bed stp oO oW win wc rn wer iK kC kep)) (te := te) (dr := dr) (ro := ro) (fi := fi) (od := od) (cs := cs) (ci := ci) (ga := ga) (r1 := r1) (r2 := r2) (sw := sw) hT.1.1 hP.1 (g := g)
  by_cases q : hasB tO.1 g = true
  · obtain ⟨i, hi, rfl⟩ := hasB_of hn q
    obtain ⟨e1, e2⟩ := hide_eq hT.1 (g := i) (by omega)
    have hx := tho_le (now := now) hn hi 2
    have et : hdN now tO.1 i = ((if tO.1 - 1 - pop (thoV now tO.1 i 2) = 0 then -2 else nI (tO.1 - 1 - pop (thoV now tO.1 i 2))), itr (hiF i) now tO.1) := if_pos hi
    refine s_chg hc hA' p (fun h Q => ?_) e2 hideO_1 (ve_hide hn hT.1.2.1)
    rw [e1, et, hP.2.1, hT.2]
    exact m_hides (d := 295) (u := u) (Q := Q) (h := h) (th := th) (to := to) (row := row) (ch := ch) (now := now) (tape := tape) (tp := tp) (pt := pt) (tt := tt) (ne := ne) (rd := rd) (rM := rM) (code := code) (rc := rc) (cL := cL) (cR := cR) (stk := stk) (ask := ask) (und := und) (aS := aS) (aO := aO) (aW := aW) (aH := aH) (ac := ac) (thr := thr) (ins := ins) (gon := gon) (nO := nO) (mO := mO) (rO := rO) (wy := wy) (ah := ah) (late := late) (soon := soon) (yet := yet) (cir := cir) (bed := bed) (stp := stp) (oO := oO) (oW := oW) (win := win) (wc := wc) (rn := rn) (wer := wer) (iK := iK) (kC := kC) (kep := kep) (n := tO.1) (k := pa.2.2.2.2) (x := (tO.1 - 1 - pop (thoV now tO.1 i 2))) hn hpk hi (by omega)
  · have e : hideO tO g = (-1, tO) := if_neg q
    rw [e] at p
    refine s_chg hc hA' p (N := now) (fun h Q => ?_) hT.1 rfl (ve_self _)
    rw [if_pos neg_lt, if_pos neg_lt, hT.2, hP.2.1]
    exact m_hidesn (d := 295) (u := u) (Q := Q) (h := h) (th := th) (to := to) (row := row) (ch := ch) (now := now) (tape := tape) (tp := tp) (pt := pt) (tt := tt) (ne := ne) (rd := rd) (rM := rM) (code := code) (rc := rc) (cL := cL) (cR := cR) (stk := stk) (ask := ask) (und := und) (aS := aS) (aO := aO) (aW := aW) (aH := aH) (ac := ac) (thr := thr) (ins := ins) (gon := gon) (nO := nO) (mO := mO) (rO := rO) (wy := wy) (ah := ah) (late := late) (soon := soon) (yet := yet) (cir := cir) (bed := bed) (stp := stp) (oO := oO) (oW := oW) (win := win) (wc := wc) (rn := rn) (wer := wer) (iK := iK) (kC := kC) (kep := kep) (n := tO.1) (k := pa.2.2.2.2) hn hpk (by cases e : hasB tO.1 g <;> simp_all)
theorem s_moves {c : Nat} {H : Nat → zE} {u : zU} (hc : c < 64) (hI : jIV c H u) (g w : Int32) : jSt c 141 230 [.int g, .int w] H u := by
  refine jIV_e hI (fun h te tO dr pa ro fi od cs ci ga r1 r2 sw th to row gu ch now tape tp pt tt ne rd rM code rc cL cR stk ask un und aS aO aW aH ac thr ins gon nO mO rO wy ah late soon yet cir bed stp oO oW win wc rn wer iK kC kep eH hA => ?_)
  subst eH
  have hA' := hA
  obtain ⟨hX, hT, hP, hR, hS, hV, hO, hC, hU, hM, hN⟩ := hA
  have hpk : pa.2.2.2.2 ≤ 15 := hP.1.1
  have hn : tO.1 ≤ 7 := hT.1.1.1
  have p := fun Q => p_moves (d := 296) (u := u) (Q := Q) (h := (mdl h th to row gu ch now tape tp pt tt ne rd rM code rc cL cR stk ask un und aS aO aW aH ac thr ins gon nO mO rO wy ah late soon yet cir bed stp oO oW win wc rn wer iK kC kep)) (te := te) (dr := dr) (ro := ro) (fi := fi) (od := od) (cs := cs) (ci := ci) (ga := ga) (r1 := r1) (r2 := r2) (sw := sw) hT.1.1 hP.1 (g := g) (k := w)
  by_cases q : hasB tO.1 g = true ∧ ¬ w < 0 ∧ ¬ 9 < w
  · obtain ⟨a1, a4, a5⟩ := q
    obtain ⟨i, hi, rfl⟩ := hasB_of hn a1
    obtain ⟨w, hw, rfl⟩ := i_rng (b := 9) (by decide) a4 a5
    obtain ⟨e1, e2⟩ := move_eq hT.1 (g := i) (w := w) (by omega) (by omega)
    have et : mvN now tO.1 i w = ((if now (49 + i) = nI w then -2 else now (49 + i)), upd now (49 + i) (nI w)) := if_pos ⟨hi, hw⟩
    refine s_chg hc hA' p (fun h Q => ?_) e2 moveO_1 ve_move
    rw [e1, et, hP.2.1, hT.2]
    exact m_moves (d := 295) (u := u) (Q := Q) (h := h) (th := th) (to := to) (row := row) (ch := ch) (now := now) (tape := tape) (tp := tp) (pt := pt) (tt := tt) (ne := ne) (rd := rd) (rM := rM) (code := code) (rc := rc) (cL := cL) (cR := cR) (stk := stk) (ask := ask) (und := und) (aS := aS) (aO := aO) (aW := aW) (aH := aH) (ac := ac) (thr := thr) (ins := ins) (gon := gon) (nO := nO) (mO := mO) (rO := rO) (wy := wy) (ah := ah) (late := late) (soon := soon) (yet := yet) (cir := cir) (bed := bed) (stp := stp) (oO := oO) (oW := oW) (win := win) (wc := wc) (rn := rn) (wer := wer) (iK := iK) (kC := kC) (kep := kep) (n := tO.1) (k := pa.2.2.2.2) hn hpk hi hw
  · have e : moveO tO g w = (-1, tO) := if_neg q
    rw [e] at p
    refine s_chg hc hA' p (N := now) (fun h Q => ?_) hT.1 rfl (ve_self _)
    rw [if_pos neg_lt, if_pos neg_lt, hT.2, hP.2.1]
    exact m_movesn (d := 295) (u := u) (Q := Q) (h := h) (th := th) (to := to) (row := row) (ch := ch) (now := now) (tape := tape) (tp := tp) (pt := pt) (tt := tt) (ne := ne) (rd := rd) (rM := rM) (code := code) (rc := rc) (cL := cL) (cR := cR) (stk := stk) (ask := ask) (und := und) (aS := aS) (aO := aO) (aW := aW) (aH := aH) (ac := ac) (thr := thr) (ins := ins) (gon := gon) (nO := nO) (mO := mO) (rO := rO) (wy := wy) (ah := ah) (late := late) (soon := soon) (yet := yet) (cir := cir) (bed := bed) (stp := stp) (oO := oO) (oW := oW) (win := win) (wc := wc) (rn := rn) (wer := wer) (iK := iK) (kC := kC) (kep := kep) (n := tO.1) (k := pa.2.2.2.2) hn hpk q

