/-! steps: meetings, stories, rules -/
theorem pa_push {p : cPast} {t : cTold} {k : Nat} : (if 0 < k then pshO (stgO p t) else stgO p t) = setO (if k = 0 then -1 else 0) (stgO p t) := by
  unfold setO
  by_cases c : k = 0
  · rw [if_pos c, if_neg (by omega), if_pos neg_lt]
  · rw [if_neg c, if_pos (by omega), if_neg (by decide)]
theorem un_push {k c : Nat} {U : Nat → Int32} : (if c = 0 then k else (addU k U).1) = (if (if c = 0 then (-1 : Int32) else 0) < 0 then k else (addU k U).1) ∧ (if c = 0 then U else (addU k U).2) = (if (if c = 0 then (-1 : Int32) else 0) < 0 then U else (addU k U).2) := by
  by_cases q : c = 0
  · rw [if_pos q, if_pos q, if_pos q, if_pos neg_lt, if_pos neg_lt]; exact ⟨rfl, rfl⟩
  · rw [if_neg q, if_neg q, if_neg q, if_neg (by decide), if_neg (by decide)]; exact ⟨rfl, rfl⟩
theorem s_meet {c : Nat} {H : Nat → zE} {u : zU} (hc : c < 64) (hI : jIV c H u) : jSt c 133 205 [] H u := by
  refine jIV_e hI (fun h te tO dr pa ro fi od cs ci ga r1 r2 sw th to row gu ch now tape tp pt tt ne rd rM code rc cL cR stk ask un und aS aO aW aH ac thr ins gon nO mO rO wy ah late soon yet cir bed stp oO oW win wc rn wer iK kC kep eH hA => ?_)
  subst eH
  obtain ⟨hX, hT, hP, hR, hS, hV, hO, hC, hU, hM, hN⟩ := hA
  have hN' := hN.1
  obtain ⟨hX1, rfl, rfl⟩ := hX
  obtain ⟨hT1, rfl⟩ := hT
  obtain ⟨len, sg⟩ := te
  have hl : len ≤ 80 := hX1.1
  have hsg : ∀ i, sg i < 256 := hX1.2
  have hn : tO.1 ≤ 7 := hT1.1.1
  have p := fun Q => p_meetings (d := 295) (u := u) (Q := Q) (h := (mdl h th to row (nI tO.1) ch now (fun i => nI (sg i)) (nI len) pt tt ne rd rM code rc cL cR stk ask un und aS aO aW aH ac thr ins gon nO mO rO wy ah late soon yet cir bed stp oO oW win wc rn wer iK kC kep)) (te := (len, sg)) (dr := dr) (ro := ro) (fi := fi) (od := od) (cs := cs) (ci := ci) (ga := ga) (r1 := r1) (r2 := r2) (sw := sw) hT1.1 hX1 hP.1
  rcases hr : meS sg len tO.1 rd with ⟨b1, b2, b3, b4⟩
  obtain ⟨g1, g2⟩ := me_eq hsg hl hn hr
  have hX' : jX (0, sg) 0 (fun i => nI (sg i)) := ⟨⟨by show 0 ≤ 80; decide, hsg⟩, rfl, rfl⟩
  by_cases q : fmV len sg tO.1 = -1
  · obtain ⟨f1, f2, f3, f4, f5⟩ := g1 q
    dsimp only at f1 f2
    subst f2
    obtain ⟨q1, rfl, q3, q4, x, q5, q6⟩ := hP
    obtain ⟨rel, rn1⟩ := me_rel (now := now) hT1 (T := min len 79) (c := sg) (len := len) (by omega) hl ((len + 3) / 4) (fun j hj => ⟨by omega, f5 j hj⟩)
    obtain ⟨-, out⟩ := me_out hn (x := (len, sg)) ((len + 3) / 4)
    have hve : veR tO (itr (mtF (len, sg)) tO ((len + 3) / 4)) := veK_R (K := 1 * ((len + 3) / 4)) (by omega) (veK_itr (F := mtF (len, sg)) (fun i t => veK_tell) tO _)
    have hch : chgV (pk7 tO.2.2.1 7) (pk7 tO.2.2.2.1 7) (itr (mtF (len, sg)) tO ((len + 3) / 4)).2.2.1 (itr (mtF (len, sg)) tO ((len + 3) / 4)).2.2.2.1 = itr (cmA (itr (meF sg (min len 79)) now ((len + 3) / 4)) (itr (pbF now pa.2.2.2.2) und 57) pa.2.2.2.2) 0 tO.1 := by
      have g' := rel.2.1
      have r' := rel.2.2
      rw [rn1] at g' r'
      exact chg_eq rel.1.2.2.1 rel.1.2.2.2 hT1.1.2.2.1 hT1.1.2.2.2 g' hT1.2.1 r' hT1.2.2 (fun i hi => (out i hi).1) (fun i hi => (out i hi).2) (fun j hj => by rw [pb_at, if_pos ⟨by omega, by omega⟩]; congr 1; omega)
    have e : mtgO (len, sg) tO pa = (nI (itr (cmA (itr (meF sg (min len 79)) now ((len + 3) / 4)) (itr (pbF now pa.2.2.2.2) und 57) pa.2.2.2.2) 0 tO.1), itr (mtF (len, sg)) tO ((len + 3) / 4), setO (if (itr (cmA (itr (meF sg (min len 79)) now ((len + 3) / 4)) (itr (pbF now pa.2.2.2.2) und 57) pa.2.2.2.2) 0 tO.1) = 0 then -1 else 0) (stgO pa tO)) := by
      unfold mtgO
      rw [if_pos q]
      dsimp only
      rw [hch, pa_push]
    rw [e] at p
    have m := fun h Q => m_meet (d := 295) (u := u) (Q := Q) (h := h) (th := th) (to := to) (row := row) (ch := ch) (now := now) (pt := pt) (tt := tt) (ne := ne) (rd := rd) (rM := rM) (code := code) (rc := rc) (cL := cL) (cR := cR) (stk := stk) (ask := ask) (und := und) (aS := aS) (aO := aO) (aW := aW) (aH := aH) (ac := ac) (thr := thr) (ins := ins) (gon := gon) (nO := nO) (mO := mO) (rO := rO) (wy := wy) (ah := ah) (late := late) (soon := soon) (yet := yet) (cir := cir) (bed := bed) (stp := stp) (oO := oO) (oW := oW) (win := win) (wc := wc) (rn := rn) (wer := wer) (iK := iK) (kC := kC) (kep := kep) (n := tO.1) (k := pa.2.2.2.2) (sg := sg) (len := len) hsg hl hn q1.1 hr f1 rfl rfl rfl
    dsimp only at m
    generalize itr (cmA (itr (meF sg (min len 79)) now ((len + 3) / 4)) (itr (pbF now pa.2.2.2.2) und 57) pa.2.2.2.2) 0 tO.1 = C at *
    obtain ⟨w1, w2⟩ := un_push (k := pa.2.2.2.2) (c := C) (U := itr (pbF now pa.2.2.2.2) und 57)
    obtain ⟨z1, z2, z3, z4, z5⟩ := pst_set (a := if C = 0 then -1 else 0) q1 hT1 q3
    refine ⟨_, _, _, _, p, fun Q => ?_, h, (0, sg), (itr (mtF (len, sg)) tO ((len + 3) / 4)), dr, (setO (if C = 0 then -1 else 0) (stgO pa tO)), ro, fi, od, cs, ci, ga, r1, r2, sw, 0, to, row, (nI tO.1), ch, (itr (meF sg (min len 79)) now ((len + 3) / 4)), (fun i => nI (sg i)), 0, (nI b2), (nI (min len 79)), 0, b4, (nI ((len + 3) / 4)), code, rc, cL, cR, stk, ask, (nI (if C = 0 then pa.2.2.2.2 else (addU pa.2.2.2.2 (itr (pbF now pa.2.2.2.2) und 57)).1)), (if C = 0 then (itr (pbF now pa.2.2.2.2) und 57) else (addU pa.2.2.2.2 (itr (pbF now pa.2.2.2.2) und 57)).2), aS, aO, aW, aH, ac, thr, ins, gon, nO, mO, rO, wy, ah, late, soon, yet, cir, bed, stp, oO, oW, win, wc, rn, wer, iK, kC, kep, (wm_comm hN').symm, hX', ⟨rel, by rw [rn1]⟩, ⟨z3, by rw [w1, z2], by rw [w2, rn1]; exact z1, by rw [rn1, z4, z5]; exact q4, x, by omega, q6⟩, hR, hS, jV_up hc hV hve, jO_up hc hV hO hve, hC, hU, hM, jN_up hN⟩
    rw [wm_comm hN']
    exact m _ Q
  · obtain ⟨f1, f2⟩ := g2 q
    dsimp only at f1 f2
    have e : mtgO (len, sg) tO pa = (-1 - fmV len sg tO.1, tO, pa) := by
      unfold mtgO
      rw [if_neg q]
    rw [e, ← f2] at p
    obtain ⟨q1, rfl, q3, q4, q5⟩ := hP
    refine ⟨_, _, _, _, p, fun Q => ?_, h, (0, sg), tO, dr, pa, ro, fi, od, cs, ci, ga, r1, r2, sw, 0, to, row, (nI tO.1), ch, now, (fun i => nI (sg i)), 0, (nI b2), (nI (min len 79)), 0, b4, (nI b3), code, rc, cL, cR, stk, ask, (nI pa.2.2.2.2), und, aS, aO, aW, aH, ac, thr, ins, gon, nO, mO, rO, wy, ah, late, soon, yet, cir, bed, stp, oO, oW, win, wc, rn, wer, iK, kC, kep, (wm_comm hN').symm, hX', ⟨hT1, rfl⟩, jP_up ⟨q1, rfl, q3, q4, q5⟩, hR, hS, jV_up hc hV (ve_self _), hO, hC, hU, hM, jN_up hN⟩
    rw [wm_comm hN']
    exact m_meetf (d := 295) (u := u) (Q := Q) (h := (wld h (0, sg) tO dr pa ro fi od cs ci ga r1 r2 sw)) (th := th) (to := to) (row := row) (ch := ch) (now := now) (pt := pt) (tt := tt) (ne := ne) (rd := rd) (rM := rM) (code := code) (rc := rc) (cL := cL) (cR := cR) (stk := stk) (ask := ask) (und := und) (aS := aS) (aO := aO) (aW := aW) (aH := aH) (ac := ac) (thr := thr) (ins := ins) (gon := gon) (nO := nO) (mO := mO) (rO := rO) (wy := wy) (ah := ah) (late := late) (soon := soon) (yet := yet) (cir := cir) (bed := bed) (stp := stp) (oO := oO) (oW := oW) (win := win) (wc := wc) (rn := rn) (wer := wer) (iK := iK) (kC := kC) (kep := kep) (n := tO.1) (k := pa.2.2.2.2) (sg := sg) (len := len) hsg hl hn hr f1
theorem hdF_0 {f : Nat → Nat} {i : Nat} : ∀ k, hdC i k = 0 → hdF f i k = f := by
  intro k
  induction k with
  | zero => exact fun _ => rfl
  | succ k ih =>
    unfold hdC hdF
    split
    · exact ih
    · intro h; omega
theorem hdC_le {i : Nat} : ∀ k, hdC i k ≤ k := by
  intro k
  induction k with
  | zero => exact Nat.le_refl _
  | succ k ih =>
    unfold hdC
    split
    · omega
    · omega
theorem veK_act {t : cTold} (hT : oldT t) {x : cText} {p : Nat} : veK 7 t (actO x t p).2 := by
  unfold actO
  split
  · exact veK_le (by decide) veK_tell
  · split
    · unfold hideO
      split
      · split
        · exact veK_0 _ t
        · have l := hdC_le (i := (dgV x.1 x.2 (p + 1)).toNatClampNeg) t.1
          have hn := hT.1
          refine ⟨_, by omega, rfl, fun z => ?_⟩
          show (t.1, t.2.1, hdF t.2.2.1 (dgV x.1 x.2 (p + 1)).toNatClampNeg t.1, hdF t.2.2.2.1 (dgV x.1 x.2 (p + 1)).toNatClampNeg t.1, t.2.2.2.2.1, t.2.2.2.2.2 + nI (hdC (dgV x.1 x.2 (p + 1)).toNatClampNeg t.1)) = t
          rw [hdF_0 _ z, hdF_0 _ z, z, show nI 0 = (0 : Int32) from rfl, Int32.add_zero]
      · exact veK_0 _ t
    · split
      · unfold copyO
        split
        · rename_i c
          obtain ⟨a1, a2, a3⟩ := c
          obtain ⟨j, hj, e⟩ := hasB_of hT.1 a2
          have hn := hT.1
          rw [e]
          have l := (cpM_ok (i := (dgV x.1 x.2 (p + 1)).toNatClampNeg) (j := (nI j).toNatClampNeg) hT.2.2.1 hT.2.2.2 (by rw [nI_clamp (by omega)]; omega) t.1 (by omega)).2.2
          refine ⟨_, by omega, rfl, fun z => ?_⟩
          obtain ⟨z1, z2⟩ := cpM_0 t.1 z
          show (t.1, t.2.1, (cpM t.2.2.1 t.2.2.2.1 (dgV x.1 x.2 (p + 1)).toNatClampNeg (nI j).toNatClampNeg t.1).1, (cpM t.2.2.1 t.2.2.2.1 (dgV x.1 x.2 (p + 1)).toNatClampNeg (nI j).toNatClampNeg t.1).2.1, t.2.2.2.2.1, t.2.2.2.2.2 + nI (cpM t.2.2.1 t.2.2.2.1 (dgV x.1 x.2 (p + 1)).toNatClampNeg (nI j).toNatClampNeg t.1).2.2) = t
          rw [z1, z2, z, show nI 0 = (0 : Int32) from rfl, Int32.add_zero]
        · exact veK_0 _ t
      · split
        · unfold moveO
          split
          · split
            · exact veK_0 _ t
            · exact veK_1 (by decide) rfl
          · exact veK_0 _ t
        · split
          · unfold firmO
            split
            · exact veK_1 (by decide) rfl
            · split
              · exact veK_1 (by decide) rfl
              · exact veK_0 _ t
          · exact veK_0 _ t
theorem veK_st {x : cText} : ∀ j dn p t, oldT t → veK (7 * j) t (stO x j dn p t).2.2 := by
  intro j
  induction j with
  | zero => intro dn p t _; exact veK_0 _ t
  | succ j ih =>
    intro dn p t hT
    rw [stO_s]
    split
    · split
      · exact veK_le (by omega) (veK_act hT)
      · rw [show 7 * (j + 1) = 7 + 7 * j by omega]
        exact veK_t (veK_act hT) (ih _ _ _ (actO_ok hT))
    · exact veK_0 _ t

