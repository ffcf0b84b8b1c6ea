/-! steps: orders -/
theorem oT_B {t : cTold} {k len m : Nat} {A : Nat → Nat → Nat} {B B' : Nat → Nat → Int64} {C : Nat → Nat → Nat} {op op' : Nat → Int32} {sn : Int32} {tl tl' : Bool} {on la : Nat} (h : odT t (k, len, m, A, B, C, op, sn, tl, on, la)) (e : B' 1 = B 1) : odT t (k, len, m, A, B', C, op', sn, tl', on, la) := by
  obtain ⟨h1, h2, h3, h4, h5, h6, h7, h8⟩ := h
  dsimp only at h1 h2 h3 h4 h5 h6 h7 h8
  refine ⟨h1, h2, h3, h4, ?_, h6, ?_, h8⟩
  · show B' 1 (3 ^ t.1 - 1) = 1
    rw [e]; exact h5
  · intro s hs
    have := h7 s hs
    show A 2 s = (lbS (B' 1) (pos4 A C s) s t.1).1 ∧ B' 1 s = (lbS (B' 1) (pos4 A C s) s t.1).2
    rw [e]; exact this
theorem jO_mk {t : cTold} {k len m : Nat} {A : Nat → Nat → Nat} {B B' : Nat → Nat → Int64} {C : Nat → Nat → Nat} {op op' : Nat → Int32} {sn : Int32} {tl tl' : Bool} {on la : Nat} (hW : odW (k, len, m, A, B, C, op, sn, tl, on, la)) (hT : odT t (k, len, m, A, B, C, op, sn, tl, on, la)) (e : B' 1 = B 1) (hl : jTl t (k, len, m, A, B', C, op', sn, tl', on, la)) : jO t (k, len, m, A, B', C, op', sn, tl', on, la) := ⟨hW, fun _ => ⟨oT_B hT e, hl⟩⟩
/-- orders were counted; the row and the model's tables change -/
theorem s_ord {c : Nat} {u u' : zU} {h : Nat → zE} {te : cText} {tO : cTold} {dr : cTold} {pa : cPast} {ro : cRow} {fi : cFits} {od : cOrd} {cs : cCst} {ci : cCir} {ga : cGam} {r1 : cRule} {r2 : cRule} {sw : Bool} {th : Int32} {to : Int32} {row : Nat → Int64} {gu : Int32} {ch : Int32} {now : Nat → Int32} {tape : Nat → Int32} {tp : Int32} {pt : Int32} {tt : Int32} {ne : Int32} {rd : Nat → Int32} {rM : Int32} {code : Nat → Int32} {rc : Nat → Int32} {cL : Int32} {cR : Int32} {stk : Nat → Int32} {ask : Nat → Int32} {un : Int32} {und : Nat → Int32} {aS : Nat → Int32} {aO : Nat → Int32} {aW : Nat → Int32} {aH : Nat → Int32} {ac : Int32} {thr : Nat → Int32} {ins : Nat → Int32} {gon : Nat → Int32} {nO : Nat → Int32} {mO : Nat → Int32} {rO : Nat → Int32} {wy : Nat → Int64} {ah : Nat → Int64} {late : Nat → Int32} {soon : Nat → Int32} {yet : Nat → Int32} {cir : Nat → Int32} {bed : Nat → Int32} {stp : Nat → Int32} {oO : Nat → Int32} {oW : Nat → Int32} {win : Nat → Int32} {wc : Nat → Int32} {rn : Int32} {wer : Nat → Int32} {iK : Nat → Int32} {kC : Nat → Int32} {kep : Nat → Int32} {h' : Nat → zE} {o' : cOrd} {ro' : cRow} {to' : Int32} {row' : Nat → Int64} {nN mN rN : Nat → Nat} {wy' ah' : Nat → Int64} (hc : c < 64) (hA : jAll c u h te tO dr pa ro fi od cs ci ga r1 r2 sw th to row gu ch now tape tp pt tt ne rd rM code rc cL cR stk ask un und aS aO aW aH ac thr ins gon nO mO rO wy ah late soon yet cir bed stp oO oW win wc rn wer iK kC kep) {y y' : Nat} {as : List Value} {v : Value} (hp : ∀ Q, zK 300 y (.ref 1 :: as) ((wld ((mdl h th to row gu ch now tape tp pt tt ne rd rM code rc cL cR stk ask un und aS aO aW aH ac thr ins gon nO mO rO wy ah late soon yet cir bed stp oO oW win wc rn wer iK kC kep)) te tO dr pa ro fi od cs ci ga r1 r2 sw), u) Q = Q (some v, ((wld ((mdl h' th to row gu ch now tape tp pt tt ne rd rM code rc cL cR stk ask un und aS aO aW aH ac thr ins gon nO mO rO wy ah late soon yet cir bed stp oO oW win wc rn wer iK kC kep)) te tO dr pa ro' fi o' cs ci ga r1 r2 sw), u'))) (hm : ∀ h Q, zK 300 y' (.ref 54 :: as) ((mdl h th to row gu ch now tape tp pt tt ne rd rM code rc cL cR stk ask un und aS aO aW aH ac thr ins gon nO mO rO wy ah late soon yet cir bed stp oO oW win wc rn wer iK kC kep), u') Q = Q (some v, ((mdl h 0 to' row' gu ch now tape tp pt tt ne rd rM code rc cL cR stk ask un und aS aO aW aH ac thr ins gon (fun i => nI (nN i)) (fun i => nI (mN i)) (fun i => nI (rN i)) wy' ah' late soon yet cir bed stp oO oW win wc rn wer iK kC kep), u'))) (hr : jR ro' to' row') (ho : jO tO o') (hv : jV c tO o') (hn : jNb c o' cs u') : jSt c y y' as (wld ((mdl h th to row gu ch now tape tp pt tt ne rd rM code rc cL cR stk ask un und aS aO aW aH ac thr ins gon nO mO rO wy ah late soon yet cir bed stp oO oW win wc rn wer iK kC kep)) te tO dr pa ro fi od cs ci ga r1 r2 sw) u := by
  obtain ⟨hX, hT, hP, hR, hS, hV, hO, hC, hU, hM, hN⟩ := hA
  have hN' := hn.1
  obtain ⟨m1, m2, m3, m4, m5, m6, m7⟩ := hM
  refine ⟨_, _, _, _, hp, fun Q => ?_, h', te, tO, dr, pa, ro', fi, o', cs, ci, ga, r1, r2, sw, 0, to', row', gu, ch, now, tape, tp, pt, tt, ne, rd, rM, code, rc, cL, cR, stk, ask, un, und, aS, aO, aW, aH, ac, thr, ins, gon, (fun i => nI (nN i)), (fun i => nI (mN i)), (fun i => nI (rN i)), wy', ah', late, soon, yet, cir, bed, stp, oO, oW, win, wc, rn, wer, iK, kC, kep, (wm_comm hN').symm, hX, hT, jP_up hP, hr, hS, jV_up hc hv (ve_self _), ho, hC, hU, ⟨m1, m2, m3, ⟨_, rfl⟩, ⟨_, rfl⟩, ⟨_, rfl⟩, m7⟩, jNb_N hn⟩
  rw [wm_comm hN']
  exact hm _ Q
theorem aN_cq {r r' : Nat → Nat → Bool} {n : Nat} (h : ∀ s i, i < n → r s i = r' s i) : ∀ k t, aN r n k t = aN r' n k t := by
  intro k
  induction k with
  | zero => intro t; rfl
  | succ k ih =>
    intro t
    rw [aN_s, aN_s, ih t]
    congr 1
    refine sumN_cg n (fun i hi => ?_)
    rw [h k i hi, ih k]
theorem gat_q {q q' : Nat → Nat → Bool} {T : Nat → Nat} {n a : Nat} {cd : Nat → Bool} (ha : a < n) (h : ∀ s i, i < n → q s i = q' s i) : gatN q T n a cd = gatN q' T n a cd := by
  unfold gatN
  refine sumN_cg _ (fun s _ => ?_)
  rw [h s a ha, aN_cq h]
theorem jTl_t {n : Nat} {A : Nat → Nat → Nat} {B : Nat → Nat → Int64} {p q : Nat → Nat → Bool} {TM : Nat → Nat} {gd : Nat → Prop} {rm mt nt : Nat → Nat} {fm : Bool} {vr : Int32} {k len m : Nat} {C : Nat → Nat → Nat} {op : Nat → Int32} {tl : Bool} (H : twoH n A p q (cTab n rm mt nt fm) TM gd) (h0 : ¬ cTab n rm mt nt fm 0 = 0) (hB : ∀ s, s < 3 ^ n → B 1 s = lN (cTab n rm mt nt fm s)) (hlen : 3 ^ n ≤ len) (hI : jTl (n, rm, mt, nt, fm, vr) (k, len, m, A, B, C, op, vr, tl, n, 3 ^ n - 1)) : jTl (n, rm, mt, nt, fm, vr) (k, len, m, A, tlB A B n (3 ^ n - 1) len m tl, C, op, vr, true, n, 3 ^ n - 1) := by
  obtain ⟨t1, t2, t3, t4, t5⟩ := tl_ok H h0 hB hlen hI
  exact fun _ => ⟨t1, t2, t3⟩
theorem s_orders {c : Nat} {H : Nat → zE} {u : zU} (hc : c < 64) (hI : jIV c H u) : jSt c 145 244 [] H u := by
  refine jIV_e hI (fun h te tO dr pa ro fi od cs ci ga r1 r2 sw th to row gu ch now tape tp pt tt ne rd rM code rc cL cR stk ask un und aS aO aW aH ac thr ins gon nO mO rO wy ah late soon yet cir bed stp oO oW win wc rn wer iK kC kep eH hA => ?_)
  subst eH
  have hA' := hA
  obtain ⟨hX, hT, hP, hR, hS, hV, hO, hC, hU, hM, hN⟩ := hA
  have hN' := hN.1
  obtain ⟨rk, rf⟩ := ro
  obtain ⟨n, rm, mt, nt, fm, vr⟩ := tO
  have hn : n ≤ 7 := hT.1.1.1
  have g : gu = nI n := hT.2
  subst g
  obtain ⟨rfl, rfl, rfl, ⟨nN, rfl⟩, ⟨mN, rfl⟩, ⟨rN, rfl⟩, m7, m8, m9, m10, m11⟩ := hM
  obtain ⟨h', k, len, m, A, B, C, op, tl, u', tot, ⟨kW, kT, kL, kG, kA, k2, kB, kE, kM⟩, nb, nV⟩ := jTot (h := h) (te := te) (tO := (n, rm, mt, nt, fm, vr)) (dr := dr) (pa := pa) (ro := (rk, rf)) (fi := fi) (od := od) (cs := cs) (ci := ci) (ga := ga) (r1 := r1) (r2 := r2) (sw := sw) (th := th) (to := to) (row := row) (gu := (nI n)) (ch := ch) (now := now) (tape := tape) (tp := tp) (pt := pt) (tt := tt) (ne := ne) (rd := rd) (rM := rM) (code := code) (rc := rc) (cL := cL) (cR := cR) (stk := stk) (ask := ask) (un := un) (und := und) (aS := aS) (aO := aO) (aW := aW) (aH := aH) (ac := ac) (thr := (fun i => nI (tV i))) (ins := (fun s => nI (iV s))) (gon := (fun s => nI (gV s))) (nO := (fun i => nI (nN i))) (mO := (fun i => nI (mN i))) (rO := (fun i => nI (rN i))) (wy := wy) (ah := ah) (late := late) (soon := soon) (yet := yet) (cir := cir) (bed := bed) (stp := stp) (oO := oO) (oW := oW) (win := win) (wc := wc) (rn := rn) (wer := wer) (iK := iK) (kC := kC) (kep := kep) hc hT hV hO hN
  have p3 := p3_pos n
  have ew := fun s hs => md_T (now := now) hn (nN, mN, rN) wy s hs
  have ea := fun s hs => ah_T (nN := (ruV now n (nN, mN, rN)).1) (mN := (ruV now n (nN, mN, rN)).2.1) (rN := (ruV now n (nN, mN, rN)).2.2) (tb_dig hn) hn ah s hs
  have eB0 : B 1 0 = lN (mTab now n 0) := by rw [kB 0 p3, kE]
  have ew0 := ew 0 p3
  have l31 : mTab now n 0 < 2147483648 := by omega
  have p := fun Q => p_orders (d := 296) (Q := Q) (te := te) (dr := dr) (pa := pa) (rk := rk) (rf := rf) (fi := fi) (cs := cs) (ci := ci) (ga := ga) (r1 := r1) (r2 := r2) (sw := sw) (n := n) (rm := rm) (mt := mt) (nt := nt) (fm := fm) (vr := vr) tot hN'.1
  rw [eB0] at p
  refine s_ord (nN := (ruV now n (nN, mN, rN)).1) (mN := (ruV now n (nN, mN, rN)).2.1) (rN := (ruV now n (nN, mN, rN)).2.2) (wy' := (wyV iV gV (ruV now n (nN, mN, rN)) n 7 (-1) wy)) (ah' := ah) hc hA' p (fun h Q => ?_) hR (jO_mk kW kT rfl kL) nV nb
  have mm := m_orders (d := 295) (u := u') (Q := Q) (h := h) (th := th) (to := to) (row := row) (ch := ch) (now := now) (tape := tape) (tp := tp) (pt := pt) (tt := tt) (ne := ne) (rd := rd) (rM := rM) (code := code) (rc := rc) (cL := cL) (cR := cR) (stk := stk) (ask := ask) (un := un) (und := und) (aS := aS) (aO := aO) (aW := aW) (aH := aH) (ac := ac) (wy := wy) (ah := ah) (late := late) (soon := soon) (yet := yet) (cir := cir) (bed := bed) (stp := stp) (oO := oO) (oW := oW) (win := win) (wc := wc) (rn := rn) (wer := wer) (iK := iK) (kC := kC) (kep := kep) (n := n) (tN := tV) (iN := iV) (gN := gV) (nN := nN) (mN := mN) (rN := rN) (tb_K hn) (tb_B hn _ _ _)
  rw [ew0] at mm
  exact mm
theorem s_before {c : Nat} {H : Nat → zE} {u : zU} (hc : c < 64) (hI : jIV c H u) (g j : Int32) : jSt c 147 248 [.int g, .int j] H u := by
  refine jIV_e hI (fun h te tO dr pa ro fi od cs ci ga r1 r2 sw th to row gu ch now tape tp pt tt ne rd rM code rc cL cR stk ask un und aS aO aW aH ac thr ins gon nO mO rO wy ah late soon yet cir bed stp oO oW win wc rn wer iK kC kep eH hA => ?_)
  subst eH
  have hA' := hA
  obtain ⟨hX, hT, hP, hR, hS, hV, hO, hC, hU, hM, hN⟩ := hA
  have hN' := hN.1
  obtain ⟨rk, rf⟩ := ro
  obtain ⟨n, rm, mt, nt, fm, vr⟩ := tO
  have hn : n ≤ 7 := hT.1.1.1
  have g : gu = nI n := hT.2
  subst g
  obtain ⟨rfl, rfl, rfl, ⟨nN, rfl⟩, ⟨mN, rfl⟩, ⟨rN, rfl⟩, m7, m8, m9, m10, m11⟩ := hM
  obtain ⟨h', k, len, m, A, B, C, op, tl, u', tot, ⟨kW, kT, kL, kG, kA, k2, kB, kE, kM⟩, nb, nV⟩ := jTot (h := h) (te := te) (tO := (n, rm, mt, nt, fm, vr)) (dr := dr) (pa := pa) (ro := (rk, rf)) (fi := fi) (od := od) (cs := cs) (ci := ci) (ga := ga) (r1 := r1) (r2 := r2) (sw := sw) (th := th) (to := to) (row := row) (gu := (nI n)) (ch := ch) (now := now) (tape := tape) (tp := tp) (pt := pt) (tt := tt) (ne := ne) (rd := rd) (rM := rM) (code := code) (rc := rc) (cL := cL) (cR := cR) (stk := stk) (ask := ask) (un := un) (und := und) (aS := aS) (aO := aO) (aW := aW) (aH := aH) (ac := ac) (thr := (fun i => nI (tV i))) (ins := (fun s => nI (iV s))) (gon := (fun s => nI (gV s))) (nO := (fun i => nI (nN i))) (mO := (fun i => nI (mN i))) (rO := (fun i => nI (rN i))) (wy := wy) (ah := ah) (late := late) (soon := soon) (yet := yet) (cir := cir) (bed := bed) (stp := stp) (oO := oO) (oW := oW) (win := win) (wc := wc) (rn := rn) (wer := wer) (iK := iK) (kC := kC) (kep := kep) hc hT hV hO hN
  have p3 := p3_pos n
  have ew := fun s hs => md_T (now := now) hn (nN, mN, rN) wy s hs
  have ea := fun s hs => ah_T (nN := (ruV now n (nN, mN, rN)).1) (mN := (ruV now n (nN, mN, rN)).2.1) (rN := (ruV now n (nN, mN, rN)).2.2) (tb_dig hn) hn ah s hs
  have eB0 : B 1 0 = lN (mTab now n 0) := by rw [kB 0 p3, kE]
  have ew0 := ew 0 p3
  have l31 : mTab now n 0 < 2147483648 := by omega
  by_cases q : hasB n g = true ∧ hasB n j = true ∧ ¬ g = j
  · obtain ⟨a1, a2, a3⟩ := q
    obtain ⟨a, ha, rfl⟩ := hasB_of hn a1
    obtain ⟨b, hb, rfl⟩ := hasB_of hn a2
    have hab : a ≠ b := fun e => a3 (by rw [e])
    by_cases z : mTab now n 0 = 0
    · have bz : B 1 0 = 0 := by rw [eB0, z]; rfl
      have wz : (wyV iV gV (ruV now n (nN, mN, rN)) n 7 (-1) wy) 0 = 0 := by rw [ew0, z]; rfl
      have p := fun Q => p_before0 (d := 295) (Q := Q) (te := te) (dr := dr) (pa := pa) (rk := rk) (rf := rf) (fi := fi) (cs := cs) (ci := ci) (ga := ga) (r1 := r1) (r2 := r2) (sw := sw) (n := n) (rm := rm) (mt := mt) (nt := nt) (fm := fm) (vr := vr) tot hN'.1 hT.1.1 ha hb hab bz
      exact s_ord (nN := (ruV now n (nN, mN, rN)).1) (mN := (ruV now n (nN, mN, rN)).2.1) (rN := (ruV now n (nN, mN, rN)).2.2) (wy' := (wyV iV gV (ruV now n (nN, mN, rN)) n 7 (-1) wy)) (ah' := ah) hc hA' p (fun h Q => m_before0 (d := 234) (u := u') (Q := Q) (h := h) (th := th) (to := to) (row := row) (ch := ch) (now := now) (tape := tape) (tp := tp) (pt := pt) (tt := tt) (ne := ne) (rd := rd) (rM := rM) (code := code) (rc := rc) (cL := cL) (cR := cR) (stk := stk) (ask := ask) (un := un) (und := und) (aS := aS) (aO := aO) (aW := aW) (aH := aH) (ac := ac) (wy := wy) (ah := ah) (late := late) (soon := soon) (yet := yet) (cir := cir) (bed := bed) (stp := stp) (oO := oO) (oW := oW) (win := win) (wc := wc) (rn := rn) (wer := wer) (iK := iK) (kC := kC) (kep := kep) (n := n) (tN := tV) (iN := iV) (gN := gV) (nN := nN) (mN := mN) (rN := rN) (tb_K hn) (tb_B hn _ _ _) ha hb hab wz) hR (jO_mk kW kT rfl kL) nV nb
    · have y0 : 0 < mTab now n 0 := by omega
      have c0 : ¬ cTab n rm mt nt fm 0 = 0 := by rw [kE]; exact z
      have bz : ¬ B 1 0 = 0 := by rw [eB0, lN_z l31]; exact z
      have wz : ¬ (wyV iV gV (ruV now n (nN, mN, rN)) n 7 (-1) wy) 0 = 0 := by rw [ew0, lN_z l31]; exact z
      have hlen : 3 ^ n ≤ len := kT.2.2.2.1
      have tk := tl_ok k2 c0 kB hlen kL
      have jl := jTl_t k2 c0 kB hlen kL
      have qr := fun s i hi => qM_ru (now := now) (n := n) (nN, mN, rN) (s := s) (i := i) hi
      have hx : gatN (qM now n) (mTab now n) n a (fun s => decide (dg s b = 0)) < 2147483648 := by
        have := gatN_le k2 ha (cd := fun s => decide (dg s b = 0))
        omega
      have cX : waS (tlB A B n (3 ^ n - 1) len m tl 3) (fun c => !c.testBit b) a (2 ^ n) = lN (gatN (qM now n) (mTab now n) n a (fun s => decide (dg s b = 0))) := bef_eq k2 kA kG.2.2.2.1 tk.2.1 ha hb
      have mX : mcwV iV gV (ruV now n (nN, mN, rN)) n (ahV iV gV (ruV now n (nN, mN, rN)) n ah) (wyV iV gV (ruV now n (nN, mN, rN)) n 7 (-1) wy) a b 0 = lN (gatN (qM now n) (mTab now n) n a (fun s => decide (dg s b = 0))) := by
        exact ((mcw_T (nN := (ruV now n (nN, mN, rN)).1) (mN := (ruV now n (nN, mN, rN)).2.1) (rN := (ruV now n (nN, mN, rN)).2.2) (V := (ahV iV gV (ruV now n (nN, mN, rN)) n ah)) (W := (wyV iV gV (ruV now n (nN, mN, rN)) n 7 (-1) wy)) (T := mTab now n) (a := a) (b := b) (w := 0) (tb_dig hn) hn ha ea ew).trans (congrArg lN (gat_q ha qr)))
      have p := fun Q => p_before (d := 295) (Q := Q) (te := te) (dr := dr) (pa := pa) (rk := rk) (rf := rf) (fi := fi) (cs := cs) (ci := ci) (ga := ga) (r1 := r1) (r2 := r2) (sw := sw) (n := n) (rm := rm) (mt := mt) (nt := nt) (fm := fm) (vr := vr) tot hN'.1 hT.1.1 nb.1.1 kG rfl hR.1 ha hb hab hx l31 y0 eB0 cX
      exact s_ord (nN := (ruV now n (nN, mN, rN)).1) (mN := (ruV now n (nN, mN, rN)).2.1) (rN := (ruV now n (nN, mN, rN)).2.2) (wy' := (wyV iV gV (ruV now n (nN, mN, rN)) n 7 (-1) wy)) (ah' := (ahV iV gV (ruV now n (nN, mN, rN)) n ah)) hc hA' p (fun h Q => m_before (d := 234) (u := u') (Q := Q) (h := h) (th := th) (to := to) (row := row) (ch := ch) (now := now) (tape := tape) (tp := tp) (pt := pt) (tt := tt) (ne := ne) (rd := rd) (rM := rM) (code := code) (rc := rc) (cL := cL) (cR := cR) (stk := stk) (ask := ask) (un := un) (und := und) (aS := aS) (aO := aO) (aW := aW) (aH := aH) (ac := ac) (wy := wy) (ah := ah) (late := late) (soon := soon) (yet := yet) (cir := cir) (bed := bed) (stp := stp) (oO := oO) (oW := oW) (win := win) (wc := wc) (rn := rn) (wer := wer) (iK := iK) (kC := kC) (kep := kep) (n := n) (tN := tV) (iN := iV) (gN := gV) (nN := nN) (mN := mN) (rN := rN) (tb_K hn) (tb_B hn _ _ _) ha hb hab hx l31 y0 ew0 mX) ⟨by show 2 ≤ 14; decide, rowM_2⟩ (jO_mk kW kT tk.2.2.2.1 jl) nV nb
  · have p := fun Q => q_beforen (d := 295) (Q := Q) (u := u) (h := (mdl h th to row (nI n) ch now tape tp pt tt ne rd rM code rc cL cR stk ask un und aS aO aW aH ac (fun i => nI (tV i)) (fun s => nI (iV s)) (fun s => nI (gV s)) (fun i => nI (nN i)) (fun i => nI (mN i)) (fun i => nI (rN i)) wy ah late soon yet cir bed stp oO oW win wc rn wer iK kC kep)) (od := od) (te := te) (dr := dr) (pa := pa) (rk := rk) (rf := rf) (fi := fi) (cs := cs) (ci := ci) (ga := ga) (r1 := r1) (r2 := r2) (sw := sw) (n := n) (rm := rm) (mt := mt) (nt := nt) (fm := fm) (vr := vr) hT.1.1 (g := g) (j := j) q
    refine s_row hc hA' p (fun h Q => ?_) hR
    exact m_beforen (d := 234) (u := u) (Q := Q) (h := h) (th := th) (to := to) (row := row) (ch := ch) (now := now) (tape := tape) (tp := tp) (pt := pt) (tt := tt) (ne := ne) (rd := rd) (rM := rM) (code := code) (rc := rc) (cL := cL) (cR := cR) (stk := stk) (ask := ask) (un := un) (und := und) (aS := aS) (aO := aO) (aW := aW) (aH := aH) (ac := ac) (wy := wy) (ah := ah) (late := late) (soon := soon) (yet := yet) (cir := cir) (bed := bed) (stp := stp) (oO := oO) (oW := oW) (win := win) (wc := wc) (rn := rn) (wer := wer) (iK := iK) (kC := kC) (kep := kep) (n := n) (tN := tV) (iN := iV) (gN := gV) (nN := nN) (mN := mN) (rN := rN) hn (by cases b1 : hasB n g; rfl; cases b2 : hasB n j; rfl; by_cases b3 : g = j; simp [b3]; exact absurd ⟨b1, b2, b3⟩ q)
theorem s_met {c : Nat} {H : Nat → zE} {u : zU} (hc : c < 64) (hI : jIV c H u) (g j : Int32) : jSt c 148 249 [.int g, .int j] H u := by
  refine jIV_e hI (fun h te tO dr pa ro fi od cs ci ga r1 r2 sw th to row gu ch now tape tp pt tt ne rd rM code rc cL cR stk ask un und aS aO aW aH ac thr ins gon nO mO rO wy ah late soon yet cir bed stp oO oW win wc rn wer iK kC kep eH hA => ?_)
  subst eH
  have hA' := hA
  obtain ⟨hX, hT, hP, hR, hS, hV, hO, hC, hU, hM, hN⟩ := hA
  have hN' := hN.1
  obtain ⟨rk, rf⟩ := ro
  obtain ⟨n, rm, mt, nt, fm, vr⟩ := tO
  have hn : n ≤ 7 := hT.1.1.1
  have g : gu = nI n := hT.2
  subst g
  obtain ⟨rfl, rfl, rfl, ⟨nN, rfl⟩, ⟨mN, rfl⟩, ⟨rN, rfl⟩, m7, m8, m9, m10, m11⟩ := hM
  obtain ⟨h', k, len, m, A, B, C, op, tl, u', tot, ⟨kW, kT, kL, kG, kA, k2, kB, kE, kM⟩, nb, nV⟩ := jTot (h := h) (te := te) (tO := (n, rm, mt, nt, fm, vr)) (dr := dr) (pa := pa) (ro := (rk, rf)) (fi := fi) (od := od) (cs := cs) (ci := ci) (ga := ga) (r1 := r1) (r2 := r2) (sw := sw) (th := th) (to := to) (row := row) (gu := (nI n)) (ch := ch) (now := now) (tape := tape) (tp := tp) (pt := pt) (tt := tt) (ne := ne) (rd := rd) (rM := rM) (code := code) (rc := rc) (cL := cL) (cR := cR) (stk := stk) (ask := ask) (un := un) (und := und) (aS := aS) (aO := aO) (aW := aW) (aH := aH) (ac := ac) (thr := (fun i => nI (tV i))) (ins := (fun s => nI (iV s))) (gon := (fun s => nI (gV s))) (nO := (fun i => nI (nN i))) (mO := (fun i => nI (mN i))) (rO := (fun i => nI (rN i))) (wy := wy) (ah := ah) (late := late) (soon := soon) (yet := yet) (cir := cir) (bed := bed) (stp := stp) (oO := oO) (oW := oW) (win := win) (wc := wc) (rn := rn) (wer := wer) (iK := iK) (kC := kC) (kep := kep) hc hT hV hO hN
  have p3 := p3_pos n
  have ew := fun s hs => md_T (now := now) hn (nN, mN, rN) wy s hs
  have ea := fun s hs => ah_T (nN := (ruV now n (nN, mN, rN)).1) (mN := (ruV now n (nN, mN, rN)).2.1) (rN := (ruV now n (nN, mN, rN)).2.2) (tb_dig hn) hn ah s hs
  have eB0 : B 1 0 = lN (mTab now n 0) := by rw [kB 0 p3, kE]
  have ew0 := ew 0 p3
  have l31 : mTab now n 0 < 2147483648 := by omega
  by_cases q : hasB n g = true ∧ hasB n j = true ∧ ¬ g = j
  · obtain ⟨a1, a2, a3⟩ := q
    obtain ⟨a, ha, rfl⟩ := hasB_of hn a1
    obtain ⟨b, hb, rfl⟩ := hasB_of hn a2
    have hab : a ≠ b := fun e => a3 (by rw [e])
    by_cases z : mTab now n 0 = 0
    · have bz : B 1 0 = 0 := by rw [eB0, z]; rfl
      have wz : (wyV iV gV (ruV now n (nN, mN, rN)) n 7 (-1) wy) 0 = 0 := by rw [ew0, z]; rfl
      have p := fun Q => p_met0 (d := 295) (Q := Q) (te := te) (dr := dr) (pa := pa) (rk := rk) (rf := rf) (fi := fi) (cs := cs) (ci := ci) (ga := ga) (r1 := r1) (r2 := r2) (sw := sw) (n := n) (rm := rm) (mt := mt) (nt := nt) (fm := fm) (vr := vr) tot hN'.1 hT.1.1 ha hb hab bz
      exact s_ord (nN := (ruV now n (nN, mN, rN)).1) (mN := (ruV now n (nN, mN, rN)).2.1) (rN := (ruV now n (nN, mN, rN)).2.2) (wy' := (wyV iV gV (ruV now n (nN, mN, rN)) n 7 (-1) wy)) (ah' := ah) hc hA' p (fun h Q => m_met0 (d := 234) (u := u') (Q := Q) (h := h) (th := th) (to := to) (row := row) (ch := ch) (now := now) (tape := tape) (tp := tp) (pt := pt) (tt := tt) (ne := ne) (rd := rd) (rM := rM) (code := code) (rc := rc) (cL := cL) (cR := cR) (stk := stk) (ask := ask) (un := un) (und := und) (aS := aS) (aO := aO) (aW := aW) (aH := aH) (ac := ac) (wy := wy) (ah := ah) (late := late) (soon := soon) (yet := yet) (cir := cir) (bed := bed) (stp := stp) (oO := oO) (oW := oW) (win := win) (wc := wc) (rn := rn) (wer := wer) (iK := iK) (kC := kC) (kep := kep) (n := n) (tN := tV) (iN := iV) (gN := gV) (nN := nN) (mN := mN) (rN := rN) (tb_K hn) (tb_B hn _ _ _) ha hb hab wz) hR (jO_mk kW kT rfl kL) nV nb
    · have y0 : 0 < mTab now n 0 := by omega
      have c0 : ¬ cTab n rm mt nt fm 0 = 0 := by rw [kE]; exact z
      have bz : ¬ B 1 0 = 0 := by rw [eB0, lN_z l31]; exact z
      have wz : ¬ (wyV iV gV (ruV now n (nN, mN, rN)) n 7 (-1) wy) 0 = 0 := by rw [ew0, lN_z l31]; exact z
      have hlen : 3 ^ n ≤ len := kT.2.2.2.1
      have tk := tl_ok k2 c0 kB hlen kL
      have jl := jTl_t k2 c0 kB hlen kL
      have qr := fun s i hi => qM_ru (now := now) (n := n) (nN, mN, rN) (s := s) (i := i) hi
      have hx : gatN (qM now n) (mTab now n) n a (fun s => decide (dg s b = 1)) + gatN (qM now n) (mTab now n) n b (fun s => decide (dg s a = 1)) < 2147483648 := by
        have := metN_le k2.2.2.2.1 k2.2.2.2.2.2.1 ha hb
        omega
      have cX : wmS (tlB A B n (3 ^ n - 1) len m tl 4) a b (2 ^ n) = lN (gatN (qM now n) (mTab now n) n a (fun s => decide (dg s b = 1)) + gatN (qM now n) (mTab now n) n b (fun s => decide (dg s a = 1))) := met_eq k2 kA kG.2.2.2.1 tk.2.2.1 ha hb
      have mX : mcwV iV gV (ruV now n (nN, mN, rN)) n (ahV iV gV (ruV now n (nN, mN, rN)) n ah) (wyV iV gV (ruV now n (nN, mN, rN)) n 7 (-1) wy) a b 1 + mcwV iV gV (ruV now n (nN, mN, rN)) n (ahV iV gV (ruV now n (nN, mN, rN)) n ah) (wyV iV gV (ruV now n (nN, mN, rN)) n 7 (-1) wy) b a 1 = lN (gatN (qM now n) (mTab now n) n a (fun s => decide (dg s b = 1)) + gatN (qM now n) (mTab now n) n b (fun s => decide (dg s a = 1))) := by
        rw [((mcw_T (nN := (ruV now n (nN, mN, rN)).1) (mN := (ruV now n (nN, mN, rN)).2.1) (rN := (ruV now n (nN, mN, rN)).2.2) (V := (ahV iV gV (ruV now n (nN, mN, rN)) n ah)) (W := (wyV iV gV (ruV now n (nN, mN, rN)) n 7 (-1) wy)) (T := mTab now n) (a := a) (b := b) (w := 1) (tb_dig hn) hn ha ea ew).trans (congrArg lN (gat_q ha qr))), ((mcw_T (nN := (ruV now n (nN, mN, rN)).1) (mN := (ruV now n (nN, mN, rN)).2.1) (rN := (ruV now n (nN, mN, rN)).2.2) (V := (ahV iV gV (ruV now n (nN, mN, rN)) n ah)) (W := (wyV iV gV (ruV now n (nN, mN, rN)) n 7 (-1) wy)) (T := mTab now n) (a := b) (b := a) (w := 1) (tb_dig hn) hn hb ea ew).trans (congrArg lN (gat_q hb qr))), lN_add]
      have p := fun Q => p_met (d := 295) (Q := Q) (te := te) (dr := dr) (pa := pa) (rk := rk) (rf := rf) (fi := fi) (cs := cs) (ci := ci) (ga := ga) (r1 := r1) (r2 := r2) (sw := sw) (n := n) (rm := rm) (mt := mt) (nt := nt) (fm := fm) (vr := vr) tot hN'.1 hT.1.1 nb.1.1 kG rfl hR.1 ha hb hab hx l31 y0 eB0 cX
      exact s_ord (nN := (ruV now n (nN, mN, rN)).1) (mN := (ruV now n (nN, mN, rN)).2.1) (rN := (ruV now n (nN, mN, rN)).2.2) (wy' := (wyV iV gV (ruV now n (nN, mN, rN)) n 7 (-1) wy)) (ah' := (ahV iV gV (ruV now n (nN, mN, rN)) n ah)) hc hA' p (fun h Q => m_met (d := 234) (u := u') (Q := Q) (h := h) (th := th) (to := to) (row := row) (ch := ch) (now := now) (tape := tape) (tp := tp) (pt := pt) (tt := tt) (ne := ne) (rd := rd) (rM := rM) (code := code) (rc := rc) (cL := cL) (cR := cR) (stk := stk) (ask := ask) (un := un) (und := und) (aS := aS) (aO := aO) (aW := aW) (aH := aH) (ac := ac) (wy := wy) (ah := ah) (late := late) (soon := soon) (yet := yet) (cir := cir) (bed := bed) (stp := stp) (oO := oO) (oW := oW) (win := win) (wc := wc) (rn := rn) (wer := wer) (iK := iK) (kC := kC) (kep := kep) (n := n) (tN := tV) (iN := iV) (gN := gV) (nN := nN) (mN := mN) (rN := rN) (tb_K hn) (tb_B hn _ _ _) ha hb hab hx l31 y0 ew0 mX) ⟨by show 2 ≤ 14; decide, rowM_2⟩ (jO_mk kW kT tk.2.2.2.1 jl) nV nb
  · have p := fun Q => q_metn (d := 295) (Q := Q) (u := u) (h := (mdl h th to row (nI n) ch now tape tp pt tt ne rd rM code rc cL cR stk ask un und aS aO aW aH ac (fun i => nI (tV i)) (fun s => nI (iV s)) (fun s => nI (gV s)) (fun i => nI (nN i)) (fun i => nI (mN i)) (fun i => nI (rN i)) wy ah late soon yet cir bed stp oO oW win wc rn wer iK kC kep)) (od := od) (te := te) (dr := dr) (pa := pa) (rk := rk) (rf := rf) (fi := fi) (cs := cs) (ci := ci) (ga := ga) (r1 := r1) (r2 := r2) (sw := sw) (n := n) (rm := rm) (mt := mt) (nt := nt) (fm := fm) (vr := vr) hT.1.1 (g := g) (j := j) q
    refine s_row hc hA' p (fun h Q => ?_) hR
    exact m_metn (d := 234) (u := u) (Q := Q) (h := h) (th := th) (to := to) (row := row) (ch := ch) (now := now) (tape := tape) (tp := tp) (pt := pt) (tt := tt) (ne := ne) (rd := rd) (rM := rM) (code := code) (rc := rc) (cL := cL) (cR := cR) (stk := stk) (ask := ask) (un := un) (und := und) (aS := aS) (aO := aO) (aW := aW) (aH := aH) (ac := ac) (wy := wy) (ah := ah) (late := late) (soon := soon) (yet := yet) (cir := cir) (bed := bed) (stp := stp) (oO := oO) (oW := oW) (win := win) (wc := wc) (rn := rn) (wer := wer) (iK := iK) (kC := kC) (kep := kep) (n := n) (tN := tV) (iN := iV) (gN := gV) (nN := nN) (mN := mN) (rN := rN) hn (by cases b1 : hasB n g; rfl; cases b2 : hasB n j; rfl; by_cases b3 : g = j; simp [b3]; exact absurd ⟨b1, b2, b3⟩ q)
theorem s_place {c : Nat} {H : Nat → zE} {u : zU} (hc : c < 64) (hI : jIV c H u) (g j : Int32) : jSt c 151 252 [.int g, .int j] H u := by
  refine jIV_e hI (fun h te tO dr pa ro fi od cs ci ga r1 r2 sw th to row gu ch now tape tp pt tt ne rd rM code rc cL cR stk ask un und aS aO aW aH ac thr ins gon nO mO rO wy ah late soon yet cir bed stp oO oW win wc rn wer iK kC kep eH hA => ?_)
  subst eH
  have hA' := hA
  obtain ⟨hX, hT, hP, hR, hS, hV, hO, hC, hU, hM, hN⟩ := hA
  have hN' := hN.1
  obtain ⟨rk, rf⟩ := ro
  obtain ⟨n, rm, mt, nt, fm, vr⟩ := tO
  have hn : n ≤ 7 := hT.1.1.1
  have g : gu = nI n := hT.2
  subst g
  obtain ⟨rfl, rfl, rfl, ⟨nN, rfl⟩, ⟨mN, rfl⟩, ⟨rN, rfl⟩, m7, m8, m9, m10, m11⟩ := hM
  obtain ⟨h', k, len, m, A, B, C, op, tl, u', tot, ⟨kW, kT, kL, kG, kA, k2, kB, kE, kM⟩, nb, nV⟩ := jTot (h := h) (te := te) (tO := (n, rm, mt, nt, fm, vr)) (dr := dr) (pa := pa) (ro := (rk, rf)) (fi := fi) (od := od) (cs := cs) (ci := ci) (ga := ga) (r1 := r1) (r2 := r2) (sw := sw) (th := th) (to := to) (row := row) (gu := (nI n)) (ch := ch) (now := now) (tape := tape) (tp := tp) (pt := pt) (tt := tt) (ne := ne) (rd := rd) (rM := rM) (code := code) (rc := rc) (cL := cL) (cR := cR) (stk := stk) (ask := ask) (un := un) (und := und) (aS := aS) (aO := aO) (aW := aW) (aH := aH) (ac := ac) (thr := (fun i => nI (tV i))) (ins := (fun s => nI (iV s))) (gon := (fun s => nI (gV s))) (nO := (fun i => nI (nN i))) (mO := (fun i => nI (mN i))) (rO := (fun i => nI (rN i))) (wy := wy) (ah := ah) (late := late) (soon := soon) (yet := yet) (cir := cir) (bed := bed) (stp := stp) (oO := oO) (oW := oW) (win := win) (wc := wc) (rn := rn) (wer := wer) (iK := iK) (kC := kC) (kep := kep) hc hT hV hO hN
  have p3 := p3_pos n
  have ew := fun s hs => md_T (now := now) hn (nN, mN, rN) wy s hs
  have ea := fun s hs => ah_T (nN := (ruV now n (nN, mN, rN)).1) (mN := (ruV now n (nN, mN, rN)).2.1) (rN := (ruV now n (nN, mN, rN)).2.2) (tb_dig hn) hn ah s hs
  have eB0 : B 1 0 = lN (mTab now n 0) := by rw [kB 0 p3, kE]
  have ew0 := ew 0 p3
  have l31 : mTab now n 0 < 2147483648 := by omega
  by_cases q : hasB n g = true ∧ hasB n j = true
  · obtain ⟨a1, a2⟩ := q
    obtain ⟨a, ha, rfl⟩ := hasB_of hn a1
    obtain ⟨b, hb, rfl⟩ := hasB_of hn a2
    by_cases z : mTab now n 0 = 0
    · have bz : B 1 0 = 0 := by rw [eB0, z]; rfl
      have wz : (wyV iV gV (ruV now n (nN, mN, rN)) n 7 (-1) wy) 0 = 0 := by rw [ew0, z]; rfl
      have p := fun Q => p_place0 (d := 295) (Q := Q) (te := te) (dr := dr) (pa := pa) (rk := rk) (rf := rf) (fi := fi) (cs := cs) (ci := ci) (ga := ga) (r1 := r1) (r2 := r2) (sw := sw) (n := n) (rm := rm) (mt := mt) (nt := nt) (fm := fm) (vr := vr) tot hN'.1 hT.1.1 ha hb bz
      exact s_ord (nN := (ruV now n (nN, mN, rN)).1) (mN := (ruV now n (nN, mN, rN)).2.1) (rN := (ruV now n (nN, mN, rN)).2.2) (wy' := (wyV iV gV (ruV now n (nN, mN, rN)) n 7 (-1) wy)) (ah' := ah) hc hA' p (fun h Q => m_place0 (d := 234) (u := u') (Q := Q) (h := h) (th := th) (to := to) (row := row) (ch := ch) (now := now) (tape := tape) (tp := tp) (pt := pt) (tt := tt) (ne := ne) (rd := rd) (rM := rM) (code := code) (rc := rc) (cL := cL) (cR := cR) (stk := stk) (ask := ask) (un := un) (und := und) (aS := aS) (aO := aO) (aW := aW) (aH := aH) (ac := ac) (wy := wy) (ah := ah) (late := late) (soon := soon) (yet := yet) (cir := cir) (bed := bed) (stp := stp) (oO := oO) (oW := oW) (win := win) (wc := wc) (rn := rn) (wer := wer) (iK := iK) (kC := kC) (kep := kep) (n := n) (tN := tV) (iN := iV) (gN := gV) (nN := nN) (mN := mN) (rN := rN) (tb_K hn) (tb_B hn _ _ _) ha hb wz) hR (jO_mk kW kT rfl kL) nV nb
    · have y0 : 0 < mTab now n 0 := by omega
      have c0 : ¬ cTab n rm mt nt fm 0 = 0 := by rw [kE]; exact z
      have bz : ¬ B 1 0 = 0 := by rw [eB0, lN_z l31]; exact z
      have wz : ¬ (wyV iV gV (ruV now n (nN, mN, rN)) n 7 (-1) wy) 0 = 0 := by rw [ew0, lN_z l31]; exact z
      have hlen : 3 ^ n ≤ len := kT.2.2.2.1
      have tk := tl_ok k2 c0 kB hlen kL
      have jl := jTl_t k2 c0 kB hlen kL
      have qr := fun s i hi => qM_ru (now := now) (n := n) (nN, mN, rN) (s := s) (i := i) hi
      have hx : gatN (qM now n) (mTab now n) n a (fun s => decide (pop (iV s ||| gV s) = b)) < 2147483648 := by
        have := gatN_le k2 ha (cd := fun s => decide (pop (iV s ||| gV s) = b))
        omega
      have cX : waS (tlB A B n (3 ^ n - 1) len m tl 3) (fun c => decide (pop c = b)) a (2 ^ n) = lN (gatN (qM now n) (mTab now n) n a (fun s => decide (pop (iV s ||| gV s) = b))) := pla_eq k2 kA kG.2.2.2.1 tk.2.1 ha
      have mX : mplV iV gV (ruV now n (nN, mN, rN)) n (ahV iV gV (ruV now n (nN, mN, rN)) n ah) (wyV iV gV (ruV now n (nN, mN, rN)) n 7 (-1) wy) a b = lN (gatN (qM now n) (mTab now n) n a (fun s => decide (pop (iV s ||| gV s) = b))) := by
        exact ((pl_T (nN := (ruV now n (nN, mN, rN)).1) (mN := (ruV now n (nN, mN, rN)).2.1) (rN := (ruV now n (nN, mN, rN)).2.2) (V := (ahV iV gV (ruV now n (nN, mN, rN)) n ah)) (W := (wyV iV gV (ruV now n (nN, mN, rN)) n 7 (-1) wy)) (T := mTab now n) (tb_dig hn) hn ha ea ew).trans (congrArg lN (gat_q ha qr)))
      have p := fun Q => p_place (d := 295) (Q := Q) (te := te) (dr := dr) (pa := pa) (rk := rk) (rf := rf) (fi := fi) (cs := cs) (ci := ci) (ga := ga) (r1 := r1) (r2 := r2) (sw := sw) (n := n) (rm := rm) (mt := mt) (nt := nt) (fm := fm) (vr := vr) tot hN'.1 hT.1.1 nb.1.1 kG rfl hR.1 ha hb hx l31 y0 eB0 cX
      exact s_ord (nN := (ruV now n (nN, mN, rN)).1) (mN := (ruV now n (nN, mN, rN)).2.1) (rN := (ruV now n (nN, mN, rN)).2.2) (wy' := (wyV iV gV (ruV now n (nN, mN, rN)) n 7 (-1) wy)) (ah' := (ahV iV gV (ruV now n (nN, mN, rN)) n ah)) hc hA' p (fun h Q => m_place (d := 234) (u := u') (Q := Q) (h := h) (th := th) (to := to) (row := row) (ch := ch) (now := now) (tape := tape) (tp := tp) (pt := pt) (tt := tt) (ne := ne) (rd := rd) (rM := rM) (code := code) (rc := rc) (cL := cL) (cR := cR) (stk := stk) (ask := ask) (un := un) (und := und) (aS := aS) (aO := aO) (aW := aW) (aH := aH) (ac := ac) (wy := wy) (ah := ah) (late := late) (soon := soon) (yet := yet) (cir := cir) (bed := bed) (stp := stp) (oO := oO) (oW := oW) (win := win) (wc := wc) (rn := rn) (wer := wer) (iK := iK) (kC := kC) (kep := kep) (n := n) (tN := tV) (iN := iV) (gN := gV) (nN := nN) (mN := mN) (rN := rN) (tb_K hn) (tb_B hn _ _ _) ha hb hx l31 y0 ew0 mX) ⟨by show 2 ≤ 14; decide, rowM_2⟩ (jO_mk kW kT tk.2.2.2.1 jl) nV nb
  · have p := fun Q => q_placen (d := 295) (Q := Q) (u := u) (h := (mdl h th to row (nI n) ch now tape tp pt tt ne rd rM code rc cL cR stk ask un und aS aO aW aH ac (fun i => nI (tV i)) (fun s => nI (iV s)) (fun s => nI (gV s)) (fun i => nI (nN i)) (fun i => nI (mN i)) (fun i => nI (rN i)) wy ah late soon yet cir bed stp oO oW win wc rn wer iK kC kep)) (od := od) (te := te) (dr := dr) (pa := pa) (rk := rk) (rf := rf) (fi := fi) (cs := cs) (ci := ci) (ga := ga) (r1 := r1) (r2 := r2) (sw := sw) (n := n) (rm := rm) (mt := mt) (nt := nt) (fm := fm) (vr := vr) hT.1.1 (g := g) (j := j) q
    refine s_row hc hA' p (fun h Q => ?_) hR
    exact m_placen (d := 234) (u := u) (Q := Q) (h := h) (th := th) (to := to) (row := row) (ch := ch) (now := now) (tape := tape) (tp := tp) (pt := pt) (tt := tt) (ne := ne) (rd := rd) (rM := rM) (code := code) (rc := rc) (cL := cL) (cR := cR) (stk := stk) (ask := ask) (un := un) (und := und) (aS := aS) (aO := aO) (aW := aW) (aH := aH) (ac := ac) (wy := wy) (ah := ah) (late := late) (soon := soon) (yet := yet) (cir := cir) (bed := bed) (stp := stp) (oO := oO) (oW := oW) (win := win) (wc := wc) (rn := rn) (wer := wer) (iK := iK) (kC := kC) (kep := kep) (n := n) (tN := tV) (iN := iV) (gN := gV) (nN := nN) (mN := mN) (rN := rN) hn q

