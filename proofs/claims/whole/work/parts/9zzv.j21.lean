/-! steps: cheapest and dearest -/
theorem s_csE {c : Nat} {u u' : zU} {h : Nat → zE} {te : cText} {tO : cTold} {dr : cTold} {pa : cPast} {ro : cRow} {fi : cFits} {od : cOrd} {cs : cCst} {ci : cCir} {ga : cGam} {r1 : cRule} {r2 : cRule} {sw : Bool} {th : Int32} {to : Int32} {row : Nat → Int64} {gu : Int32} {ch : Int32} {now : Nat → Int32} {tape : Nat → Int32} {tp : Int32} {pt : Int32} {tt : Int32} {ne : Int32} {rd : Nat → Int32} {rM : Int32} {code : Nat → Int32} {rc : Nat → Int32} {cL : Int32} {cR : Int32} {stk : Nat → Int32} {ask : Nat → Int32} {un : Int32} {und : Nat → Int32} {aS : Nat → Int32} {aO : Nat → Int32} {aW : Nat → Int32} {aH : Nat → Int32} {ac : Int32} {thr : Nat → Int32} {ins : Nat → Int32} {gon : Nat → Int32} {nO : Nat → Int32} {mO : Nat → Int32} {rO : Nat → Int32} {wy : Nat → Int64} {ah : Nat → Int64} {late : Nat → Int32} {soon : Nat → Int32} {yet : Nat → Int32} {cir : Nat → Int32} {bed : Nat → Int32} {stp : Nat → Int32} {oO : Nat → Int32} {oW : Nat → Int32} {win : Nat → Int32} {wc : Nat → Int32} {rn : Int32} {wer : Nat → Int32} {iK : Nat → Int32} {kC : Nat → Int32} {kep : Nat → Int32} {h' : Nat → zE} {o' : cOrd} {ro' : cRow} {cs' : cCst} {r1' r2' : cRule} {to' : Int32} {row' : Nat → Int64} {nN mN rN : Nat → Nat} {wy' ah' : Nat → Int64} {late' soon' yet' : Nat → Int32} (hc : c < 64) (hA : jAll c u h te tO dr pa ro fi od cs ci ga r1 r2 sw th to row gu ch now tape tp pt tt ne rd rM code rc cL cR stk ask un und aS aO aW aH ac thr ins gon nO mO rO wy ah late soon yet cir bed stp oO oW win wc rn wer iK kC kep) {y y' : Nat} {as : List Value} {v : Value} (hp : ∀ Q, zK 300 y (.ref 1 :: as) ((wld ((mdl h th to row gu ch now tape tp pt tt ne rd rM code rc cL cR stk ask un und aS aO aW aH ac thr ins gon nO mO rO wy ah late soon yet cir bed stp oO oW win wc rn wer iK kC kep)) te tO dr pa ro fi od cs ci ga r1 r2 sw), u) Q = Q (some v, ((wld ((mdl h' th to row gu ch now tape tp pt tt ne rd rM code rc cL cR stk ask un und aS aO aW aH ac thr ins gon nO mO rO wy ah late soon yet cir bed stp oO oW win wc rn wer iK kC kep)) te tO dr pa ro' fi o' cs' ci ga r1' r2' sw), u'))) (hm : ∀ h, ∃ t : (Nat → Int32) × (Nat → Int32), ∀ Q, zK 300 y' (.ref 54 :: as) ((mdl h th to row gu ch now tape tp pt tt ne rd rM code rc cL cR stk ask un und aS aO aW aH ac thr ins gon nO mO rO wy ah late soon yet cir bed stp oO oW win wc rn wer iK kC kep), u') Q = Q (some v, ((mdl h 0 to' row' gu ch now tape tp pt tt ne rd rM code rc cL cR (t.1) (t.2) un und aS aO aW aH ac thr ins gon (fun i => nI (nN i)) (fun i => nI (mN i)) (fun i => nI (rN i)) wy' ah' late' soon' yet' cir bed stp oO oW win wc rn wer iK kC kep), u'))) (hr : jR ro' to' row') (ho : jO tO o') (hv : jV c tO o') (hC' : jC cs') (hU' : jU r1' r2' sw code cL) (hn : jN (c + 1) o' cs' u') : jSt c y y' as (wld ((mdl h th to row gu ch now tape tp pt tt ne rd rM code rc cL cR stk ask un und aS aO aW aH ac thr ins gon nO mO rO wy ah late soon yet cir bed stp oO oW win wc rn wer iK kC kep)) te tO dr pa ro fi od cs ci ga r1 r2 sw) u := by
  obtain ⟨hX, hT, hP, hR, hS, hV, hO, hC, hU, hM, hN⟩ := hA
  have hN' := hn.1
  obtain ⟨m1, m2, m3, m4, m5, m6, m7⟩ := hM
  obtain ⟨t, hm⟩ := hm (wld h' te tO dr pa ro' fi o' cs' ci ga r1' r2' sw)
  refine ⟨_, _, _, _, hp, fun Q => ?_, h', te, tO, dr, pa, ro', fi, o', cs', ci, ga, r1', r2', sw, 0, to', row', gu, ch, now, tape, tp, pt, tt, ne, rd, rM, code, rc, cL, cR, t.1, t.2, un, und, aS, aO, aW, aH, ac, thr, ins, gon, (fun i => nI (nN i)), (fun i => nI (mN i)), (fun i => nI (rN i)), wy', ah', late', soon', yet', cir, bed, stp, oO, oW, win, wc, rn, wer, iK, kC, kep, (wm_comm hN').symm, hX, hT, jP_up hP, hr, hS, jV_up hc hv (ve_self _), ho, hC', hU', ⟨m1, m2, m3, ⟨_, rfl⟩, ⟨_, rfl⟩, ⟨_, rfl⟩, m7⟩, hn⟩
  rw [wm_comm hN']
  exact hm Q
theorem s_cheap {c : Nat} {H : Nat → zE} {u : zU} (hc : c < 64) (hI : jIV c H u) : jSt c 156 259 [] H u := by
  refine jIV_e hI (fun h te tO dr pa ro fi od cs ci ga r1 r2 sw th to row gu ch now tape tp pt tt ne rd rM code rc cL cR stk ask un und aS aO aW aH ac thr ins gon nO mO rO wy ah late soon yet cir bed stp oO oW win wc rn wer iK kC kep eH hA => ?_)
  subst eH
  have hA' := hA
  obtain ⟨hX, hT, hP, hR, hS, hV, hO, hC, hU, hM, hN⟩ := hA
  have hN' := hN.1
  obtain ⟨rk, rf⟩ := ro
  obtain ⟨K, cl, co, wo, tH, ma, wi, wg, ly⟩ := cs
  obtain ⟨n, rm, mt, nt, fm, vr⟩ := tO
  have hn : n ≤ 7 := hT.1.1.1
  have g : gu = nI n := hT.2
  subst g
  obtain ⟨rfl, rfl, rfl, ⟨nN, rfl⟩, ⟨mN, rfl⟩, ⟨rN, rfl⟩, m7, m8, m9, m10, m11⟩ := hM
  obtain ⟨hU1, hU2, L, rfl, hu⟩ := hU
  cases sw
  · obtain ⟨cd, st, sg, sz, sp, pp⟩ := r1
    obtain ⟨h', k, len, m, A, B, C, op, tl, u', tot, ⟨kW, kT, kL, kG, kA, k2, kB, kE, kM⟩, nb, nV⟩ := jTot (h := h) (te := te) (tO := (n, rm, mt, nt, fm, vr)) (dr := dr) (pa := pa) (ro := (rk, rf)) (fi := fi) (od := od) (cs := (K, cl, co, wo, tH, ma, wi, wg, ly)) (ci := ci) (ga := ga) (r1 := (cd, st, sg, sz, sp, pp)) (r2 := r2) (sw := false) (th := th) (to := to) (row := row) (gu := (nI n)) (ch := ch) (now := now) (tape := tape) (tp := tp) (pt := pt) (tt := tt) (ne := ne) (rd := rd) (rM := rM) (code := code) (rc := rc) (cL := (nI L)) (cR := cR) (stk := stk) (ask := ask) (un := un) (und := und) (aS := aS) (aO := aO) (aW := aW) (aH := aH) (ac := ac) (thr := (fun i => nI (tV i))) (ins := (fun s => nI (iV s))) (gon := (fun s => nI (gV s))) (nO := (fun i => nI (nN i))) (mO := (fun i => nI (mN i))) (rO := (fun i => nI (rN i))) (wy := wy) (ah := ah) (late := late) (soon := soon) (yet := yet) (cir := cir) (bed := bed) (stp := stp) (oO := oO) (oW := oW) (win := win) (wc := wc) (rn := rn) (wer := wer) (iK := iK) (kC := kC) (kep := kep) hc hT hV hO hN
    have p3 := p3_pos n
    have ew := fun s hs => md_T (now := now) hn (nN, mN, rN) wy s hs
    have ea := fun s hs => ah_T (nN := (ruV now n (nN, mN, rN)).1) (mN := (ruV now n (nN, mN, rN)).2.1) (rN := (ruV now n (nN, mN, rN)).2.2) (tb_dig hn) hn ah s hs
    have eB0 : B 1 0 = lN (mTab now n 0) := by rw [kB 0 p3, kE]
    have ew0 := ew 0 p3
    have l31 : mTab now n 0 < 2147483648 := by omega
    have la9 : 3 ^ n - 1 < 9000 := by have := p3_7 hn; omega
    have nb54 : 54 ≤ u'.1 := by have := nb.2.1; omega
    have nb1000 : u'.1 + 1 < 1000 := by have := nb.2.2.2.2.1; omega
    by_cases z : mTab now n 0 = 0
    · have bz : B 1 0 = 0 := by rw [eB0, z]; rfl
      have wz : (wyV iV gV (ruV now n (nN, mN, rN)) n 7 (-1) wy) 0 = 0 := by rw [ew0, z]; rfl
      have p := fun Q => p_cheap0_1 (d := 294) (Q := Q) (te := te) (dr := dr) (pa := pa) (rk := rk) (rf := rf) (fi := fi) (ci := ci) (ga := ga) (cd := cd) (st := st) (sg := sg) (sz := sz) (sp := sp) (p := pp) (r2 := r2) (n := n) (rm := rm) (mt := mt) (nt := nt) (fm := fm) (vr := vr) (K := K) (cl := cl) (co := co) (wo := wo) (th := tH) (ma := ma) (wi := wi) (wg := wg) (ly := ly) tot hN'.1 bz
      exact s_ord (nN := (ruV now n (nN, mN, rN)).1) (mN := (ruV now n (nN, mN, rN)).2.1) (rN := (ruV now n (nN, mN, rN)).2.2) (wy' := (wyV iV gV (ruV now n (nN, mN, rN)) n 7 (-1) wy)) (ah' := ah) hc hA' p (fun h Q => m_cheap0 (d := 234) (u := u') (Q := Q) (h := h) (th := th) (to := to) (row := row) (ch := ch) (now := now) (tape := tape) (tp := tp) (pt := pt) (tt := tt) (ne := ne) (rd := rd) (rM := rM) (code := code) (rc := rc) (cR := cR) (stk := stk) (ask := ask) (un := un) (und := und) (aS := aS) (aO := aO) (aW := aW) (aH := aH) (ac := ac) (wy := wy) (ah := ah) (late := late) (soon := soon) (yet := yet) (cir := cir) (bed := bed) (stp := stp) (oO := oO) (oW := oW) (win := win) (wc := wc) (rn := rn) (wer := wer) (iK := iK) (kC := kC) (kep := kep) (n := n) (tN := tV) (iN := iV) (gN := gV) (nN := nN) (mN := mN) (rN := rN) (L := L) (tb_K hn) (tb_B hn) wz) hR (jO_mk kW kT rfl kL) nV nb
    · have bz : ¬ B 1 0 = 0 := by rw [eB0, lN_z l31]; exact z
      have wz : ¬ (wyV iV gV (ruV now n (nN, mN, rN)) n 7 (-1) wy) 0 = 0 := by rw [ew0, lN_z l31]; exact z
      have qr := fun s i hi => qM_ru (now := now) (n := n) (nN, mN, rN) (s := s) (i := i) hi
      have p := fun Q => p_cheap_1 (d := 294) (Q := Q) (te := te) (dr := dr) (pa := pa) (rk := rk) (rf := rf) (fi := fi) (ci := ci) (ga := ga) (cd := cd) (st := st) (sg := sg) (sz := sz) (sp := sp) (p := pp) (r2 := r2) (n := n) (rm := rm) (mt := mt) (nt := nt) (fm := fm) (vr := vr) (K := K) (cl := cl) (co := co) (wo := wo) (th := tH) (ma := ma) (wi := wi) (wg := wg) (ly := ly) tot hN'.1 hT.1.1 nb.1.1 kG rfl la9 hC.1 nb54 nb.2.2.1 nb.2.2.2.1 nb1000 hC.2.1 hC.2.2.1 hC.2.2.2 hU1 hR.1 bz
      have ce := cheap_eq (r := (cd, st, sg, sz, sp, pp)) k2 kA hT.1.2.1 hT.1.2.2 hu (ld_q hn qr) ew z wo tH st (mrC (3 ^ n - 1) cl co) yet ma wi wg rf row
      dsimp only at ce
      have mm := fun h => m_cheap (u := mrU (3 ^ n - 1) cl u') (h := h) (th := th) (to := to) (row := row) (ch := ch) (now := now) (tape := tape) (tp := tp) (pt := pt) (tt := tt) (ne := ne) (rd := rd) (rM := rM) (code := code) (rc := rc) (cR := cR) (stk := stk) (ask := ask) (un := un) (und := und) (aS := aS) (aO := aO) (aW := aW) (aH := aH) (ac := ac) (wy := wy) (ah := ah) (late := late) (soon := soon) (yet := yet) (cir := cir) (bed := bed) (stp := stp) (oO := oO) (oW := oW) (win := win) (wc := wc) (rn := rn) (wer := wer) (iK := iK) (kC := kC) (kep := kep) (n := n) (tN := tV) (iN := iV) (gN := gV) (nN := nN) (mN := mN) (rN := rN) (L := L) (tb_K hn) (tb_B hn) (ru_W hu) rfl rfl wz rfl rfl ce.1
      rw [ce.2.1, mr_M hN.1.2.2] at p
      have mk := @mr_N c n k len m A B C op vr tl n K cl co wo tH ma wi wg ly u' len m n (3 ^ n - 1) (mrL (3 ^ n - 1) cl) A B C op vr tl (lwC A n (3 ^ n - 1) (fwW cd sz n rm mt wo tH st).1 ma wi wg (mrC (3 ^ n - 1) cl co)) (fwW cd sz n rm mt wo tH st).1 (fwW cd sz n rm mt wo tH st).2.1 ma wi wg false hc hn nb
      exact s_csE (nN := (ruV now n (nN, mN, rN)).1) (mN := (ruV now n (nN, mN, rN)).2.1) (rN := (ruV now n (nN, mN, rN)).2.2) (yet' := yV (lgC (ldB iV gV (ruV now n (nN, mN, rN)).1 (ruV now n (nN, mN, rN)).2.1 (ruV now n (nN, mN, rN)).2.2) (wyV iV gV (ruV now n (nN, mN, rN)) n 7 (-1) wy)) (wtV now n iV gV code L) n yet) (ah' := ah) (late' := late) (soon' := soon) hc hA' p (fun h => (mm h).imp (fun t ht Q => ht 234 Q)) ce.2.2 (jO_mk kW kT rfl kL) nV (mr_C hn hC) ⟨hU1, hU2, L, rfl, hu⟩ mk
  · obtain ⟨cd, st, sg, sz, sp, pp⟩ := r2
    obtain ⟨h', k, len, m, A, B, C, op, tl, u', tot, ⟨kW, kT, kL, kG, kA, k2, kB, kE, kM⟩, nb, nV⟩ := jTot (h := h) (te := te) (tO := (n, rm, mt, nt, fm, vr)) (dr := dr) (pa := pa) (ro := (rk, rf)) (fi := fi) (od := od) (cs := (K, cl, co, wo, tH, ma, wi, wg, ly)) (ci := ci) (ga := ga) (r1 := r1) (r2 := (cd, st, sg, sz, sp, pp)) (sw := true) (th := th) (to := to) (row := row) (gu := (nI n)) (ch := ch) (now := now) (tape := tape) (tp := tp) (pt := pt) (tt := tt) (ne := ne) (rd := rd) (rM := rM) (code := code) (rc := rc) (cL := (nI L)) (cR := cR) (stk := stk) (ask := ask) (un := un) (und := und) (aS := aS) (aO := aO) (aW := aW) (aH := aH) (ac := ac) (thr := (fun i => nI (tV i))) (ins := (fun s => nI (iV s))) (gon := (fun s => nI (gV s))) (nO := (fun i => nI (nN i))) (mO := (fun i => nI (mN i))) (rO := (fun i => nI (rN i))) (wy := wy) (ah := ah) (late := late) (soon := soon) (yet := yet) (cir := cir) (bed := bed) (stp := stp) (oO := oO) (oW := oW) (win := win) (wc := wc) (rn := rn) (wer := wer) (iK := iK) (kC := kC) (kep := kep) hc hT hV hO hN
    have p3 := p3_pos n
    have ew := fun s hs => md_T (now := now) hn (nN, mN, rN) wy s hs
    have ea := fun s hs => ah_T (nN := (ruV now n (nN, mN, rN)).1) (mN := (ruV now n (nN, mN, rN)).2.1) (rN := (ruV now n (nN, mN, rN)).2.2) (tb_dig hn) hn ah s hs
    have eB0 : B 1 0 = lN (mTab now n 0) := by rw [kB 0 p3, kE]
    have ew0 := ew 0 p3
    have l31 : mTab now n 0 < 2147483648 := by omega
    have la9 : 3 ^ n - 1 < 9000 := by have := p3_7 hn; omega
    have nb54 : 54 ≤ u'.1 := by have := nb.2.1; omega
    have nb1000 : u'.1 + 1 < 1000 := by have := nb.2.2.2.2.1; omega
    by_cases z : mTab now n 0 = 0
    · have bz : B 1 0 = 0 := by rw [eB0, z]; rfl
      have wz : (wyV iV gV (ruV now n (nN, mN, rN)) n 7 (-1) wy) 0 = 0 := by rw [ew0, z]; rfl
      have p := fun Q => p_cheap0_2 (d := 294) (Q := Q) (te := te) (dr := dr) (pa := pa) (rk := rk) (rf := rf) (fi := fi) (ci := ci) (ga := ga) (r1 := r1) (cd := cd) (st := st) (sg := sg) (sz := sz) (sp := sp) (p := pp) (n := n) (rm := rm) (mt := mt) (nt := nt) (fm := fm) (vr := vr) (K := K) (cl := cl) (co := co) (wo := wo) (th := tH) (ma := ma) (wi := wi) (wg := wg) (ly := ly) tot hN'.1 bz
      exact s_ord (nN := (ruV now n (nN, mN, rN)).1) (mN := (ruV now n (nN, mN, rN)).2.1) (rN := (ruV now n (nN, mN, rN)).2.2) (wy' := (wyV iV gV (ruV now n (nN, mN, rN)) n 7 (-1) wy)) (ah' := ah) hc hA' p (fun h Q => m_cheap0 (d := 234) (u := u') (Q := Q) (h := h) (th := th) (to := to) (row := row) (ch := ch) (now := now) (tape := tape) (tp := tp) (pt := pt) (tt := tt) (ne := ne) (rd := rd) (rM := rM) (code := code) (rc := rc) (cR := cR) (stk := stk) (ask := ask) (un := un) (und := und) (aS := aS) (aO := aO) (aW := aW) (aH := aH) (ac := ac) (wy := wy) (ah := ah) (late := late) (soon := soon) (yet := yet) (cir := cir) (bed := bed) (stp := stp) (oO := oO) (oW := oW) (win := win) (wc := wc) (rn := rn) (wer := wer) (iK := iK) (kC := kC) (kep := kep) (n := n) (tN := tV) (iN := iV) (gN := gV) (nN := nN) (mN := mN) (rN := rN) (L := L) (tb_K hn) (tb_B hn) wz) hR (jO_mk kW kT rfl kL) nV nb
    · have bz : ¬ B 1 0 = 0 := by rw [eB0, lN_z l31]; exact z
      have wz : ¬ (wyV iV gV (ruV now n (nN, mN, rN)) n 7 (-1) wy) 0 = 0 := by rw [ew0, lN_z l31]; exact z
      have qr := fun s i hi => qM_ru (now := now) (n := n) (nN, mN, rN) (s := s) (i := i) hi
      have p := fun Q => p_cheap_2 (d := 294) (Q := Q) (te := te) (dr := dr) (pa := pa) (rk := rk) (rf := rf) (fi := fi) (ci := ci) (ga := ga) (r1 := r1) (cd := cd) (st := st) (sg := sg) (sz := sz) (sp := sp) (p := pp) (n := n) (rm := rm) (mt := mt) (nt := nt) (fm := fm) (vr := vr) (K := K) (cl := cl) (co := co) (wo := wo) (th := tH) (ma := ma) (wi := wi) (wg := wg) (ly := ly) tot hN'.1 hT.1.1 nb.1.1 kG rfl la9 hC.1 nb54 nb.2.2.1 nb.2.2.2.1 nb1000 hC.2.1 hC.2.2.1 hC.2.2.2 hU2 hR.1 bz
      have ce := cheap_eq (r := (cd, st, sg, sz, sp, pp)) k2 kA hT.1.2.1 hT.1.2.2 hu (ld_q hn qr) ew z wo tH st (mrC (3 ^ n - 1) cl co) yet ma wi wg rf row
      dsimp only at ce
      have mm := fun h => m_cheap (u := mrU (3 ^ n - 1) cl u') (h := h) (th := th) (to := to) (row := row) (ch := ch) (now := now) (tape := tape) (tp := tp) (pt := pt) (tt := tt) (ne := ne) (rd := rd) (rM := rM) (code := code) (rc := rc) (cR := cR) (stk := stk) (ask := ask) (un := un) (und := und) (aS := aS) (aO := aO) (aW := aW) (aH := aH) (ac := ac) (wy := wy) (ah := ah) (late := late) (soon := soon) (yet := yet) (cir := cir) (bed := bed) (stp := stp) (oO := oO) (oW := oW) (win := win) (wc := wc) (rn := rn) (wer := wer) (iK := iK) (kC := kC) (kep := kep) (n := n) (tN := tV) (iN := iV) (gN := gV) (nN := nN) (mN := mN) (rN := rN) (L := L) (tb_K hn) (tb_B hn) (ru_W hu) rfl rfl wz rfl rfl ce.1
      rw [ce.2.1, mr_M hN.1.2.2] at p
      have mk := @mr_N c n k len m A B C op vr tl n K cl co wo tH ma wi wg ly u' len m n (3 ^ n - 1) (mrL (3 ^ n - 1) cl) A B C op vr tl (lwC A n (3 ^ n - 1) (fwW cd sz n rm mt wo tH st).1 ma wi wg (mrC (3 ^ n - 1) cl co)) (fwW cd sz n rm mt wo tH st).1 (fwW cd sz n rm mt wo tH st).2.1 ma wi wg false hc hn nb
      exact s_csE (nN := (ruV now n (nN, mN, rN)).1) (mN := (ruV now n (nN, mN, rN)).2.1) (rN := (ruV now n (nN, mN, rN)).2.2) (yet' := yV (lgC (ldB iV gV (ruV now n (nN, mN, rN)).1 (ruV now n (nN, mN, rN)).2.1 (ruV now n (nN, mN, rN)).2.2) (wyV iV gV (ruV now n (nN, mN, rN)) n 7 (-1) wy)) (wtV now n iV gV code L) n yet) (ah' := ah) (late' := late) (soon' := soon) hc hA' p (fun h => (mm h).imp (fun t ht Q => ht 234 Q)) ce.2.2 (jO_mk kW kT rfl kL) nV (mr_C hn hC) ⟨hU1, hU2, L, rfl, hu⟩ mk
theorem s_dear {c : Nat} {H : Nat → zE} {u : zU} (hc : c < 64) (hI : jIV c H u) : jSt c 157 260 [] H u := by
  refine jIV_e hI (fun h te tO dr pa ro fi od cs ci ga r1 r2 sw th to row gu ch now tape tp pt tt ne rd rM code rc cL cR stk ask un und aS aO aW aH ac thr ins gon nO mO rO wy ah late soon yet cir bed stp oO oW win wc rn wer iK kC kep eH hA => ?_)
  subst eH
  have hA' := hA
  obtain ⟨hX, hT, hP, hR, hS, hV, hO, hC, hU, hM, hN⟩ := hA
  have hN' := hN.1
  obtain ⟨rk, rf⟩ := ro
  obtain ⟨K, cl, co, wo, tH, ma, wi, wg, ly⟩ := cs
  obtain ⟨n, rm, mt, nt, fm, vr⟩ := tO
  have hn : n ≤ 7 := hT.1.1.1
  have g : gu = nI n := hT.2
  subst g
  obtain ⟨rfl, rfl, rfl, ⟨nN, rfl⟩, ⟨mN, rfl⟩, ⟨rN, rfl⟩, m7, m8, m9, m10, m11⟩ := hM
  obtain ⟨hU1, hU2, L, rfl, hu⟩ := hU
  cases sw
  · obtain ⟨cd, st, sg, sz, sp, pp⟩ := r1
    obtain ⟨h', k, len, m, A, B, C, op, tl, u', tot, ⟨kW, kT, kL, kG, kA, k2, kB, kE, kM⟩, nb, nV⟩ := jTot (h := h) (te := te) (tO := (n, rm, mt, nt, fm, vr)) (dr := dr) (pa := pa) (ro := (rk, rf)) (fi := fi) (od := od) (cs := (K, cl, co, wo, tH, ma, wi, wg, ly)) (ci := ci) (ga := ga) (r1 := (cd, st, sg, sz, sp, pp)) (r2 := r2) (sw := false) (th := th) (to := to) (row := row) (gu := (nI n)) (ch := ch) (now := now) (tape := tape) (tp := tp) (pt := pt) (tt := tt) (ne := ne) (rd := rd) (rM := rM) (code := code) (rc := rc) (cL := (nI L)) (cR := cR) (stk := stk) (ask := ask) (un := un) (und := und) (aS := aS) (aO := aO) (aW := aW) (aH := aH) (ac := ac) (thr := (fun i => nI (tV i))) (ins := (fun s => nI (iV s))) (gon := (fun s => nI (gV s))) (nO := (fun i => nI (nN i))) (mO := (fun i => nI (mN i))) (rO := (fun i => nI (rN i))) (wy := wy) (ah := ah) (late := late) (soon := soon) (yet := yet) (cir := cir) (bed := bed) (stp := stp) (oO := oO) (oW := oW) (win := win) (wc := wc) (rn := rn) (wer := wer) (iK := iK) (kC := kC) (kep := kep) hc hT hV hO hN
    have p3 := p3_pos n
    have ew := fun s hs => md_T (now := now) hn (nN, mN, rN) wy s hs
    have ea := fun s hs => ah_T (nN := (ruV now n (nN, mN, rN)).1) (mN := (ruV now n (nN, mN, rN)).2.1) (rN := (ruV now n (nN, mN, rN)).2.2) (tb_dig hn) hn ah s hs
    have eB0 : B 1 0 = lN (mTab now n 0) := by rw [kB 0 p3, kE]
    have ew0 := ew 0 p3
    have l31 : mTab now n 0 < 2147483648 := by omega
    have la9 : 3 ^ n - 1 < 9000 := by have := p3_7 hn; omega
    have nb54 : 54 ≤ u'.1 := by have := nb.2.1; omega
    have nb1000 : u'.1 + 1 < 1000 := by have := nb.2.2.2.2.1; omega
    by_cases z : mTab now n 0 = 0
    · have bz : B 1 0 = 0 := by rw [eB0, z]; rfl
      have wz : (wyV iV gV (ruV now n (nN, mN, rN)) n 7 (-1) wy) 0 = 0 := by rw [ew0, z]; rfl
      have p := fun Q => p_dear0_1 (d := 294) (Q := Q) (te := te) (dr := dr) (pa := pa) (rk := rk) (rf := rf) (fi := fi) (ci := ci) (ga := ga) (cd := cd) (st := st) (sg := sg) (sz := sz) (sp := sp) (p := pp) (r2 := r2) (n := n) (rm := rm) (mt := mt) (nt := nt) (fm := fm) (vr := vr) (K := K) (cl := cl) (co := co) (wo := wo) (th := tH) (ma := ma) (wi := wi) (wg := wg) (ly := ly) tot hN'.1 bz
      exact s_ord (nN := (ruV now n (nN, mN, rN)).1) (mN := (ruV now n (nN, mN, rN)).2.1) (rN := (ruV now n (nN, mN, rN)).2.2) (wy' := (wyV iV gV (ruV now n (nN, mN, rN)) n 7 (-1) wy)) (ah' := ah) hc hA' p (fun h Q => m_dear0 (d := 234) (u := u') (Q := Q) (h := h) (th := th) (to := to) (row := row) (ch := ch) (now := now) (tape := tape) (tp := tp) (pt := pt) (tt := tt) (ne := ne) (rd := rd) (rM := rM) (code := code) (rc := rc) (cR := cR) (stk := stk) (ask := ask) (un := un) (und := und) (aS := aS) (aO := aO) (aW := aW) (aH := aH) (ac := ac) (wy := wy) (ah := ah) (late := late) (soon := soon) (yet := yet) (cir := cir) (bed := bed) (stp := stp) (oO := oO) (oW := oW) (win := win) (wc := wc) (rn := rn) (wer := wer) (iK := iK) (kC := kC) (kep := kep) (n := n) (tN := tV) (iN := iV) (gN := gV) (nN := nN) (mN := mN) (rN := rN) (L := L) (tb_K hn) (tb_B hn) wz) hR (jO_mk kW kT rfl kL) nV nb
    · have y0 : 0 < mTab now n 0 := by omega
      have qr := fun s i hi => qM_ru (now := now) (n := n) (nN, mN, rN) (s := s) (i := i) hi
      obtain ⟨e1, x, e2, e3, e4⟩ := dear_eq2 (r := (cd, st, sg, sz, sp, pp)) k2 kA hT.1.2.1 hT.1.2.2 hu (ld_q hn qr) ew z wo tH st (mrC (3 ^ n - 1) cl co) wi wg (yet, ah) (B 2)
      dsimp only at e1 e2
      have p := fun Q => p_dear_1 (d := 294) (Q := Q) (te := te) (dr := dr) (pa := pa) (rk := rk) (rf := rf) (fi := fi) (ci := ci) (ga := ga) (cd := cd) (st := st) (sg := sg) (sz := sz) (sp := sp) (p := pp) (r2 := r2) (n := n) (rm := rm) (mt := mt) (nt := nt) (fm := fm) (vr := vr) (K := K) (cl := cl) (co := co) (wo := wo) (th := tH) (ma := ma) (wi := wi) (wg := wg) (ly := ly) tot hN'.1 hT.1.1 nb.1.1 kG rfl la9 hC.1 nb54 nb.2.2.1 nb.2.2.2.1 nb1000 hC.2.1 hC.2.2.1 hC.2.2.2 hU1 hR.1 e4 l31 y0 eB0 e2
      have mm := fun h => m_dear (u := mrU (3 ^ n - 1) cl u') (h := h) (th := th) (to := to) (row := row) (ch := ch) (now := now) (tape := tape) (tp := tp) (pt := pt) (tt := tt) (ne := ne) (rd := rd) (rM := rM) (code := code) (rc := rc) (cR := cR) (stk := stk) (ask := ask) (un := un) (und := und) (aS := aS) (aO := aO) (aW := aW) (aH := aH) (ac := ac) (wy := wy) (ah := ah) (late := late) (soon := soon) (yet := yet) (cir := cir) (bed := bed) (stp := stp) (oO := oO) (oW := oW) (win := win) (wc := wc) (rn := rn) (wer := wer) (iK := iK) (kC := kC) (kep := kep) (n := n) (tN := tV) (iN := iV) (gN := gV) (nN := nN) (mN := mN) (rN := rN) (L := L) (tb_K hn) (tb_B hn) (ru_W hu) rfl rfl rfl e4 l31 y0 e3 ew0
      rw [e1, mr_M hN.1.2.2] at p
      have mk := @mr_N c n k len m A B C op vr tl n K cl co wo tH ma wi wg ly u' len m n (3 ^ n - 1) (mrL (3 ^ n - 1) cl) A (z_up B 2 (gwC A n (3 ^ n - 1) (fwW cd sz n rm mt wo tH st).1 wi wg (mrC (3 ^ n - 1) cl co) (B 2)).2) C op vr tl (gwC A n (3 ^ n - 1) (fwW cd sz n rm mt wo tH st).1 wi wg (mrC (3 ^ n - 1) cl co) (B 2)).1 (fwW cd sz n rm mt wo tH st).1 (fwW cd sz n rm mt wo tH st).2.1 ma wi wg false hc hn nb
      exact s_csE (nN := (ruV now n (nN, mN, rN)).1) (mN := (ruV now n (nN, mN, rN)).2.1) (rN := (ruV now n (nN, mN, rN)).2.2) (late' := late) (soon' := soon) hc hA' p (fun h => (mm h).imp (fun t ht Q => ht 234 Q)) ⟨by show 2 ≤ 14; decide, rowM_2⟩ (jO_mk kW kT rfl kL) nV (mr_C hn hC) ⟨hU1, hU2, L, rfl, hu⟩ mk
  · obtain ⟨cd, st, sg, sz, sp, pp⟩ := r2
    obtain ⟨h', k, len, m, A, B, C, op, tl, u', tot, ⟨kW, kT, kL, kG, kA, k2, kB, kE, kM⟩, nb, nV⟩ := jTot (h := h) (te := te) (tO := (n, rm, mt, nt, fm, vr)) (dr := dr) (pa := pa) (ro := (rk, rf)) (fi := fi) (od := od) (cs := (K, cl, co, wo, tH, ma, wi, wg, ly)) (ci := ci) (ga := ga) (r1 := r1) (r2 := (cd, st, sg, sz, sp, pp)) (sw := true) (th := th) (to := to) (row := row) (gu := (nI n)) (ch := ch) (now := now) (tape := tape) (tp := tp) (pt := pt) (tt := tt) (ne := ne) (rd := rd) (rM := rM) (code := code) (rc := rc) (cL := (nI L)) (cR := cR) (stk := stk) (ask := ask) (un := un) (und := und) (aS := aS) (aO := aO) (aW := aW) (aH := aH) (ac := ac) (thr := (fun i => nI (tV i))) (ins := (fun s => nI (iV s))) (gon := (fun s => nI (gV s))) (nO := (fun i => nI (nN i))) (mO := (fun i => nI (mN i))) (rO := (fun i => nI (rN i))) (wy := wy) (ah := ah) (late := late) (soon := soon) (yet := yet) (cir := cir) (bed := bed) (stp := stp) (oO := oO) (oW := oW) (win := win) (wc := wc) (rn := rn) (wer := wer) (iK := iK) (kC := kC) (kep := kep) hc hT hV hO hN
    have p3 := p3_pos n
    have ew := fun s hs => md_T (now := now) hn (nN, mN, rN) wy s hs
    have ea := fun s hs => ah_T (nN := (ruV now n (nN, mN, rN)).1) (mN := (ruV now n (nN, mN, rN)).2.1) (rN := (ruV now n (nN, mN, rN)).2.2) (tb_dig hn) hn ah s hs
    have eB0 : B 1 0 = lN (mTab now n 0) := by rw [kB 0 p3, kE]
    have ew0 := ew 0 p3
    have l31 : mTab now n 0 < 2147483648 := by omega
    have la9 : 3 ^ n - 1 < 9000 := by have := p3_7 hn; omega
    have nb54 : 54 ≤ u'.1 := by have := nb.2.1; omega
    have nb1000 : u'.1 + 1 < 1000 := by have := nb.2.2.2.2.1; omega
    by_cases z : mTab now n 0 = 0
    · have bz : B 1 0 = 0 := by rw [eB0, z]; rfl
      have wz : (wyV iV gV (ruV now n (nN, mN, rN)) n 7 (-1) wy) 0 = 0 := by rw [ew0, z]; rfl
      have p := fun Q => p_dear0_2 (d := 294) (Q := Q) (te := te) (dr := dr) (pa := pa) (rk := rk) (rf := rf) (fi := fi) (ci := ci) (ga := ga) (r1 := r1) (cd := cd) (st := st) (sg := sg) (sz := sz) (sp := sp) (p := pp) (n := n) (rm := rm) (mt := mt) (nt := nt) (fm := fm) (vr := vr) (K := K) (cl := cl) (co := co) (wo := wo) (th := tH) (ma := ma) (wi := wi) (wg := wg) (ly := ly) tot hN'.1 bz
      exact s_ord (nN := (ruV now n (nN, mN, rN)).1) (mN := (ruV now n (nN, mN, rN)).2.1) (rN := (ruV now n (nN, mN, rN)).2.2) (wy' := (wyV iV gV (ruV now n (nN, mN, rN)) n 7 (-1) wy)) (ah' := ah) hc hA' p (fun h Q => m_dear0 (d := 234) (u := u') (Q := Q) (h := h) (th := th) (to := to) (row := row) (ch := ch) (now := now) (tape := tape) (tp := tp) (pt := pt) (tt := tt) (ne := ne) (rd := rd) (rM := rM) (code := code) (rc := rc) (cR := cR) (stk := stk) (ask := ask) (un := un) (und := und) (aS := aS) (aO := aO) (aW := aW) (aH := aH) (ac := ac) (wy := wy) (ah := ah) (late := late) (soon := soon) (yet := yet) (cir := cir) (bed := bed) (stp := stp) (oO := oO) (oW := oW) (win := win) (wc := wc) (rn := rn) (wer := wer) (iK := iK) (kC := kC) (kep := kep) (n := n) (tN := tV) (iN := iV) (gN := gV) (nN := nN) (mN := mN) (rN := rN) (L := L) (tb_K hn) (tb_B hn) wz) hR (jO_mk kW kT rfl kL) nV nb
    · have y0 : 0 < mTab now n 0 := by omega
      have qr := fun s i hi => qM_ru (now := now) (n := n) (nN, mN, rN) (s := s) (i := i) hi
      obtain ⟨e1, x, e2, e3, e4⟩ := dear_eq2 (r := (cd, st, sg, sz, sp, pp)) k2 kA hT.1.2.1 hT.1.2.2 hu (ld_q hn qr) ew z wo tH st (mrC (3 ^ n - 1) cl co) wi wg (yet, ah) (B 2)
      dsimp only at e1 e2
      have p := fun Q => p_dear_2 (d := 294) (Q := Q) (te := te) (dr := dr) (pa := pa) (rk := rk) (rf := rf) (fi := fi) (ci := ci) (ga := ga) (r1 := r1) (cd := cd) (st := st) (sg := sg) (sz := sz) (sp := sp) (p := pp) (n := n) (rm := rm) (mt := mt) (nt := nt) (fm := fm) (vr := vr) (K := K) (cl := cl) (co := co) (wo := wo) (th := tH) (ma := ma) (wi := wi) (wg := wg) (ly := ly) tot hN'.1 hT.1.1 nb.1.1 kG rfl la9 hC.1 nb54 nb.2.2.1 nb.2.2.2.1 nb1000 hC.2.1 hC.2.2.1 hC.2.2.2 hU2 hR.1 e4 l31 y0 eB0 e2
      have mm := fun h => m_dear (u := mrU (3 ^ n - 1) cl u') (h := h) (th := th) (to := to) (row := row) (ch := ch) (now := now) (tape := tape) (tp := tp) (pt := pt) (tt := tt) (ne := ne) (rd := rd) (rM := rM) (code := code) (rc := rc) (cR := cR) (stk := stk) (ask := ask) (un := un) (und := und) (aS := aS) (aO := aO) (aW := aW) (aH := aH) (ac := ac) (wy := wy) (ah := ah) (late := late) (soon := soon) (yet := yet) (cir := cir) (bed := bed) (stp := stp) (oO := oO) (oW := oW) (win := win) (wc := wc) (rn := rn) (wer := wer) (iK := iK) (kC := kC) (kep := kep) (n := n) (tN := tV) (iN := iV) (gN := gV) (nN := nN) (mN := mN) (rN := rN) (L := L) (tb_K hn) (tb_B hn) (ru_W hu) rfl rfl rfl e4 l31 y0 e3 ew0
      rw [e1, mr_M hN.1.2.2] at p
      have mk := @mr_N c n k len m A B C op vr tl n K cl co wo tH ma wi wg ly u' len m n (3 ^ n - 1) (mrL (3 ^ n - 1) cl) A (z_up B 2 (gwC A n (3 ^ n - 1) (fwW cd sz n rm mt wo tH st).1 wi wg (mrC (3 ^ n - 1) cl co) (B 2)).2) C op vr tl (gwC A n (3 ^ n - 1) (fwW cd sz n rm mt wo tH st).1 wi wg (mrC (3 ^ n - 1) cl co) (B 2)).1 (fwW cd sz n rm mt wo tH st).1 (fwW cd sz n rm mt wo tH st).2.1 ma wi wg false hc hn nb
      exact s_csE (nN := (ruV now n (nN, mN, rN)).1) (mN := (ruV now n (nN, mN, rN)).2.1) (rN := (ruV now n (nN, mN, rN)).2.2) (late' := late) (soon' := soon) hc hA' p (fun h => (mm h).imp (fun t ht Q => ht 234 Q)) ⟨by show 2 ≤ 14; decide, rowM_2⟩ (jO_mk kW kT rfl kL) nV (mr_C hn hC) ⟨hU1, hU2, L, rfl, hu⟩ mk

