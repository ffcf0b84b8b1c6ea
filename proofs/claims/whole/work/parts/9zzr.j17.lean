/-! steps: the first order, how likely -/
theorem cnt_q {q q' : Nat → Nat → Bool} {T : Nat → Nat} {n : Nat} (h : ∀ s i, i < n → q s i = q' s i) (hT : cntT n q' T) : cntT n q T := by
  refine ⟨hT.1, fun s hs => ?_⟩
  rw [hT.2 s hs]
  exact sumN_cg n (fun i hi => by rw [h s i hi])
theorem mk_usH {n : Nat} {A : Nat → Nat → Nat} {p q : Nat → Nat → Bool} {TC TM : Nat → Nat} {gd : Nat → Prop} {nN mN rN : Nat → Nat} (H : twoH n A p q TC TM gd) (hA2 : ∀ s, s ≤ 3 ^ n - 1 → A 2 s < 128) (hq : ∀ s i, i < n → qOf (ldB iV gV nN mN rN) s i = q s i) : usH n A (ldB iV gV nN mN rN) TM gd := by
  have hn := H.1
  have H' := H
  obtain ⟨h1, h2, h3, h4, h5, h6, h7, h8, h9, h10, h11, h12, h13⟩ := H'
  refine ⟨hn, h2, q_ok (tb_dig hn) hn, cnt_q hq h6, fun s i hs hi => ⟨fun z => ?_, fun z => ?_⟩, h7, fun s hs hg => ⟨hA2 s (by omega), fun i => ?_⟩, fun s i hs hi hg z1 z2 => ?_⟩
  · rw [ld_c (tb_dig hn) hn hs hi, Bool.and_eq_true] at z
    exact of_decide_eq_true z.1
  · rw [ld_g (tb_dig hn) hn hs hi] at z
    exact of_decide_eq_true z
  · rcases Nat.lt_or_ge i n with c | c
    · rw [two_nx H hs c hg, hq s i c]
      cases e : q s i
      · simp
      · simp [c]
    · rw [h8 s hs i, decide_eq_false (fun w => by omega), decide_eq_false (fun w => by omega)]
  · have l := dg_add hi hs (q_ok (tb_dig hn) hn s i hs hi z1)
    exact Classical.byContradiction (fun w => z2 (h12 _ l w))
theorem s_first {c : Nat} {H : Nat → zE} {u : zU} (hc : c < 64) (hI : jIV c H u) : jSt c 146 245 [] H u := by
  refine jIV_e hI (fun h te tO dr pa ro fi od cs ci ga r1 r2 sw th to row gu ch now tape tp pt tt ne rd rM code rc cL cR stk ask un und aS aO aW aH ac thr ins gon nO mO rO wy ah late soon yet cir bed stp oO oW win wc rn wer iK kC kep eH hA => ?_)
  subst eH
  have hA' := hA
  obtain ⟨hX, hT, hP, hR, hS, hV, hO, hC, hU, hM, hN⟩ := hA
  have hN' := hN.1
  obtain ⟨rk, rf⟩ := ro
  obtain ⟨n, rm, mt, nt, fm, vr⟩ := tO
  have hn : n ≤ 7 := hT.1.1.1
  have g : gu = nI n := hT.2
  subst g
  obtain ⟨rfl, rfl, rfl, ⟨nN, rfl⟩, ⟨mN, rfl⟩, ⟨rN, rfl⟩, m7, m8, m9, m10, m11⟩ := hM
  obtain ⟨h', k, len, m, A, B, C, op, tl, u', tot, ⟨kW, kT, kL, kG, kA, k2, kB, kE, kM⟩, nb, nV⟩ := jTot (h := h) (te := te) (tO := (n, rm, mt, nt, fm, vr)) (dr := dr) (pa := pa) (ro := (rk, rf)) (fi := fi) (od := od) (cs := cs) (ci := ci) (ga := ga) (r1 := r1) (r2 := r2) (sw := sw) (th := th) (to := to) (row := row) (gu := (nI n)) (ch := ch) (now := now) (tape := tape) (tp := tp) (pt := pt) (tt := tt) (ne := ne) (rd := rd) (rM := rM) (code := code) (rc := rc) (cL := cL) (cR := cR) (stk := stk) (ask := ask) (un := un) (und := und) (aS := aS) (aO := aO) (aW := aW) (aH := aH) (ac := ac) (thr := (fun i => nI (tV i))) (ins := (fun s => nI (iV s))) (gon := (fun s => nI (gV s))) (nO := (fun i => nI (nN i))) (mO := (fun i => nI (mN i))) (rO := (fun i => nI (rN i))) (wy := wy) (ah := ah) (late := late) (soon := soon) (yet := yet) (cir := cir) (bed := bed) (stp := stp) (oO := oO) (oW := oW) (win := win) (wc := wc) (rn := rn) (wer := wer) (iK := iK) (kC := kC) (kep := kep) hc hT hV hO hN
  have p3 := p3_pos n
  have ew := fun s hs => md_T (now := now) hn (nN, mN, rN) wy s hs
  have ea := fun s hs => ah_T (nN := (ruV now n (nN, mN, rN)).1) (mN := (ruV now n (nN, mN, rN)).2.1) (rN := (ruV now n (nN, mN, rN)).2.2) (tb_dig hn) hn ah s hs
  have eB0 : B 1 0 = lN (mTab now n 0) := by rw [kB 0 p3, kE]
  have ew0 := ew 0 p3
  have l31 : mTab now n 0 < 2147483648 := by omega
  by_cases z : mTab now n 0 = 0
  · have bz : B 1 0 = 0 := by rw [eB0, z]; rfl
    have wz : (wyV iV gV (ruV now n (nN, mN, rN)) n 7 (-1) wy) 0 = 0 := by rw [ew0, z]; rfl
    have p := fun Q => p_first0 (d := 296) (Q := Q) (te := te) (dr := dr) (pa := pa) (rk := rk) (rf := rf) (fi := fi) (cs := cs) (ci := ci) (ga := ga) (r1 := r1) (r2 := r2) (sw := sw) (n := n) (rm := rm) (mt := mt) (nt := nt) (fm := fm) (vr := vr) tot hN'.1 bz
    exact s_ord (nN := (ruV now n (nN, mN, rN)).1) (mN := (ruV now n (nN, mN, rN)).2.1) (rN := (ruV now n (nN, mN, rN)).2.2) (wy' := (wyV iV gV (ruV now n (nN, mN, rN)) n 7 (-1) wy)) (ah' := ah) hc hA' p (fun h Q => m_first0 (d := 234) (u := u') (Q := Q) (h := h) (th := th) (to := to) (row := row) (ch := ch) (now := now) (tape := tape) (tp := tp) (pt := pt) (tt := tt) (ne := ne) (rd := rd) (rM := rM) (code := code) (rc := rc) (cL := cL) (cR := cR) (stk := stk) (ask := ask) (un := un) (und := und) (aS := aS) (aO := aO) (aW := aW) (aH := aH) (ac := ac) (wy := wy) (ah := ah) (late := late) (soon := soon) (yet := yet) (cir := cir) (bed := bed) (stp := stp) (oO := oO) (oW := oW) (win := win) (wc := wc) (rn := rn) (wer := wer) (iK := iK) (kC := kC) (kep := kep) (n := n) (tN := tV) (iN := iV) (gN := gV) (nN := nN) (mN := mN) (rN := rN) (tb_K hn) (tb_B hn) wz) hR (jO_mk kW kT rfl kL) nV nb
  · have y0 : 0 < mTab now n 0 := by omega
    have c0 : ¬ cTab n rm mt nt fm 0 = 0 := by rw [kE]; exact z
    have bz : ¬ B 1 0 = 0 := by rw [eB0, lN_z l31]; exact z
    have wz : ¬ (wyV iV gV (ruV now n (nN, mN, rN)) n 7 (-1) wy) 0 = 0 := by rw [ew0, lN_z l31]; exact z
    have hlen : 3 ^ n ≤ len := kT.2.2.2.1
    have tk := tl_ok k2 c0 kB hlen kL
    have jl := jTl_t k2 c0 kB hlen kL
    have qr := fun s i hi => qM_ru (now := now) (n := n) (nN, mN, rN) (s := s) (i := i) hi
    have hU := mk_usH (nN := (ruV now n (nN, mN, rN)).1) (mN := (ruV now n (nN, mN, rN)).2.1) (rN := (ruV now n (nN, mN, rN)).2.2) k2 kG.2.2.2.2.2.2.2.1 qr
    obtain ⟨f1, f2, f3, f4⟩ := first_eq (W := (wyV iV gV (ruV now n (nN, mN, rN)) n 7 (-1) wy)) hU (fun s hs => by rw [ew s hs]; exact lN_z (by have := cnt_le hn k2.2.2.2.1 k2.2.2.2.2.2.1 hs; omega)) z rf row
    have p := fun Q => p_first (d := 296) (Q := Q) (te := te) (dr := dr) (pa := pa) (rk := rk) (rf := rf) (fi := fi) (cs := cs) (ci := ci) (ga := ga) (r1 := r1) (r2 := r2) (sw := sw) (n := n) (rm := rm) (mt := mt) (nt := nt) (fm := fm) (vr := vr) tot hN'.1 hT.1.1 nb.1.1 kG rfl hR.1 bz
    have mm := fun h Q => m_first (d := 234) (u := u') (Q := Q) (h := h) (th := th) (to := to) (row := row) (ch := ch) (now := now) (tape := tape) (tp := tp) (pt := pt) (tt := tt) (ne := ne) (rd := rd) (rM := rM) (code := code) (rc := rc) (cL := cL) (cR := cR) (stk := stk) (ask := ask) (un := un) (und := und) (aS := aS) (aO := aO) (aW := aW) (aH := aH) (ac := ac) (wy := wy) (ah := ah) (late := late) (soon := soon) (yet := yet) (cir := cir) (bed := bed) (stp := stp) (oO := oO) (oW := oW) (win := win) (wc := wc) (rn := rn) (wer := wer) (iK := iK) (kC := kC) (kep := kep) (n := n) (tN := tV) (iN := iV) (gN := gV) (nN := nN) (mN := mN) (rN := rN) (tb_K hn) (tb_B hn) rfl rfl wz f1
    have e1 : nI (2 * n) = nI (pthR (fiB (ldB iV gV (ruV now n (nN, mN, rN)).1 (ruV now n (nN, mN, rN)).2.1 (ruV now n (nN, mN, rN)).2.2) (wyV iV gV (ruV now n (nN, mN, rN)) n 7 (-1) wy)) n (3 ^ n - 1) (2 * n) 0 (0, row)).1 := by rw [f3]
    rw [e1] at p
    exact s_ord (nN := (ruV now n (nN, mN, rN)).1) (mN := (ruV now n (nN, mN, rN)).2.1) (rN := (ruV now n (nN, mN, rN)).2.2) (wy' := (wyV iV gV (ruV now n (nN, mN, rN)) n 7 (-1) wy)) (ah' := ah) hc hA' p mm ⟨by show (lrS A n rf (2 * n)).2.1 ≤ 14; omega, ⟨by show nI (lrS A n rf (2 * n)).2.1 = _; rw [f2, f3], fun i hi => (f4 i (by have hi : i < (lrS A n rf (2 * n)).2.1 := hi; omega)).symm⟩⟩ (jO_mk kW kT rfl kL) nV nb

