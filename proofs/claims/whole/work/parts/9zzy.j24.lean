/-! step: how likely -/
theorem pw_y : ∀ m, m < 7 → itr (pwF 10) 1 m = lN (itr (fun (_ : Nat) (x : Nat) => x * 10) 1 m) ∧ itr (fun (_ : Nat) (x : Nat) => x * 10) 1 m < 2147483648 ∧ 0 < itr (fun (_ : Nat) (x : Nat) => x * 10) 1 m := by decide +kernel
theorem ooQ_hw {n len : Nat} {bh w : Nat → Int64} (hl : 3 ^ n ≤ len) : ∀ t p, t < 3 ^ n → btM (ooQ bh w len t) p = true → t = 0 ∧ p = 0 := by
  intro t p ht h
  unfold ooQ at h
  by_cases e : t = 0
  · subst e
    rw [zup_eq] at h
    by_cases c : 0 < bh 0
    · rw [if_pos c] at h; rw [bt_1, decide_eq_true_eq] at h; exact ⟨rfl, h⟩
    · rw [if_neg c, bt_0] at h; exact absurd h (by decide)
  · rw [zup_ne _ _ e, if_pos (by omega), bt_0] at h
    exact absurd h (by decide)
theorem s_like {c : Nat} {H : Nat → zE} {u : zU} (hc : c < 64) (hI : jIV c H u) (x : Int32) : jSt c 167 280 [.int x] H u := by
  refine jIV_e hI (fun h te tO dr pa ro fi od cs ci ga r1 r2 sw th to row gu ch now tape tp pt tt ne rd rM code rc cL cR stk ask un und aS aO aW aH ac thr ins gon nO mO rO wy ah late soon yet cir bed stp oO oW win wc rn wer iK kC kep eH hA => ?_)
  subst eH
  have hA' := hA
  obtain ⟨hX, hT, hP, hR, hS, hV, hO, hC, hU, hM, hN⟩ := hA
  have hN' := hN.1
  obtain ⟨rk, rf⟩ := ro
  obtain ⟨n, rm, mt, nt, fm, vr⟩ := tO
  have hn : n ≤ 7 := hT.1.1.1
  have g : gu = nI n := hT.2
  subst g
  obtain ⟨rfl, rfl, rfl, ⟨nN, rfl⟩, ⟨mN, rfl⟩, ⟨rN, rfl⟩, m7, m8, ⟨oN, rfl, ho⟩, ⟨wN, rfl, hw⟩, m11⟩ := hM
  obtain ⟨h', k, len, m, A, B, C, op, tl, u', tot, ⟨kW, kT, kL, kG, kA, k2, kB, kE, kM⟩, nb, nV⟩ := jTot (h := h) (te := te) (tO := (n, rm, mt, nt, fm, vr)) (dr := dr) (pa := pa) (ro := (rk, rf)) (fi := fi) (od := od) (cs := cs) (ci := ci) (ga := ga) (r1 := r1) (r2 := r2) (sw := sw) (th := th) (to := to) (row := row) (gu := (nI n)) (ch := ch) (now := now) (tape := tape) (tp := tp) (pt := pt) (tt := tt) (ne := ne) (rd := rd) (rM := rM) (code := code) (rc := rc) (cL := cL) (cR := cR) (stk := stk) (ask := ask) (un := un) (und := und) (aS := aS) (aO := aO) (aW := aW) (aH := aH) (ac := ac) (thr := (fun i => nI (tV i))) (ins := (fun s => nI (iV s))) (gon := (fun s => nI (gV s))) (nO := (fun i => nI (nN i))) (mO := (fun i => nI (mN i))) (rO := (fun i => nI (rN i))) (wy := wy) (ah := ah) (late := late) (soon := soon) (yet := yet) (cir := cir) (bed := bed) (stp := stp) (oO := (fun i => nI (oN i))) (oW := (fun i => nI (wN i))) (win := win) (wc := wc) (rn := rn) (wer := wer) (iK := iK) (kC := kC) (kep := kep) hc hT hV hO hN
  have p3 := p3_pos n
  have ew := fun s hs => md_T (now := now) hn (nN, mN, rN) wy s hs
  have ea := fun s hs => ah_T (nN := (ruV now n (nN, mN, rN)).1) (mN := (ruV now n (nN, mN, rN)).2.1) (rN := (ruV now n (nN, mN, rN)).2.2) (tb_dig hn) hn ah s hs
  have eB0 : B 1 0 = lN (mTab now n 0) := by rw [kB 0 p3, kE]
  have ew0 := ew 0 p3
  have l31 : mTab now n 0 < 2147483648 := by omega
  have hP0 := hP
  by_cases q : x < 0 ∨ 10 < x
  · exact s_row hc hA' (fun Q => q_likeln (d := 295) (Q := Q) hT.1.1 q) (fun h Q => m_liken (d := 295) (u := u) (Q := Q) (h := h) (th := th) (to := to) (row := row) (ch := ch) (now := now) (tape := tape) (tp := tp) (pt := pt) (tt := tt) (ne := ne) (rd := rd) (rM := rM) (code := code) (rc := rc) (cL := cL) (cR := cR) (stk := stk) (ask := ask) (un := un) (und := und) (aS := aS) (aO := aO) (aW := aW) (aH := aH) (ac := ac) (thr := (fun i => nI (tV i))) (ins := (fun s => nI (iV s))) (gon := (fun s => nI (gV s))) (nO := (fun i => nI (nN i))) (mO := (fun i => nI (mN i))) (rO := (fun i => nI (rN i))) (wy := wy) (ah := ah) (late := late) (soon := soon) (yet := yet) (cir := cir) (bed := bed) (stp := stp) (oO := (fun i => nI (oN i))) (oW := (fun i => nI (wN i))) (win := win) (wc := wc) (rn := rn) (wer := wer) (iK := iK) (kC := kC) (kep := kep) (n := n) q) hR
  · obtain ⟨a, ha, rfl⟩ : ∃ a, a ≤ 10 ∧ x = nI a := by
      obtain ⟨s, hs, rfl⟩ := nI_of (fun e => q (Or.inl e))
      refine ⟨s, ?_, rfl⟩
      have q2 : ¬ nI 10 < nI s := fun e => q (Or.inr e)
      rw [nI_ult (by decide) hs] at q2
      omega
    have lc := lk_cnt hT.1.2.1 hT.1.2.2 oN wN
    have pe : itr (ptF now n 2) 0 n = psum n mt nt 2 n := ps_eq hT.1.2.1 hT.1.2.2 (v := 2) (by decide) n (Nat.le_refl _)
    have na := num_all hT.1.2.1 hT.1.2.2 op oN wN n (Nat.le_refl _)
    have ll := lkA_lt (now := now) (q := (0, oN, wN)) hn ho hw n (Nat.le_refl _)
    rcases el : itr (lkA now n) (0, oN, wN) n with ⟨M, O, W⟩
    simp only [el] at lc na ll
    have cm : psum n mt nt 2 n / 2 = M := by rw [← pe, lc]; omega
    by_cases hop : 6 < M
    · exact s_row hc hA' (fun Q => q_likel2 (d := 295) (Q := Q) hT.1.1 ha (by rw [cm]; exact hop)) (fun h Q => m_like2 (d := 295) (u := u) (Q := Q) (h := h) (th := th) (to := to) (row := row) (ch := ch) (now := now) (tape := tape) (tp := tp) (pt := pt) (tt := tt) (ne := ne) (rd := rd) (rM := rM) (code := code) (rc := rc) (cL := cL) (cR := cR) (stk := stk) (ask := ask) (un := un) (und := und) (aS := aS) (aO := aO) (aW := aW) (aH := aH) (ac := ac) (thr := (fun i => nI (tV i))) (ins := (fun s => nI (iV s))) (gon := (fun s => nI (gV s))) (nO := (fun i => nI (nN i))) (mO := (fun i => nI (mN i))) (rO := (fun i => nI (rN i))) (wy := wy) (ah := ah) (late := late) (soon := soon) (yet := yet) (cir := cir) (bed := bed) (stp := stp) (oO := (fun i => nI (oN i))) (oW := (fun i => nI (wN i))) (win := win) (wc := wc) (rn := rn) (wer := wer) (iK := iK) (kC := kC) (kep := kep) (n := n) hn q (by rw [pe, cm]; exact hop)) hR
    · have hM6 : M ≤ 6 := by omega
      have hP := num_cg (D' := fun _ _ => True) (fun a b h1 h2 => ⟨fun _ => trivial, fun _ => (show a < n by omega)⟩) na.2
      have hlen : 3 ^ n ≤ len := kT.2.2.2.1
      have hw0 : ¬ cTab n rm mt nt fm 0 = 0 → btM (ooQ (B 1) (B 2) len 0) 0 = true := by
        intro c0
        unfold ooQ
        rw [zup_eq, eB0, if_pos]
        · decide
        · rw [lN_pos' kM]; rw [kE] at c0; omega
      have lr := like_R k2 kA hT.1.2.1 hT.1.2.2 hP hM6 (ooQ_hw hlen) hw0 ha (2 ^ M) (Nat.le_refl _)
      have pw := pw_y M (by omega)
      rcases ex : itr (lkS O W a M (cAll n)) (now, 0) (2 ^ M) with ⟨N1, X⟩
      simp only [ex] at lr
      have zn := lz_now hn hT.1.2.1 hT.1.2.2 hP lr.1
      have zn' : itr (lzO O W) N1 M = now := funext zn
      have x31 : X < 2147483648 := by
        have := Nat.pow_le_pow_right (n := 2) (by decide) hM6
        have := lr.2.2
        omega
      have p := fun Q => p_likel (d := 295) (Q := Q) (te := te) (dr := dr) (pa := pa) (rk := rk) (rf := rf) (fi := fi) (cs := cs) (ci := ci) (ga := ga) (r1 := r1) (r2 := r2) (sw := sw) (n := n) (rm := rm) (mt := mt) (nt := nt) (fm := fm) (vr := vr) tot hN'.1 hT.1.1 nb.1.1 kG rfl hR.1 ha (by rw [cm]; exact hM6) x31 pw.2.1 pw.2.2 (by rw [cm]; exact lr.2.1) (by rw [cm]; exact pw.1)
      have nb' : jN (c + 1) (k, len, m, A, z_up B 2 (ooS A (nopA (opnB mt nt) n (0, op) n).2 n (ooQ (B 1) (B 2) len) (3 ^ n - 1)), C, (nopA (opnB mt nt) n (0, op) n).2, vr, tl, n, 3 ^ n - 1) cs u' := jNb_N nb
      obtain ⟨t, mm⟩ := m_like (u := u') (h := (wld h' te (n, rm, mt, nt, fm, vr) dr pa (2, vp_updL (vp_updL rf 0 (lN (X / Nat.gcd X (itr (fun (_ : Nat) (x : Nat) => x * 10) 1 M)))) 1 (lN (itr (fun (_ : Nat) (x : Nat) => x * 10) 1 M / Nat.gcd X (itr (fun (_ : Nat) (x : Nat) => x * 10) 1 M)))) fi (k, len, m, A, z_up B 2 (ooS A (nopA (opnB mt nt) n (0, op) n).2 n (ooQ (B 1) (B 2) len) (3 ^ n - 1)), C, (nopA (opnB mt nt) n (0, op) n).2, vr, tl, n, 3 ^ n - 1) cs ci ga r1 r2 sw)) (th := th) (to := to) (row := row) (ch := ch) (now := now) (tape := tape) (tp := tp) (pt := pt) (tt := tt) (ne := ne) (rd := rd) (rM := rM) (code := code) (rc := rc) (cL := cL) (cR := cR) (stk := stk) (ask := ask) (un := un) (und := und) (aS := aS) (aO := aO) (aW := aW) (aH := aH) (ac := ac) (wy := wy) (ah := ah) (late := late) (soon := soon) (yet := yet) (cir := cir) (bed := bed) (stp := stp) (win := win) (wc := wc) (rn := rn) (wer := wer) (iK := iK) (kC := kC) (kep := kep) (n := n) (tN := tV) (iN := iV) (gN := gV) (nN := nN) (mN := mN) (rN := rN) (oN := oN) (wN := wN) (p := a) (tb_K hn) (tb_B hn) (cAll_h hn) ha (by rw [pe, cm]) hM6 ho hw el ex zn' rfl x31 pw.2.1 pw.2.2
      refine ⟨_, _, _, _, p, fun Q => ?_, h', te, (n, rm, mt, nt, fm, vr), dr, pa, (2, vp_updL (vp_updL rf 0 (lN (X / Nat.gcd X (itr (fun (_ : Nat) (x : Nat) => x * 10) 1 M)))) 1 (lN (itr (fun (_ : Nat) (x : Nat) => x * 10) 1 M / Nat.gcd X (itr (fun (_ : Nat) (x : Nat) => x * 10) 1 M)))), fi, (k, len, m, A, z_up B 2 (ooS A (nopA (opnB mt nt) n (0, op) n).2 n (ooQ (B 1) (B 2) len) (3 ^ n - 1)), C, (nopA (opnB mt nt) n (0, op) n).2, vr, tl, n, 3 ^ n - 1), cs, ci, ga, r1, r2, sw, 0, 2, (vp_updL (vp_updL row 0 (lN (X / Nat.gcd X (itr (fun (_ : Nat) (x : Nat) => x * 10) 1 M)))) 1 (lN (itr (fun (_ : Nat) (x : Nat) => x * 10) 1 M / Nat.gcd X (itr (fun (_ : Nat) (x : Nat) => x * 10) 1 M)))), (nI n), ch, now, tape, tp, pt, tt, ne, rd, rM, code, rc, cL, cR, stk, ask, un, und, aS, aO, aW, aH, ac, (fun i => nI (tV i)), (fun s => nI (iV s)), (fun s => nI (gV s)), (fun i => nI (t.1.1 i)), (fun i => nI (t.1.2.1 i)), (fun i => nI (t.1.2.2 i)), (t.2), ah, late, soon, yet, cir, bed, stp, (fun i => nI (O i)), (fun i => nI (W i)), win, wc, rn, wer, iK, kC, kep, (wm_comm nb'.1).symm, hX, hT, jP_up hP0, ⟨by show 2 ≤ 14; decide, rowM_2⟩, hS, jV_up hc nV (ve_self _), jO_mk kW kT rfl kL, hC, hU, ⟨rfl, rfl, rfl, ⟨_, rfl⟩, ⟨_, rfl⟩, ⟨_, rfl⟩, m7, m8, ⟨O, rfl, ll.1⟩, ⟨W, rfl, ll.2⟩, m11⟩, nb'⟩
      rw [wm_comm nb'.1]
      exact mm 234 Q

