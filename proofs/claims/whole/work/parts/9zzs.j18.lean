/-! steps: the longest stay -/
theorem mr_M {h : Nat → zE} {th : Int32} {to : Int32} {row : Nat → Int64} {gu : Int32} {ch : Int32} {now : Nat → Int32} {tape : Nat → Int32} {tp : Int32} {pt : Int32} {tt : Int32} {ne : Int32} {rd : Nat → Int32} {rM : Int32} {code : Nat → Int32} {rc : Nat → Int32} {cL : Int32} {cR : Int32} {stk : Nat → Int32} {ask : Nat → Int32} {un : Int32} {und : Nat → Int32} {aS : Nat → Int32} {aO : Nat → Int32} {aW : Nat → Int32} {aH : Nat → Int32} {ac : Int32} {thr : Nat → Int32} {ins : Nat → Int32} {gon : Nat → Int32} {nO : Nat → Int32} {mO : Nat → Int32} {rO : Nat → Int32} {wy : Nat → Int64} {ah : Nat → Int64} {late : Nat → Int32} {soon : Nat → Int32} {yet : Nat → Int32} {cir : Nat → Int32} {bed : Nat → Int32} {stp : Nat → Int32} {oO : Nat → Int32} {oW : Nat → Int32} {win : Nat → Int32} {wc : Nat → Int32} {rn : Int32} {wer : Nat → Int32} {iK : Nat → Int32} {kC : Nat → Int32} {kep : Nat → Int32} {la K cl : Nat} {co : Nat → Int32} (hK : K = 35 ∨ 91 ≤ K) : mrH (mdl h th to row gu ch now tape tp pt tt ne rd rM code rc cL cR stk ask un und aS aO aW aH ac thr ins gon nO mO rO wy ah late soon yet cir bed stp oO oW win wc rn wer iK kC kep) la K cl co = (mdl (mrH h la K cl co) th to row gu ch now tape tp pt tt ne rd rM code rc cL cR stk ask un und aS aO aW aH ac thr ins gon nO mO rO wy ah late soon yet cir bed stp oO oW win wc rn wer iK kC kep) := by
  unfold mrH
  split
  · rfl
  · funext j
    by_cases cj : 54 ≤ j ∧ j ≤ 89
    · rw [zup_ne _ _ (by omega)]
      exact M_hi cj
    · rw [M_lo cj]
      by_cases e : j = K
      · subst e; rw [zup_eq, zup_eq]
      · rw [zup_ne _ _ e, zup_ne _ _ e, M_lo cj]
theorem mr_N {c n : Nat} {k len m : Nat} {A : Nat → Nat → Nat} {B : Nat → Nat → Int64} {C : Nat → Nat → Nat} {op : Nat → Int32} {sn : Int32} {tl : Bool} {on : Nat} {K cl : Nat} {co wo tH : Nat → Int32} {ma wi wg : Nat → Nat} {ly : Bool} {u : zU} {len' m' on' la' cl' : Nat} {A' : Nat → Nat → Nat} {B' : Nat → Nat → Int64} {C' : Nat → Nat → Nat} {op' : Nat → Int32} {sn' : Int32} {tl' : Bool} {co' wo' tH' : Nat → Int32} {ma' wi' wg' : Nat → Nat} {ly' : Bool} (hc : c < 64) (hn : n ≤ 7) (h : jNb c (k, len, m, A, B, C, op, sn, tl, on, 3 ^ n - 1) (K, cl, co, wo, tH, ma, wi, wg, ly) u) : jN (c + 1) (k, len', m', A', B', C', op', sn', tl', on', la') (mrK (3 ^ n - 1) K cl u.1, cl', co', wo', tH', ma', wi', wg', ly') (mrU (3 ^ n - 1) cl u) := by
  obtain ⟨⟨h0, h1, h2⟩, h3, h4, h5, h6, h7, h8⟩ := h
  have l := p3_7 hn
  have hnm := mr_nm (la := 3 ^ n - 1) (x := u.1) (cl' := cl') (co' := co') (wo' := wo') (th' := tH') (ma' := ma') (wi' := wi') (wg' := wg') (ly' := ly') (len' := len') (m' := m') (on' := on') (la' := la') (A' := A') (B' := B') (C' := C') (op' := op') (sn' := sn') (tl' := tl') h0 (by omega) h4 (by omega)
  have p3 := p3_pos n
  dsimp only at h1 h2 h4 h5
  unfold mrK mrU at *
  by_cases q : 3 ^ n - 1 < cl
  · rw [if_pos q] at hnm ⊢
    rw [if_pos q]
    exact ⟨⟨hnm, h1, h2⟩, h3, h4, h5, by omega, by omega, Nat.le_trans h8 (by rw [Nat.mul_succ, Nat.add_assoc]; exact Nat.add_le_add_left (Nat.add_le_add_left (by decide) _) _)⟩
  · rw [if_neg q] at hnm ⊢
    rw [if_neg q]
    refine ⟨⟨hnm, h1, Or.inr h3⟩, by show 91 ≤ u.1 + 1; omega, by show k + 7 < u.1 + 1; omega, by show u.1 < u.1 + 1; omega, by show u.1 + 1 ≤ _; omega, by show u.2.1 + 1 ≤ _; omega, ?_⟩
    show u.2.2 + (3 ^ n - 1 + 1) ≤ _
    refine Nat.le_trans (Nat.add_le_add h8 (show 3 ^ n - 1 + 1 ≤ 2187 by omega)) ?_
    rw [Nat.mul_succ, Nat.add_assoc, Nat.add_assoc]
    exact Nat.add_le_add_left (Nat.add_le_add_left (by decide) _) _
theorem mr_C {n : Nat} {K cl : Nat} {co wo tH : Nat → Int32} {ma wi wg : Nat → Nat} {ly : Bool} {K' : Nat} {co' wo' tH' : Nat → Int32} {ly' : Bool} (hn : n ≤ 7) (h : jC (K, cl, co, wo, tH, ma, wi, wg, ly)) : jC (K', mrL (3 ^ n - 1) cl, co', wo', tH', ma, wi, wg, ly') := by
  have l := p3_7 hn
  exact ⟨mrL_le (by omega) h.1, h.2⟩
theorem ld_q {now : Nat → Int32} {n : Nat} {nN mN rN : Nat → Nat} (hn : n ≤ 7) (hq : ∀ s i, i < n → qOf (ldB iV gV nN mN rN) s i = qM now n s i) (s i : Nat) (hs : s < 3 ^ n) (hi : i < n) : ldB iV gV nN mN rN s (2 * i) = (qM now n s i && decide (dg s i = 0)) ∧ ldB iV gV nN mN rN s (2 * i + 1) = (qM now n s i && decide (dg s i = 1)) := by
  rw [← hq s i hi]
  unfold qOf
  rw [ld_c (tb_dig hn) hn hs hi, ld_g (tb_dig hn) hn hs hi]
  by_cases c : dg s i = 0
  · rw [c]; simp
  · by_cases c1 : dg s i = 1
    · rw [c1]; simp
    · simp [c, c1]
/-- orders were counted, costs found; the row and the model's tables change -/
theorem s_cst {c : Nat} {u u' : zU} {h : Nat → zE} {te : cText} {tO : cTold} {dr : cTold} {pa : cPast} {ro : cRow} {fi : cFits} {od : cOrd} {cs : cCst} {ci : cCir} {ga : cGam} {r1 : cRule} {r2 : cRule} {sw : Bool} {th : Int32} {to : Int32} {row : Nat → Int64} {gu : Int32} {ch : Int32} {now : Nat → Int32} {tape : Nat → Int32} {tp : Int32} {pt : Int32} {tt : Int32} {ne : Int32} {rd : Nat → Int32} {rM : Int32} {code : Nat → Int32} {rc : Nat → Int32} {cL : Int32} {cR : Int32} {stk : Nat → Int32} {ask : Nat → Int32} {un : Int32} {und : Nat → Int32} {aS : Nat → Int32} {aO : Nat → Int32} {aW : Nat → Int32} {aH : Nat → Int32} {ac : Int32} {thr : Nat → Int32} {ins : Nat → Int32} {gon : Nat → Int32} {nO : Nat → Int32} {mO : Nat → Int32} {rO : Nat → Int32} {wy : Nat → Int64} {ah : Nat → Int64} {late : Nat → Int32} {soon : Nat → Int32} {yet : Nat → Int32} {cir : Nat → Int32} {bed : Nat → Int32} {stp : Nat → Int32} {oO : Nat → Int32} {oW : Nat → Int32} {win : Nat → Int32} {wc : Nat → Int32} {rn : Int32} {wer : Nat → Int32} {iK : Nat → Int32} {kC : Nat → Int32} {kep : Nat → Int32} {h' : Nat → zE} {o' : cOrd} {ro' : cRow} {cs' : cCst} {r1' r2' : cRule} {to' : Int32} {row' : Nat → Int64} {nN mN rN : Nat → Nat} {wy' ah' : Nat → Int64} {late' soon' yet' stk' ask' : Nat → Int32} (hc : c < 64) (hA : jAll c u h te tO dr pa ro fi od cs ci ga r1 r2 sw th to row gu ch now tape tp pt tt ne rd rM code rc cL cR stk ask un und aS aO aW aH ac thr ins gon nO mO rO wy ah late soon yet cir bed stp oO oW win wc rn wer iK kC kep) {y y' : Nat} {as : List Value} {v : Value} (hp : ∀ Q, zK 300 y (.ref 1 :: as) ((wld ((mdl h th to row gu ch now tape tp pt tt ne rd rM code rc cL cR stk ask un und aS aO aW aH ac thr ins gon nO mO rO wy ah late soon yet cir bed stp oO oW win wc rn wer iK kC kep)) te tO dr pa ro fi od cs ci ga r1 r2 sw), u) Q = Q (some v, ((wld ((mdl h' th to row gu ch now tape tp pt tt ne rd rM code rc cL cR stk ask un und aS aO aW aH ac thr ins gon nO mO rO wy ah late soon yet cir bed stp oO oW win wc rn wer iK kC kep)) te tO dr pa ro' fi o' cs' ci ga r1' r2' sw), u'))) (hm : ∀ h Q, zK 300 y' (.ref 54 :: as) ((mdl h th to row gu ch now tape tp pt tt ne rd rM code rc cL cR stk ask un und aS aO aW aH ac thr ins gon nO mO rO wy ah late soon yet cir bed stp oO oW win wc rn wer iK kC kep), u') Q = Q (some v, ((mdl h 0 to' row' gu ch now tape tp pt tt ne rd rM code rc cL cR stk' ask' un und aS aO aW aH ac thr ins gon (fun i => nI (nN i)) (fun i => nI (mN i)) (fun i => nI (rN i)) wy' ah' late' soon' yet' cir bed stp oO oW win wc rn wer iK kC kep), u'))) (hr : jR ro' to' row') (ho : jO tO o') (hv : jV c tO o') (hC' : jC cs') (hU' : jU r1' r2' sw code cL) (hn : jN (c + 1) o' cs' u') : jSt c y y' as (wld ((mdl h th to row gu ch now tape tp pt tt ne rd rM code rc cL cR stk ask un und aS aO aW aH ac thr ins gon nO mO rO wy ah late soon yet cir bed stp oO oW win wc rn wer iK kC kep)) te tO dr pa ro fi od cs ci ga r1 r2 sw) u := by
  obtain ⟨hX, hT, hP, hR, hS, hV, hO, hC, hU, hM, hN⟩ := hA
  have hN' := hn.1
  obtain ⟨m1, m2, m3, m4, m5, m6, m7⟩ := hM
  refine ⟨_, _, _, _, hp, fun Q => ?_, h', te, tO, dr, pa, ro', fi, o', cs', ci, ga, r1', r2', sw, 0, to', row', gu, ch, now, tape, tp, pt, tt, ne, rd, rM, code, rc, cL, cR, stk', ask', un, und, aS, aO, aW, aH, ac, thr, ins, gon, (fun i => nI (nN i)), (fun i => nI (mN i)), (fun i => nI (rN i)), wy', ah', late', soon', yet', cir, bed, stp, oO, oW, win, wc, rn, wer, iK, kC, kep, (wm_comm hN').symm, hX, hT, jP_up hP, hr, hS, jV_up hc hv (ve_self _), ho, hC', hU', ⟨m1, m2, m3, ⟨_, rfl⟩, ⟨_, rfl⟩, ⟨_, rfl⟩, m7⟩, hn⟩
  rw [wm_comm hN']
  exact hm _ Q
theorem s_long {c : Nat} {H : Nat → zE} {u : zU} (hc : c < 64) (hI : jIV c H u) (g : Int32) : jSt c 155 256 [.int g] H u := by
  refine jIV_e hI (fun h te tO dr pa ro fi od cs ci ga r1 r2 sw th to row gu ch now tape tp pt tt ne rd rM code rc cL cR stk ask un und aS aO aW aH ac thr ins gon nO mO rO wy ah late soon yet cir bed stp oO oW win wc rn wer iK kC kep eH hA => ?_)
  subst eH
  have hA' := hA
  obtain ⟨hX, hT, hP, hR, hS, hV, hO, hC, hU, hM, hN⟩ := hA
  have hN' := hN.1
  obtain ⟨rk, rf⟩ := ro
  obtain ⟨K, cl, co, wo, tH, ma, wi, wg, ly⟩ := cs
  obtain ⟨n, rm, mt, nt, fm, vr⟩ := tO
  have hn : n ≤ 7 := hT.1.1.1
  have g : gu = nI n := hT.2
  subst g
  obtain ⟨rfl, rfl, rfl, ⟨nN, rfl⟩, ⟨mN, rfl⟩, ⟨rN, rfl⟩, m7, m8, m9, m10, m11⟩ := hM
  obtain ⟨h', k, len, m, A, B, C, op, tl, u', tot, ⟨kW, kT, kL, kG, kA, k2, kB, kE, kM⟩, nb, nV⟩ := jTot (h := h) (te := te) (tO := (n, rm, mt, nt, fm, vr)) (dr := dr) (pa := pa) (ro := (rk, rf)) (fi := fi) (od := od) (cs := (K, cl, co, wo, tH, ma, wi, wg, ly)) (ci := ci) (ga := ga) (r1 := r1) (r2 := r2) (sw := sw) (th := th) (to := to) (row := row) (gu := (nI n)) (ch := ch) (now := now) (tape := tape) (tp := tp) (pt := pt) (tt := tt) (ne := ne) (rd := rd) (rM := rM) (code := code) (rc := rc) (cL := cL) (cR := cR) (stk := stk) (ask := ask) (un := un) (und := und) (aS := aS) (aO := aO) (aW := aW) (aH := aH) (ac := ac) (thr := (fun i => nI (tV i))) (ins := (fun s => nI (iV s))) (gon := (fun s => nI (gV s))) (nO := (fun i => nI (nN i))) (mO := (fun i => nI (mN i))) (rO := (fun i => nI (rN i))) (wy := wy) (ah := ah) (late := late) (soon := soon) (yet := yet) (cir := cir) (bed := bed) (stp := stp) (oO := oO) (oW := oW) (win := win) (wc := wc) (rn := rn) (wer := wer) (iK := iK) (kC := kC) (kep := kep) hc hT hV hO hN
  have p3 := p3_pos n
  have ew := fun s hs => md_T (now := now) hn (nN, mN, rN) wy s hs
  have ea := fun s hs => ah_T (nN := (ruV now n (nN, mN, rN)).1) (mN := (ruV now n (nN, mN, rN)).2.1) (rN := (ruV now n (nN, mN, rN)).2.2) (tb_dig hn) hn ah s hs
  have eB0 : B 1 0 = lN (mTab now n 0) := by rw [kB 0 p3, kE]
  have ew0 := ew 0 p3
  have l31 : mTab now n 0 < 2147483648 := by omega
  have la9 : 3 ^ n - 1 < 9000 := by have := p3_7 hn; omega
  have nb54 : 54 ≤ u'.1 := by have := nb.2.1; omega
  have nb1000 : u'.1 + 1 < 1000 := by have := nb.2.2.2.2.1; omega
  by_cases q : hasB n g = true
  · obtain ⟨a, ha, rfl⟩ := hasB_of hn q
    by_cases z : mTab now n 0 = 0
    · have bz : B 1 0 = 0 := by rw [eB0, z]; rfl
      have wz : (wyV iV gV (ruV now n (nN, mN, rN)) n 7 (-1) wy) 0 = 0 := by rw [ew0, z]; rfl
      have p := fun Q => p_long0 (d := 294) (Q := Q) (te := te) (dr := dr) (pa := pa) (rk := rk) (rf := rf) (fi := fi) (ci := ci) (ga := ga) (r1 := r1) (r2 := r2) (sw := sw) (n := n) (rm := rm) (mt := mt) (nt := nt) (fm := fm) (vr := vr) (K := K) (cl := cl) (co := co) (wo := wo) (th := tH) (ma := ma) (wi := wi) (wg := wg) (ly := ly) tot hN'.1 hT.1.1 ha bz
      exact s_ord (nN := (ruV now n (nN, mN, rN)).1) (mN := (ruV now n (nN, mN, rN)).2.1) (rN := (ruV now n (nN, mN, rN)).2.2) (wy' := (wyV iV gV (ruV now n (nN, mN, rN)) n 7 (-1) wy)) (ah' := ah) hc hA' p (fun h Q => m_long0 (d := 234) (u := u') (Q := Q) (h := h) (th := th) (to := to) (row := row) (ch := ch) (now := now) (tape := tape) (tp := tp) (pt := pt) (tt := tt) (ne := ne) (rd := rd) (rM := rM) (code := code) (rc := rc) (cL := cL) (cR := cR) (stk := stk) (ask := ask) (un := un) (und := und) (aS := aS) (aO := aO) (aW := aW) (aH := aH) (ac := ac) (wy := wy) (ah := ah) (late := late) (soon := soon) (yet := yet) (cir := cir) (bed := bed) (stp := stp) (oO := oO) (oW := oW) (win := win) (wc := wc) (rn := rn) (wer := wer) (iK := iK) (kC := kC) (kep := kep) (n := n) (tN := tV) (iN := iV) (gN := gV) (nN := nN) (mN := mN) (rN := rN) (tb_K hn) (tb_B hn) ha wz) hR (jO_mk kW kT rfl kL) nV nb
    · have y0 : 0 < mTab now n 0 := by omega
      have c0 : ¬ cTab n rm mt nt fm 0 = 0 := by rw [kE]; exact z
      have bz : ¬ B 1 0 = 0 := by rw [eB0, lN_z l31]; exact z
      have wz : ¬ (wyV iV gV (ruV now n (nN, mN, rN)) n 7 (-1) wy) 0 = 0 := by rw [ew0, lN_z l31]; exact z
      have hlen : 3 ^ n ≤ len := kT.2.2.2.1
      have tk := tl_ok k2 c0 kB hlen kL
      have jl := jTl_t k2 c0 kB hlen kL
      have qr := fun s i hi => qM_ru (now := now) (n := n) (nN, mN, rN) (s := s) (i := i) hi
      have eq1 : ∀ t, t < 3 ^ n → (ahV iV gV (ruV now n (nN, mN, rN)) n ah) t = lN (aN (qM now n) n (3 ^ n) t) := fun t ht => (ea t ht).trans (congrArg lN (aN_cq qr _ _))
      have p := fun Q => p_long (d := 294) (Q := Q) (te := te) (dr := dr) (pa := pa) (rk := rk) (rf := rf) (fi := fi) (ci := ci) (ga := ga) (r1 := r1) (r2 := r2) (sw := sw) (n := n) (rm := rm) (mt := mt) (nt := nt) (fm := fm) (vr := vr) (K := K) (cl := cl) (co := co) (wo := wo) (th := tH) (ma := ma) (wi := wi) (wg := wg) (ly := ly) tot hN'.1 hT.1.1 nb.1.1 kG rfl la9 hC.1 nb54 nb.2.2.1 nb.2.2.2.1 nb1000 hC.2.1 hC.2.2.1 hC.2.2.2 hR.1 ha (by have := Nat.pow_le_pow_right (n := 3) (by decide) (show a ≤ n by omega); omega) bz
      have ug := us_mk (ld := ldB iV gV (ruV now n (nN, mN, rN)).1 (ruV now n (nN, mN, rN)).2.1 (ruV now n (nN, mN, rN)).2.2) (W := (wyV iV gV (ruV now n (nN, mN, rN)) n 7 (-1) wy)) (pr := fun _ _ => 0) (wt := fun _ _ => 0) k2 (ld_q hn qr) ew (fun s hs => cnt_le hn k2.2.2.2.1 k2.2.2.2.2.2.1 hs) (fun s i _ _ _ => ⟨rfl, by decide, by decide⟩)
      have le := long_eq (cn := lgC (ldB iV gV (ruV now n (nN, mN, rN)).1 (ruV now n (nN, mN, rN)).2.1 (ruV now n (nN, mN, rN)).2.2) (wyV iV gV (ruV now n (nN, mN, rN)) n 7 (-1) wy)) (y0 := (late, soon)) k2 c0 kA ha tk.1 eq1 (fun s i hs hw hi => ug.2.2.1 s i hs ⟨hw.1, hw.2.1⟩ hi) (fun s hs hcn => by
        unfold lgC at hcn
        rw [Bool.and_eq_true, decide_eq_true_eq, show 2 * a / 2 = a by omega] at hcn
        have q1 := hcn.1
        rw [(ld_q hn qr s a hs ha).1, Bool.and_eq_true, decide_eq_true_eq] at q1
        have l := dg_add ha hs (show dg s a ≤ 1 by omega)
        have q2 := hcn.2
        rw [ew _ l, lN_pos' (cnt_le hn k2.2.2.2.1 k2.2.2.2.2.2.1 l)] at q2
        exact ⟨q1.2, q1.1, by omega⟩) (co := mrC (3 ^ n - 1) cl co) (co' := (lsV A B n (3 ^ n - 1) len m tl a 1 (mrC (3 ^ n - 1) cl co)).1) rfl rfl rfl rfl
      have mm := fun h Q => m_long (d := 234) (u := mrU (3 ^ n - 1) cl u') (Q := Q) (h := h) (th := th) (to := to) (row := row) (ch := ch) (now := now) (tape := tape) (tp := tp) (pt := pt) (tt := tt) (ne := ne) (rd := rd) (rM := rM) (code := code) (rc := rc) (cL := cL) (cR := cR) (stk := stk) (ask := ask) (un := un) (und := und) (aS := aS) (aO := aO) (aW := aW) (aH := aH) (ac := ac) (wy := wy) (ah := ah) (late := late) (soon := soon) (yet := yet) (cir := cir) (bed := bed) (stp := stp) (oO := oO) (oW := oW) (win := win) (wc := wc) (rn := rn) (wer := wer) (iK := iK) (kC := kC) (kep := kep) (n := n) (tN := tV) (iN := iV) (gN := gV) (nN := nN) (mN := mN) (rN := rN) (tb_K hn) (tb_B hn) ha rfl rfl wz rfl rfl rfl
      have l1 : 3 ^ n - 1 + 1 = 3 ^ n := by omega
      have z1 : ∀ (B : Nat → Nat → Int64) (tl : Bool) f co, lsV A B n (3 ^ n - 1) len m tl a f co = dtr (lsF A (tlB A B n (3 ^ n - 1) len m tl 0) n a f (3 ^ a)) (3 ^ n - 3 ^ a) (co, 0, false) := fun B tl f co => by unfold lsV; rw [l1]
      have z2 : tlB A (tlB A B n (3 ^ n - 1) len m tl) n (3 ^ n - 1) len m true = tlB A B n (3 ^ n - 1) len m tl := rfl
      have e1 := le.1.trans (congrArg (fun x => -(x : (Nat → Int32) × Int32 × Bool).2.1) ((z1 (tlB A B n (3 ^ n - 1) len m tl) true (-1) (lsV A B n (3 ^ n - 1) len m tl a 1 (mrC (3 ^ n - 1) cl co)).1).trans (by rw [z2])).symm)
      have e2 := le.2.trans (congrArg (fun x => (x : (Nat → Int32) × Int32 × Bool).2.1) (z1 B tl 1 (mrC (3 ^ n - 1) cl co)).symm)
      rw [e1, e2] at mm
      have mk := @mr_N c n k len m A B C op vr tl n K cl co wo tH ma wi wg ly u' len m n (3 ^ n - 1) (mrL (3 ^ n - 1) cl) A (tlB A B n (3 ^ n - 1) len m tl) C op vr true (lsV A (tlB A B n (3 ^ n - 1) len m tl) n (3 ^ n - 1) len m true a (-1) (lsV A B n (3 ^ n - 1) len m tl a 1 (mrC (3 ^ n - 1) cl co)).1).1 wo tH ma wi wg ly hc hn nb
      rw [mr_M hN.1.2.2] at p
      exact s_cst hc hA' p mm ⟨by show 1 ≤ 14; decide, rowM_1⟩ (jO_mk kW kT tlB_1 jl) nV (mr_C hn hC) hU mk
  · rw [Bool.not_eq_true] at q
    exact s_row hc hA' (fun Q => q_longn (d := 294) (Q := Q) hT.1.1 q) (fun h Q => m_longn (d := 234) (u := u) (Q := Q) (h := h) (th := th) (to := to) (row := row) (ch := ch) (now := now) (tape := tape) (tp := tp) (pt := pt) (tt := tt) (ne := ne) (rd := rd) (rM := rM) (code := code) (rc := rc) (cL := cL) (cR := cR) (stk := stk) (ask := ask) (un := un) (und := und) (aS := aS) (aO := aO) (aW := aW) (aH := aH) (ac := ac) (wy := wy) (ah := ah) (late := late) (soon := soon) (yet := yet) (cir := cir) (bed := bed) (stp := stp) (oO := oO) (oW := oW) (win := win) (wc := wc) (rn := rn) (wer := wer) (iK := iK) (kC := kC) (kep := kep) (n := n) (tN := tV) (iN := iV) (gN := gV) (nN := nN) (mN := mN) (rN := rN) hn q) hR

