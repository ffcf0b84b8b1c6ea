/-! steps: the most, beds, what is sure and known, what to ask -/
theorem sel_B {n : Nat} {A : Nat → Nat → Nat} {B : Nat → Nat → Int64} {rm mt nt : Nat → Nat} {fm : Bool} {vr : Int32} {k len m : Nat} {C : Nat → Nat → Nat} {op : Nat → Int32} {tl fl : Bool} (e : tlB A B n (3 ^ n - 1) len m tl 1 = B 1) (j1 : jTl (n, rm, mt, nt, fm, vr) (k, len, m, A, B, C, op, vr, tl, n, 3 ^ n - 1)) (j2 : jTl (n, rm, mt, nt, fm, vr) (k, len, m, A, tlB A B n (3 ^ n - 1) len m tl, C, op, vr, true, n, 3 ^ n - 1)) : selB A B n (3 ^ n - 1) len m tl fl 1 = B 1 ∧ jTl (n, rm, mt, nt, fm, vr) (k, len, m, A, selB A B n (3 ^ n - 1) len m tl fl, C, op, vr, selT tl fl, n, 3 ^ n - 1) := by
  cases fl
  · exact ⟨rfl, j1⟩
  · exact ⟨e, j2⟩
theorem kn_14 {opn : Nat → Nat → Bool} {V : Nat → Nat → Int64} {all : Int64} {n : Nat} {rf : Nat → Int64} : (itr (knG opn V all n) ((0, 0, rf), false) n).1.2.1 ≤ 14 := by
  refine itr_inv (N := n) (f := knG opn V all n) (fun _ (r : suT) => r.1.2.1 ≤ 14) (by show 0 ≤ 14; decide) (fun a r _ hr => ?_) n (Nat.le_refl _)
  refine itr_inv (N := n - (a + 1)) (f := knF opn V all a) (fun _ (r : suT) => r.1.2.1 ≤ 14) hr (fun i r _ hr => ?_) _ (Nat.le_refl _)
  unfold knF knR
  split
  · split
    · split
      · show 3 ≤ 14; decide
      · exact hr
    · exact hr
  · exact hr
theorem as_14 {opn : Nat → Nat → Bool} {V : Nat → Nat → Int64} {all : Int64} {n : Nat} {x : Int64} {ro : cRow} (h : ro.1 ≤ 14) : (itr (asG opn V all n) ((x, ro), false) n).1.2.1 ≤ 14 := by
  refine itr_inv (N := n) (f := asG opn V all n) (fun _ (r : asT) => r.1.2.1 ≤ 14) h (fun a r _ hr => ?_) n (Nat.le_refl _)
  refine itr_inv (N := n - (a + 1)) (f := asF opn V all a) (fun _ (r : asT) => r.1.2.1 ≤ 14) hr (fun i r _ hr => ?_) _ (Nat.le_refl _)
  unfold asF
  split
  · show (asR (V a (a + 1 + i)) all a (a + 1 + i) r.1).2.1 ≤ 14
    unfold asR
    generalize (if all - V a (a + 1 + i) < V a (a + 1 + i) then V a (a + 1 + i) else all - V a (a + 1 + i)) = x
    split
    · show 3 ≤ 14; decide
    · exact hr
  · exact hr
theorem ak_no {now : Nat → Int32} {mw : Nat → Nat → Int64} {w0 : Int64} {n : Nat} {x : akT} (h : ∀ a b, a < b → b < n → ¬ now (7 * a + b) = 2) : itr (akN now mw w0 n) x n = x := by
  refine itr_inv (N := n) (f := akN now mw w0 n) (fun _ (r : akT) => r = x) rfl (fun a r ha hr => ?_) n (Nat.le_refl _)
  refine itr_inv (N := n - 1 - a) (f := akF now mw w0 a) (fun _ (r : akT) => r = x) hr (fun i r hi hr => ?_) _ (Nat.le_refl _)
  unfold akF
  rw [if_neg (fun z => h a (a + 1 + i) (by omega) (by omega) z.1)]
  exact hr
theorem lk_no {now : Nat → Int32} {n : Nat} {x : lkT} (h : ∀ a b, a < b → b < n → ¬ now (7 * a + b) = 2) : itr (lkA now n) x n = x := by
  refine itr_inv (N := n) (f := lkA now n) (fun _ (r : lkT) => r = x) rfl (fun a r ha hr => ?_) n (Nat.le_refl _)
  refine itr_inv (N := n - 1 - a) (f := lkF now a) (fun _ (r : lkT) => r = x) hr (fun i r hi hr => ?_) _ (Nat.le_refl _)
  unfold lkF
  rw [if_neg (h a (a + 1 + i) (by omega) (by omega))]
  exact hr
theorem s_most {c : Nat} {H : Nat → zE} {u : zU} (hc : c < 64) (hI : jIV c H u) : jSt c 153 254 [] H u := by
  refine jIV_e hI (fun h te tO dr pa ro fi od cs ci ga r1 r2 sw th to row gu ch now tape tp pt tt ne rd rM code rc cL cR stk ask un und aS aO aW aH ac thr ins gon nO mO rO wy ah late soon yet cir bed stp oO oW win wc rn wer iK kC kep eH hA => ?_)
  subst eH
  have hA' := hA
  obtain ⟨hX, hT, hP, hR, hS, hV, hO, hC, hU, hM, hN⟩ := hA
  have hN' := hN.1
  obtain ⟨rk, rf⟩ := ro
  obtain ⟨n, rm, mt, nt, fm, vr⟩ := tO
  have hn : n ≤ 7 := hT.1.1.1
  have g : gu = nI n := hT.2
  subst g
  obtain ⟨rfl, rfl, rfl, ⟨nN, rfl⟩, ⟨mN, rfl⟩, ⟨rN, rfl⟩, m7, m8, m9, m10, m11⟩ := hM
  obtain ⟨h', k, len, m, A, B, C, op, tl, u', tot, ⟨kW, kT, kL, kG, kA, k2, kB, kE, kM⟩, nb, nV⟩ := jTot (h := h) (te := te) (tO := (n, rm, mt, nt, fm, vr)) (dr := dr) (pa := pa) (ro := (rk, rf)) (fi := fi) (od := od) (cs := cs) (ci := ci) (ga := ga) (r1 := r1) (r2 := r2) (sw := sw) (th := th) (to := to) (row := row) (gu := (nI n)) (ch := ch) (now := now) (tape := tape) (tp := tp) (pt := pt) (tt := tt) (ne := ne) (rd := rd) (rM := rM) (code := code) (rc := rc) (cL := cL) (cR := cR) (stk := stk) (ask := ask) (un := un) (und := und) (aS := aS) (aO := aO) (aW := aW) (aH := aH) (ac := ac) (thr := (fun i => nI (tV i))) (ins := (fun s => nI (iV s))) (gon := (fun s => nI (gV s))) (nO := (fun i => nI (nN i))) (mO := (fun i => nI (mN i))) (rO := (fun i => nI (rN i))) (wy := wy) (ah := ah) (late := late) (soon := soon) (yet := yet) (cir := cir) (bed := bed) (stp := stp) (oO := oO) (oW := oW) (win := win) (wc := wc) (rn := rn) (wer := wer) (iK := iK) (kC := kC) (kep := kep) hc hT hV hO hN
  have p3 := p3_pos n
  have ew := fun s hs => md_T (now := now) hn (nN, mN, rN) wy s hs
  have ea := fun s hs => ah_T (nN := (ruV now n (nN, mN, rN)).1) (mN := (ruV now n (nN, mN, rN)).2.1) (rN := (ruV now n (nN, mN, rN)).2.2) (tb_dig hn) hn ah s hs
  have eB0 : B 1 0 = lN (mTab now n 0) := by rw [kB 0 p3, kE]
  have ew0 := ew 0 p3
  have l31 : mTab now n 0 < 2147483648 := by omega
  by_cases z : mTab now n 0 = 0
  · have bz : B 1 0 = 0 := by rw [eB0, z]; rfl
    have wz : (wyV iV gV (ruV now n (nN, mN, rN)) n 7 (-1) wy) 0 = 0 := by rw [ew0, z]; rfl
    have p := fun Q => p_most0 (d := 295) (Q := Q) (te := te) (dr := dr) (pa := pa) (rk := rk) (rf := rf) (fi := fi) (cs := cs) (ci := ci) (ga := ga) (r1 := r1) (r2 := r2) (sw := sw) (n := n) (rm := rm) (mt := mt) (nt := nt) (fm := fm) (vr := vr) tot hN'.1 bz
    exact s_ord (nN := (ruV now n (nN, mN, rN)).1) (mN := (ruV now n (nN, mN, rN)).2.1) (rN := (ruV now n (nN, mN, rN)).2.2) (wy' := (wyV iV gV (ruV now n (nN, mN, rN)) n 7 (-1) wy)) (ah' := ah) hc hA' p (fun h Q => m_most0 (d := 234) (u := u') (Q := Q) (h := h) (th := th) (to := to) (row := row) (ch := ch) (now := now) (tape := tape) (tp := tp) (pt := pt) (tt := tt) (ne := ne) (rd := rd) (rM := rM) (code := code) (rc := rc) (cL := cL) (cR := cR) (stk := stk) (ask := ask) (un := un) (und := und) (aS := aS) (aO := aO) (aW := aW) (aH := aH) (ac := ac) (wy := wy) (ah := ah) (late := late) (soon := soon) (yet := yet) (cir := cir) (bed := bed) (stp := stp) (oO := oO) (oW := oW) (win := win) (wc := wc) (rn := rn) (wer := wer) (iK := iK) (kC := kC) (kep := kep) (n := n) (tN := tV) (iN := iV) (gN := gV) (nN := nN) (mN := mN) (rN := rN) (tb_K hn) (tb_B hn _ _ _) wz) hR (jO_mk kW kT rfl kL) nV nb
  · have y0 : 0 < mTab now n 0 := by omega
    have c0 : ¬ cTab n rm mt nt fm 0 = 0 := by rw [kE]; exact z
    have bz : ¬ B 1 0 = 0 := by rw [eB0, lN_z l31]; exact z
    have wz : ¬ (wyV iV gV (ruV now n (nN, mN, rN)) n 7 (-1) wy) 0 = 0 := by rw [ew0, lN_z l31]; exact z
    have hlen : 3 ^ n ≤ len := kT.2.2.2.1
    have tk := tl_ok k2 c0 kB hlen kL
    have jl := jTl_t k2 c0 kB hlen kL
    have qr := fun s i hi => qM_ru (now := now) (n := n) (nN, mN, rN) (s := s) (i := i) hi
    have eq1 : ∀ t, t < 3 ^ n → (ahV iV gV (ruV now n (nN, mN, rN)) n ah) t = lN (aN (qM now n) n (3 ^ n) t) := fun t ht => (ea t ht).trans (congrArg lN (aN_cq qr _ _))
    have me := most_eq k2 c0 tk.1 eq1 ew (fun s hs => (dig_eq kA.2.2 (tb_dig hn) kA.1 kA.2.1 iV_lt gV_lt hs).1) (3 ^ n) (Nat.le_refl _)
    have p := fun Q => p_most (d := 295) (Q := Q) (te := te) (dr := dr) (pa := pa) (rk := rk) (rf := rf) (fi := fi) (cs := cs) (ci := ci) (ga := ga) (r1 := r1) (r2 := r2) (sw := sw) (n := n) (rm := rm) (mt := mt) (nt := nt) (fm := fm) (vr := vr) tot hN'.1 hT.1.1 nb.1.1 kG rfl hR.1 bz
    rw [show 3 ^ n - 1 + 1 = 3 ^ n by omega, me] at p
    exact s_ord (nN := (ruV now n (nN, mN, rN)).1) (mN := (ruV now n (nN, mN, rN)).2.1) (rN := (ruV now n (nN, mN, rN)).2.2) (wy' := (wyV iV gV (ruV now n (nN, mN, rN)) n 7 (-1) wy)) (ah' := (ahV iV gV (ruV now n (nN, mN, rN)) n ah)) hc hA' p (fun h Q => m_most (d := 234) (u := u') (Q := Q) (h := h) (th := th) (to := to) (row := row) (ch := ch) (now := now) (tape := tape) (tp := tp) (pt := pt) (tt := tt) (ne := ne) (rd := rd) (rM := rM) (code := code) (rc := rc) (cL := cL) (cR := cR) (stk := stk) (ask := ask) (un := un) (und := und) (aS := aS) (aO := aO) (aW := aW) (aH := aH) (ac := ac) (wy := wy) (ah := ah) (late := late) (soon := soon) (yet := yet) (cir := cir) (bed := bed) (stp := stp) (oO := oO) (oW := oW) (win := win) (wc := wc) (rn := rn) (wer := wer) (iK := iK) (kC := kC) (kep := kep) (n := n) (tN := tV) (iN := iV) (gN := gV) (nN := nN) (mN := mN) (rN := rN) (tb_K hn) (tb_B hn _ _ _) wz) ⟨by show 1 ≤ 14; decide, rowM_1⟩ (jO_mk kW kT tk.2.2.2.1 jl) nV nb
theorem s_beds {c : Nat} {H : Nat → zE} {u : zU} (hc : c < 64) (hI : jIV c H u) : jSt c 152 253 [] H u := by
  refine jIV_e hI (fun h te tO dr pa ro fi od cs ci ga r1 r2 sw th to row gu ch now tape tp pt tt ne rd rM code rc cL cR stk ask un und aS aO aW aH ac thr ins gon nO mO rO wy ah late soon yet cir bed stp oO oW win wc rn wer iK kC kep eH hA => ?_)
  subst eH
  have hA' := hA
  obtain ⟨hX, hT, hP, hR, hS, hV, hO, hC, hU, hM, hN⟩ := hA
  have hN' := hN.1
  obtain ⟨rk, rf⟩ := ro
  obtain ⟨n, rm, mt, nt, fm, vr⟩ := tO
  have hn : n ≤ 7 := hT.1.1.1
  have g : gu = nI n := hT.2
  subst g
  obtain ⟨rfl, rfl, rfl, ⟨nN, rfl⟩, ⟨mN, rfl⟩, ⟨rN, rfl⟩, m7, m8, m9, m10, m11⟩ := hM
  obtain ⟨h', k, len, m, A, B, C, op, tl, u', tot, ⟨kW, kT, kL, kG, kA, k2, kB, kE, kM⟩, nb, nV⟩ := jTot (h := h) (te := te) (tO := (n, rm, mt, nt, fm, vr)) (dr := dr) (pa := pa) (ro := (rk, rf)) (fi := fi) (od := od) (cs := cs) (ci := ci) (ga := ga) (r1 := r1) (r2 := r2) (sw := sw) (th := th) (to := to) (row := row) (gu := (nI n)) (ch := ch) (now := now) (tape := tape) (tp := tp) (pt := pt) (tt := tt) (ne := ne) (rd := rd) (rM := rM) (code := code) (rc := rc) (cL := cL) (cR := cR) (stk := stk) (ask := ask) (un := un) (und := und) (aS := aS) (aO := aO) (aW := aW) (aH := aH) (ac := ac) (thr := (fun i => nI (tV i))) (ins := (fun s => nI (iV s))) (gon := (fun s => nI (gV s))) (nO := (fun i => nI (nN i))) (mO := (fun i => nI (mN i))) (rO := (fun i => nI (rN i))) (wy := wy) (ah := ah) (late := late) (soon := soon) (yet := yet) (cir := cir) (bed := bed) (stp := stp) (oO := oO) (oW := oW) (win := win) (wc := wc) (rn := rn) (wer := wer) (iK := iK) (kC := kC) (kep := kep) hc hT hV hO hN
  have p3 := p3_pos n
  have ew := fun s hs => md_T (now := now) hn (nN, mN, rN) wy s hs
  have ea := fun s hs => ah_T (nN := (ruV now n (nN, mN, rN)).1) (mN := (ruV now n (nN, mN, rN)).2.1) (rN := (ruV now n (nN, mN, rN)).2.2) (tb_dig hn) hn ah s hs
  have eB0 : B 1 0 = lN (mTab now n 0) := by rw [kB 0 p3, kE]
  have ew0 := ew 0 p3
  have l31 : mTab now n 0 < 2147483648 := by omega
  by_cases z : mTab now n 0 = 0
  · have bz : B 1 0 = 0 := by rw [eB0, z]; rfl
    have wz : (wyV iV gV (ruV now n (nN, mN, rN)) n 7 (-1) wy) 0 = 0 := by rw [ew0, z]; rfl
    have p := fun Q => p_beds0 (d := 295) (Q := Q) (te := te) (dr := dr) (pa := pa) (rk := rk) (rf := rf) (fi := fi) (cs := cs) (ci := ci) (ga := ga) (r1 := r1) (r2 := r2) (sw := sw) (n := n) (rm := rm) (mt := mt) (nt := nt) (fm := fm) (vr := vr) tot hN'.1 bz
    exact s_ord (nN := (ruV now n (nN, mN, rN)).1) (mN := (ruV now n (nN, mN, rN)).2.1) (rN := (ruV now n (nN, mN, rN)).2.2) (wy' := (wyV iV gV (ruV now n (nN, mN, rN)) n 7 (-1) wy)) (ah' := ah) hc hA' p (fun h Q => m_beds0 (d := 234) (u := u') (Q := Q) (h := h) (th := th) (to := to) (row := row) (ch := ch) (now := now) (tape := tape) (tp := tp) (pt := pt) (tt := tt) (ne := ne) (rd := rd) (rM := rM) (code := code) (rc := rc) (cL := cL) (cR := cR) (stk := stk) (ask := ask) (un := un) (und := und) (aS := aS) (aO := aO) (aW := aW) (aH := aH) (ac := ac) (wy := wy) (ah := ah) (late := late) (soon := soon) (yet := yet) (cir := cir) (bed := bed) (stp := stp) (oO := oO) (oW := oW) (win := win) (wc := wc) (rn := rn) (wer := wer) (iK := iK) (kC := kC) (kep := kep) (n := n) (tN := tV) (iN := iV) (gN := gV) (nN := nN) (mN := mN) (rN := rN) (tb_K hn) (tb_B hn _ _ _) wz) hR (jO_mk kW kT rfl kL) nV nb
  · have y0 : 0 < mTab now n 0 := by omega
    have c0 : ¬ cTab n rm mt nt fm 0 = 0 := by rw [kE]; exact z
    have bz : ¬ B 1 0 = 0 := by rw [eB0, lN_z l31]; exact z
    have wz : ¬ (wyV iV gV (ruV now n (nN, mN, rN)) n 7 (-1) wy) 0 = 0 := by rw [ew0, lN_z l31]; exact z
    have hlen : 3 ^ n ≤ len := kT.2.2.2.1
    have tk := tl_ok k2 c0 kB hlen kL
    have jl := jTl_t k2 c0 kB hlen kL
    have qr := fun s i hi => qM_ru (now := now) (n := n) (nN, mN, rN) (s := s) (i := i) hi
    obtain ⟨e, x, x0, xl, en, c1, c2, m1, m2⟩ := bed_eq k2 z kB kA (qq := ruV now n (nN, mN, rN)) (fun s i _ hi => qr s i hi) (B 2) (wyV iV gV (ruV now n (nN, mN, rN)) n 7 (-1) wy)
    have p := fun Q => p_beds (d := 295) (Q := Q) (te := te) (dr := dr) (pa := pa) (rk := rk) (rf := rf) (fi := fi) (cs := cs) (ci := ci) (ga := ga) (r1 := r1) (r2 := r2) (sw := sw) (n := n) (rm := rm) (mt := mt) (nt := nt) (fm := fm) (vr := vr) tot hN'.1 hT.1.1 nb.1.1 kG rfl hR.1 (show x < 2147483648 by omega) l31 y0 eB0 c2
    rw [c1] at p
    have mm := fun h Q => m_beds (d := 234) (u := u') (Q := Q) (h := h) (th := th) (to := to) (row := row) (ch := ch) (now := now) (tape := tape) (tp := tp) (pt := pt) (tt := tt) (ne := ne) (rd := rd) (rM := rM) (code := code) (rc := rc) (cL := cL) (cR := cR) (stk := stk) (ask := ask) (un := un) (und := und) (aS := aS) (aO := aO) (aW := aW) (aH := aH) (ac := ac) (wy := wy) (ah := ah) (late := late) (soon := soon) (yet := yet) (cir := cir) (bed := bed) (stp := stp) (oO := oO) (oW := oW) (win := win) (wc := wc) (rn := rn) (wer := wer) (iK := iK) (kC := kC) (kep := kep) (n := n) (tN := tV) (iN := iV) (gN := gV) (nN := nN) (mN := mN) (rN := rN) (tb_K hn) (tb_B hn _ _ _) (show x < 2147483648 by omega) l31 x0 y0 ew0 m2
    rw [m1] at mm
    exact s_ord (nN := (ruV now n (nN, mN, rN)).1) (mN := (ruV now n (nN, mN, rN)).2.1) (rN := (ruV now n (nN, mN, rN)).2.2) (ah' := ah) hc hA' p mm ⟨by show 2 ≤ 14; decide, rowM_2⟩ (jO_mk kW kT rfl kL) nV nb
theorem s_sure {c : Nat} {H : Nat → zE} {u : zU} (hc : c < 64) (hI : jIV c H u) : jSt c 149 250 [] H u := by
  refine jIV_e hI (fun h te tO dr pa ro fi od cs ci ga r1 r2 sw th to row gu ch now tape tp pt tt ne rd rM code rc cL cR stk ask un und aS aO aW aH ac thr ins gon nO mO rO wy ah late soon yet cir bed stp oO oW win wc rn wer iK kC kep eH hA => ?_)
  subst eH
  have hA' := hA
  obtain ⟨hX, hT, hP, hR, hS, hV, hO, hC, hU, hM, hN⟩ := hA
  have hN' := hN.1
  obtain ⟨rk, rf⟩ := ro
  obtain ⟨n, rm, mt, nt, fm, vr⟩ := tO
  have hn : n ≤ 7 := hT.1.1.1
  have g : gu = nI n := hT.2
  subst g
  obtain ⟨rfl, rfl, rfl, ⟨nN, rfl⟩, ⟨mN, rfl⟩, ⟨rN, rfl⟩, m7, m8, m9, m10, m11⟩ := hM
  obtain ⟨h', k, len, m, A, B, C, op, tl, u', tot, ⟨kW, kT, kL, kG, kA, k2, kB, kE, kM⟩, nb, nV⟩ := jTot (h := h) (te := te) (tO := (n, rm, mt, nt, fm, vr)) (dr := dr) (pa := pa) (ro := (rk, rf)) (fi := fi) (od := od) (cs := cs) (ci := ci) (ga := ga) (r1 := r1) (r2 := r2) (sw := sw) (th := th) (to := to) (row := row) (gu := (nI n)) (ch := ch) (now := now) (tape := tape) (tp := tp) (pt := pt) (tt := tt) (ne := ne) (rd := rd) (rM := rM) (code := code) (rc := rc) (cL := cL) (cR := cR) (stk := stk) (ask := ask) (un := un) (und := und) (aS := aS) (aO := aO) (aW := aW) (aH := aH) (ac := ac) (thr := (fun i => nI (tV i))) (ins := (fun s => nI (iV s))) (gon := (fun s => nI (gV s))) (nO := (fun i => nI (nN i))) (mO := (fun i => nI (mN i))) (rO := (fun i => nI (rN i))) (wy := wy) (ah := ah) (late := late) (soon := soon) (yet := yet) (cir := cir) (bed := bed) (stp := stp) (oO := oO) (oW := oW) (win := win) (wc := wc) (rn := rn) (wer := wer) (iK := iK) (kC := kC) (kep := kep) hc hT hV hO hN
  have p3 := p3_pos n
  have ew := fun s hs => md_T (now := now) hn (nN, mN, rN) wy s hs
  have ea := fun s hs => ah_T (nN := (ruV now n (nN, mN, rN)).1) (mN := (ruV now n (nN, mN, rN)).2.1) (rN := (ruV now n (nN, mN, rN)).2.2) (tb_dig hn) hn ah s hs
  have eB0 : B 1 0 = lN (mTab now n 0) := by rw [kB 0 p3, kE]
  have ew0 := ew 0 p3
  have l31 : mTab now n 0 < 2147483648 := by omega
  by_cases z : mTab now n 0 = 0
  · have bz : B 1 0 = 0 := by rw [eB0, z]; rfl
    have wz : (wyV iV gV (ruV now n (nN, mN, rN)) n 7 (-1) wy) 0 = 0 := by rw [ew0, z]; rfl
    have p := fun Q => p_sure0 (d := 295) (Q := Q) (te := te) (dr := dr) (pa := pa) (rk := rk) (rf := rf) (fi := fi) (cs := cs) (ci := ci) (ga := ga) (r1 := r1) (r2 := r2) (sw := sw) (n := n) (rm := rm) (mt := mt) (nt := nt) (fm := fm) (vr := vr) tot hN'.1 bz
    exact s_ord (nN := (ruV now n (nN, mN, rN)).1) (mN := (ruV now n (nN, mN, rN)).2.1) (rN := (ruV now n (nN, mN, rN)).2.2) (wy' := (wyV iV gV (ruV now n (nN, mN, rN)) n 7 (-1) wy)) (ah' := ah) hc hA' p (fun h Q => m_sure0 (d := 234) (u := u') (Q := Q) (h := h) (th := th) (to := to) (row := row) (ch := ch) (now := now) (tape := tape) (tp := tp) (pt := pt) (tt := tt) (ne := ne) (rd := rd) (rM := rM) (code := code) (rc := rc) (cL := cL) (cR := cR) (stk := stk) (ask := ask) (un := un) (und := und) (aS := aS) (aO := aO) (aW := aW) (aH := aH) (ac := ac) (wy := wy) (ah := ah) (late := late) (soon := soon) (yet := yet) (cir := cir) (bed := bed) (stp := stp) (oO := oO) (oW := oW) (win := win) (wc := wc) (rn := rn) (wer := wer) (iK := iK) (kC := kC) (kep := kep) (n := n) (tN := tV) (iN := iV) (gN := gV) (nN := nN) (mN := mN) (rN := rN) (tb_K hn) (tb_B hn _ _ _) wz) hR (jO_mk kW kT rfl kL) nV nb
  · have y0 : 0 < mTab now n 0 := by omega
    have c0 : ¬ cTab n rm mt nt fm 0 = 0 := by rw [kE]; exact z
    have bz : ¬ B 1 0 = 0 := by rw [eB0, lN_z l31]; exact z
    have wz : ¬ (wyV iV gV (ruV now n (nN, mN, rN)) n 7 (-1) wy) 0 = 0 := by rw [ew0, lN_z l31]; exact z
    have hlen : 3 ^ n ≤ len := kT.2.2.2.1
    have tk := tl_ok k2 c0 kB hlen kL
    have jl := jTl_t k2 c0 kB hlen kL
    have qr := fun s i hi => qM_ru (now := now) (n := n) (nN, mN, rN) (s := s) (i := i) hi
    have hp : ∀ a b, a < n → b < n → a ≠ b → suP (tlB A B n (3 ^ n - 1) len m tl) n (B 1 0) a b = suQ iV gV (ruV now n (nN, mN, rN)) n (ahV iV gV (ruV now n (nN, mN, rN)) n ah) (wyV iV gV (ruV now n (nN, mN, rN)) n 7 (-1) wy) a b := by
      intro a b ha hb _
      unfold suP suQ
      rw [bef_eq k2 kA kG.2.2.2.1 tk.2.1 ha hb, ((mcw_T (nN := (ruV now n (nN, mN, rN)).1) (mN := (ruV now n (nN, mN, rN)).2.1) (rN := (ruV now n (nN, mN, rN)).2.2) (V := (ahV iV gV (ruV now n (nN, mN, rN)) n ah)) (W := (wyV iV gV (ruV now n (nN, mN, rN)) n 7 (-1) wy)) (T := mTab now n) (a := a) (b := b) (w := 0) (tb_dig hn) hn ha ea ew).trans (congrArg lN (gat_q ha qr))), eB0, ew0]
    obtain ⟨e1, e2⟩ := sure_R (rf := rf) (row := row) hp
    have p := fun Q => p_sure (d := 296) (Q := Q) (te := te) (dr := dr) (pa := pa) (rk := rk) (rf := rf) (fi := fi) (cs := cs) (ci := ci) (ga := ga) (r1 := r1) (r2 := r2) (sw := sw) (n := n) (rm := rm) (mt := mt) (nt := nt) (fm := fm) (vr := vr) tot hN'.1 hT.1.1 nb.1.1 kG rfl hR.1 bz
    have i14 : (sureO A B n (3 ^ n - 1) len m tl rf).1.2.1 ≤ 14 := thB_14 (suG_I hn th0 n (Nat.le_refl _))
    have e1' : (sureO A B n (3 ^ n - 1) len m tl rf).1.1 = (msuO iV gV (ruV now n (nN, mN, rN)) n (ahV iV gV (ruV now n (nN, mN, rN)) n ah) (wyV iV gV (ruV now n (nN, mN, rN)) n 7 (-1) wy) row).1 := e1
    have e2' : rowR (sureO A B n (3 ^ n - 1) len m tl rf).1.2 (msuO iV gV (ruV now n (nN, mN, rN)) n (ahV iV gV (ruV now n (nN, mN, rN)) n ah) (wyV iV gV (ruV now n (nN, mN, rN)) n 7 (-1) wy) row).2 := e2
    obtain ⟨b1, b2⟩ := sel_B (fl := (sureO A B n (3 ^ n - 1) len m tl rf).2) tk.2.2.2.1 kL jl
    rw [e1'] at p
    exact s_ord (nN := (ruV now n (nN, mN, rN)).1) (mN := (ruV now n (nN, mN, rN)).2.1) (rN := (ruV now n (nN, mN, rN)).2.2) (wy' := (wyV iV gV (ruV now n (nN, mN, rN)) n 7 (-1) wy)) (ah' := (ahV iV gV (ruV now n (nN, mN, rN)) n ah)) hc hA' p (fun h Q => m_sure (d := 234) (u := u') (Q := Q) (h := h) (th := th) (to := to) (row := row) (ch := ch) (now := now) (tape := tape) (tp := tp) (pt := pt) (tt := tt) (ne := ne) (rd := rd) (rM := rM) (code := code) (rc := rc) (cL := cL) (cR := cR) (stk := stk) (ask := ask) (un := un) (und := und) (aS := aS) (aO := aO) (aW := aW) (aH := aH) (ac := ac) (wy := wy) (ah := ah) (late := late) (soon := soon) (yet := yet) (cir := cir) (bed := bed) (stp := stp) (oO := oO) (oW := oW) (win := win) (wc := wc) (rn := rn) (wer := wer) (iK := iK) (kC := kC) (kep := kep) (n := n) (tN := tV) (iN := iV) (gN := gV) (nN := nN) (mN := mN) (rN := rN) (tb_K hn) (tb_B hn _ _ _) wz) ⟨i14, rowM_R e2'⟩ (jO_mk kW kT b1 b2) nV nb
theorem s_known {c : Nat} {H : Nat → zE} {u : zU} (hc : c < 64) (hI : jIV c H u) : jSt c 150 251 [] H u := by
  refine jIV_e hI (fun h te tO dr pa ro fi od cs ci ga r1 r2 sw th to row gu ch now tape tp pt tt ne rd rM code rc cL cR stk ask un und aS aO aW aH ac thr ins gon nO mO rO wy ah late soon yet cir bed stp oO oW win wc rn wer iK kC kep eH hA => ?_)
  subst eH
  have hA' := hA
  obtain ⟨hX, hT, hP, hR, hS, hV, hO, hC, hU, hM, hN⟩ := hA
  have hN' := hN.1
  obtain ⟨rk, rf⟩ := ro
  obtain ⟨n, rm, mt, nt, fm, vr⟩ := tO
  have hn : n ≤ 7 := hT.1.1.1
  have g : gu = nI n := hT.2
  subst g
  obtain ⟨rfl, rfl, rfl, ⟨nN, rfl⟩, ⟨mN, rfl⟩, ⟨rN, rfl⟩, m7, m8, m9, m10, m11⟩ := hM
  obtain ⟨h', k, len, m, A, B, C, op, tl, u', tot, ⟨kW, kT, kL, kG, kA, k2, kB, kE, kM⟩, nb, nV⟩ := jTot (h := h) (te := te) (tO := (n, rm, mt, nt, fm, vr)) (dr := dr) (pa := pa) (ro := (rk, rf)) (fi := fi) (od := od) (cs := cs) (ci := ci) (ga := ga) (r1 := r1) (r2 := r2) (sw := sw) (th := th) (to := to) (row := row) (gu := (nI n)) (ch := ch) (now := now) (tape := tape) (tp := tp) (pt := pt) (tt := tt) (ne := ne) (rd := rd) (rM := rM) (code := code) (rc := rc) (cL := cL) (cR := cR) (stk := stk) (ask := ask) (un := un) (und := und) (aS := aS) (aO := aO) (aW := aW) (aH := aH) (ac := ac) (thr := (fun i => nI (tV i))) (ins := (fun s => nI (iV s))) (gon := (fun s => nI (gV s))) (nO := (fun i => nI (nN i))) (mO := (fun i => nI (mN i))) (rO := (fun i => nI (rN i))) (wy := wy) (ah := ah) (late := late) (soon := soon) (yet := yet) (cir := cir) (bed := bed) (stp := stp) (oO := oO) (oW := oW) (win := win) (wc := wc) (rn := rn) (wer := wer) (iK := iK) (kC := kC) (kep := kep) hc hT hV hO hN
  have p3 := p3_pos n
  have ew := fun s hs => md_T (now := now) hn (nN, mN, rN) wy s hs
  have ea := fun s hs => ah_T (nN := (ruV now n (nN, mN, rN)).1) (mN := (ruV now n (nN, mN, rN)).2.1) (rN := (ruV now n (nN, mN, rN)).2.2) (tb_dig hn) hn ah s hs
  have eB0 : B 1 0 = lN (mTab now n 0) := by rw [kB 0 p3, kE]
  have ew0 := ew 0 p3
  have l31 : mTab now n 0 < 2147483648 := by omega
  by_cases z : mTab now n 0 = 0
  · have bz : B 1 0 = 0 := by rw [eB0, z]; rfl
    have wz : (wyV iV gV (ruV now n (nN, mN, rN)) n 7 (-1) wy) 0 = 0 := by rw [ew0, z]; rfl
    have p := fun Q => p_known0 (d := 295) (Q := Q) (te := te) (dr := dr) (pa := pa) (rk := rk) (rf := rf) (fi := fi) (cs := cs) (ci := ci) (ga := ga) (r1 := r1) (r2 := r2) (sw := sw) (n := n) (rm := rm) (mt := mt) (nt := nt) (fm := fm) (vr := vr) tot hN'.1 bz
    exact s_ord (nN := (ruV now n (nN, mN, rN)).1) (mN := (ruV now n (nN, mN, rN)).2.1) (rN := (ruV now n (nN, mN, rN)).2.2) (wy' := (wyV iV gV (ruV now n (nN, mN, rN)) n 7 (-1) wy)) (ah' := ah) hc hA' p (fun h Q => m_known0 (d := 234) (u := u') (Q := Q) (h := h) (th := th) (to := to) (row := row) (ch := ch) (now := now) (tape := tape) (tp := tp) (pt := pt) (tt := tt) (ne := ne) (rd := rd) (rM := rM) (code := code) (rc := rc) (cL := cL) (cR := cR) (stk := stk) (ask := ask) (un := un) (und := und) (aS := aS) (aO := aO) (aW := aW) (aH := aH) (ac := ac) (wy := wy) (ah := ah) (late := late) (soon := soon) (yet := yet) (cir := cir) (bed := bed) (stp := stp) (oO := oO) (oW := oW) (win := win) (wc := wc) (rn := rn) (wer := wer) (iK := iK) (kC := kC) (kep := kep) (n := n) (tN := tV) (iN := iV) (gN := gV) (nN := nN) (mN := mN) (rN := rN) (tb_K hn) (tb_B hn _ _ _) wz) hR (jO_mk kW kT rfl kL) nV nb
  · have y0 : 0 < mTab now n 0 := by omega
    have c0 : ¬ cTab n rm mt nt fm 0 = 0 := by rw [kE]; exact z
    have bz : ¬ B 1 0 = 0 := by rw [eB0, lN_z l31]; exact z
    have wz : ¬ (wyV iV gV (ruV now n (nN, mN, rN)) n 7 (-1) wy) 0 = 0 := by rw [ew0, lN_z l31]; exact z
    have hlen : 3 ^ n ≤ len := kT.2.2.2.1
    have tk := tl_ok k2 c0 kB hlen kL
    have jl := jTl_t k2 c0 kB hlen kL
    have qr := fun s i hi => qM_ru (now := now) (n := n) (nN, mN, rN) (s := s) (i := i) hi
    have hV : ∀ a b, a < b → b < n → knV (tlB A B n (3 ^ n - 1) len m tl) n a b = lN (gatN (qM now n) (mTab now n) n a (fun s => decide (dg s b = 1)) + gatN (qM now n) (mTab now n) n b (fun s => decide (dg s a = 1))) ∧ mwV iV gV (ruV now n (nN, mN, rN)) n (ahV iV gV (ruV now n (nN, mN, rN)) n ah) (wyV iV gV (ruV now n (nN, mN, rN)) n 7 (-1) wy) a b = lN (gatN (qM now n) (mTab now n) n a (fun s => decide (dg s b = 1)) + gatN (qM now n) (mTab now n) n b (fun s => decide (dg s a = 1))) ∧ gatN (qM now n) (mTab now n) n a (fun s => decide (dg s b = 1)) + gatN (qM now n) (mTab now n) n b (fun s => decide (dg s a = 1)) ≤ mTab now n 0 := by
      intro a b hab hb
      have ha : a < n := by omega
      exact ⟨met_eq k2 kA kG.2.2.2.1 tk.2.2.1 ha hb, by unfold mwV; rw [((mcw_T (nN := (ruV now n (nN, mN, rN)).1) (mN := (ruV now n (nN, mN, rN)).2.1) (rN := (ruV now n (nN, mN, rN)).2.2) (V := (ahV iV gV (ruV now n (nN, mN, rN)) n ah)) (W := (wyV iV gV (ruV now n (nN, mN, rN)) n 7 (-1) wy)) (T := mTab now n) (a := a) (b := b) (w := 1) (tb_dig hn) hn ha ea ew).trans (congrArg lN (gat_q ha qr))), ((mcw_T (nN := (ruV now n (nN, mN, rN)).1) (mN := (ruV now n (nN, mN, rN)).2.1) (rN := (ruV now n (nN, mN, rN)).2.2) (V := (ahV iV gV (ruV now n (nN, mN, rN)) n ah)) (W := (wyV iV gV (ruV now n (nN, mN, rN)) n 7 (-1) wy)) (T := mTab now n) (a := b) (b := a) (w := 1) (tb_dig hn) hn hb ea ew).trans (congrArg lN (gat_q hb qr))), lN_add], metN_le k2.2.2.2.1 k2.2.2.2.2.2.1 ha hb⟩
    have ho : ∀ a b, a < b → b < n → (opnB mt nt a b = true ↔ now (7 * a + b) = 2) := fun a b hab hb => opn_now hT.1.2.1 hT.1.2.2 (by omega) hb (by omega)
    obtain ⟨e1, e2⟩ := known_R (opn := opnB mt nt) (now := now) (V := knV (tlB A B n (3 ^ n - 1) len m tl) n) (V' := mwV iV gV (ruV now n (nN, mN, rN)) n (ahV iV gV (ruV now n (nN, mN, rN)) n ah) (wyV iV gV (ruV now n (nN, mN, rN)) n 7 (-1) wy)) (all := B 1 0) (all' := (wyV iV gV (ruV now n (nN, mN, rN)) n 7 (-1) wy) 0) (rf := rf) (row := row) ho (fun a b hab hb => ⟨(hV a b hab hb).1, (hV a b hab hb).2.1, by have := (hV a b hab hb).2.2; omega⟩) (by rw [eB0, ew0])
    have p := fun Q => p_known (d := 296) (Q := Q) (te := te) (dr := dr) (pa := pa) (rk := rk) (rf := rf) (fi := fi) (cs := cs) (ci := ci) (ga := ga) (r1 := r1) (r2 := r2) (sw := sw) (n := n) (rm := rm) (mt := mt) (nt := nt) (fm := fm) (vr := vr) tot hN'.1 hT.1.1 nb.1.1 kG rfl hR.1 bz
    have i14 : (knownO mt nt A B n (3 ^ n - 1) len m tl rf).1.2.1 ≤ 14 := kn_14
    have e1' : (knownO mt nt A B n (3 ^ n - 1) len m tl rf).1.1 = (mknO now iV gV (ruV now n (nN, mN, rN)) n (ahV iV gV (ruV now n (nN, mN, rN)) n ah) (wyV iV gV (ruV now n (nN, mN, rN)) n 7 (-1) wy) row).1 := e1
    have e2' : rowR (knownO mt nt A B n (3 ^ n - 1) len m tl rf).1.2 (mknO now iV gV (ruV now n (nN, mN, rN)) n (ahV iV gV (ruV now n (nN, mN, rN)) n ah) (wyV iV gV (ruV now n (nN, mN, rN)) n 7 (-1) wy) row).2 := e2
    obtain ⟨b1, b2⟩ := sel_B (fl := (knownO mt nt A B n (3 ^ n - 1) len m tl rf).2) tk.2.2.2.1 kL jl
    rw [e1'] at p
    exact s_ord (nN := (ruV now n (nN, mN, rN)).1) (mN := (ruV now n (nN, mN, rN)).2.1) (rN := (ruV now n (nN, mN, rN)).2.2) (wy' := (wyV iV gV (ruV now n (nN, mN, rN)) n 7 (-1) wy)) (ah' := (ahV iV gV (ruV now n (nN, mN, rN)) n ah)) hc hA' p (fun h Q => m_known (d := 234) (u := u') (Q := Q) (h := h) (th := th) (to := to) (row := row) (ch := ch) (now := now) (tape := tape) (tp := tp) (pt := pt) (tt := tt) (ne := ne) (rd := rd) (rM := rM) (code := code) (rc := rc) (cL := cL) (cR := cR) (stk := stk) (ask := ask) (un := un) (und := und) (aS := aS) (aO := aO) (aW := aW) (aH := aH) (ac := ac) (wy := wy) (ah := ah) (late := late) (soon := soon) (yet := yet) (cir := cir) (bed := bed) (stp := stp) (oO := oO) (oW := oW) (win := win) (wc := wc) (rn := rn) (wer := wer) (iK := iK) (kC := kC) (kep := kep) (n := n) (tN := tV) (iN := iV) (gN := gV) (nN := nN) (mN := mN) (rN := rN) (tb_K hn) (tb_B hn _ _ _) wz) ⟨i14, rowM_R e2'⟩ (jO_mk kW kT b1 b2) nV nb
theorem s_asks {c : Nat} {H : Nat → zE} {u : zU} (hc : c < 64) (hI : jIV c H u) : jSt c 166 279 [] H u := by
  refine jIV_e hI (fun h te tO dr pa ro fi od cs ci ga r1 r2 sw th to row gu ch now tape tp pt tt ne rd rM code rc cL cR stk ask un und aS aO aW aH ac thr ins gon nO mO rO wy ah late soon yet cir bed stp oO oW win wc rn wer iK kC kep eH hA => ?_)
  subst eH
  have hA' := hA
  obtain ⟨hX, hT, hP, hR, hS, hV, hO, hC, hU, hM, hN⟩ := hA
  have hN' := hN.1
  obtain ⟨rk, rf⟩ := ro
  obtain ⟨n, rm, mt, nt, fm, vr⟩ := tO
  have hn : n ≤ 7 := hT.1.1.1
  have g : gu = nI n := hT.2
  subst g
  obtain ⟨rfl, rfl, rfl, ⟨nN, rfl⟩, ⟨mN, rfl⟩, ⟨rN, rfl⟩, m7, m8, m9, m10, m11⟩ := hM
  obtain ⟨h', k, len, m, A, B, C, op, tl, u', tot, ⟨kW, kT, kL, kG, kA, k2, kB, kE, kM⟩, nb, nV⟩ := jTot (h := h) (te := te) (tO := (n, rm, mt, nt, fm, vr)) (dr := dr) (pa := pa) (ro := (rk, rf)) (fi := fi) (od := od) (cs := cs) (ci := ci) (ga := ga) (r1 := r1) (r2 := r2) (sw := sw) (th := th) (to := to) (row := row) (gu := (nI n)) (ch := ch) (now := now) (tape := tape) (tp := tp) (pt := pt) (tt := tt) (ne := ne) (rd := rd) (rM := rM) (code := code) (rc := rc) (cL := cL) (cR := cR) (stk := stk) (ask := ask) (un := un) (und := und) (aS := aS) (aO := aO) (aW := aW) (aH := aH) (ac := ac) (thr := (fun i => nI (tV i))) (ins := (fun s => nI (iV s))) (gon := (fun s => nI (gV s))) (nO := (fun i => nI (nN i))) (mO := (fun i => nI (mN i))) (rO := (fun i => nI (rN i))) (wy := wy) (ah := ah) (late := late) (soon := soon) (yet := yet) (cir := cir) (bed := bed) (stp := stp) (oO := oO) (oW := oW) (win := win) (wc := wc) (rn := rn) (wer := wer) (iK := iK) (kC := kC) (kep := kep) hc hT hV hO hN
  have p3 := p3_pos n
  have ew := fun s hs => md_T (now := now) hn (nN, mN, rN) wy s hs
  have ea := fun s hs => ah_T (nN := (ruV now n (nN, mN, rN)).1) (mN := (ruV now n (nN, mN, rN)).2.1) (rN := (ruV now n (nN, mN, rN)).2.2) (tb_dig hn) hn ah s hs
  have eB0 : B 1 0 = lN (mTab now n 0) := by rw [kB 0 p3, kE]
  have ew0 := ew 0 p3
  have l31 : mTab now n 0 < 2147483648 := by omega
  by_cases z : mTab now n 0 = 0
  · have bz : B 1 0 = 0 := by rw [eB0, z]; rfl
    have wz : (wyV iV gV (ruV now n (nN, mN, rN)) n 7 (-1) wy) 0 = 0 := by rw [ew0, z]; rfl
    have p := fun Q => p_asks0 (d := 295) (Q := Q) (te := te) (dr := dr) (pa := pa) (rk := rk) (rf := rf) (fi := fi) (cs := cs) (ci := ci) (ga := ga) (r1 := r1) (r2 := r2) (sw := sw) (n := n) (rm := rm) (mt := mt) (nt := nt) (fm := fm) (vr := vr) tot hN'.1 bz
    exact s_ord (nN := (ruV now n (nN, mN, rN)).1) (mN := (ruV now n (nN, mN, rN)).2.1) (rN := (ruV now n (nN, mN, rN)).2.2) (wy' := (wyV iV gV (ruV now n (nN, mN, rN)) n 7 (-1) wy)) (ah' := ah) hc hA' p (fun h Q => m_asks0 (d := 234) (u := u') (Q := Q) (h := h) (th := th) (to := to) (row := row) (ch := ch) (now := now) (tape := tape) (tp := tp) (pt := pt) (tt := tt) (ne := ne) (rd := rd) (rM := rM) (code := code) (rc := rc) (cL := cL) (cR := cR) (stk := stk) (ask := ask) (un := un) (und := und) (aS := aS) (aO := aO) (aW := aW) (aH := aH) (ac := ac) (wy := wy) (ah := ah) (late := late) (soon := soon) (yet := yet) (cir := cir) (bed := bed) (stp := stp) (oO := oO) (oW := oW) (win := win) (wc := wc) (rn := rn) (wer := wer) (iK := iK) (kC := kC) (kep := kep) (n := n) (tN := tV) (iN := iV) (gN := gV) (nN := nN) (mN := mN) (rN := rN) (tb_K hn) (tb_B hn) wz) hR (jO_mk kW kT rfl kL) nV nb
  · have y0 : 0 < mTab now n 0 := by omega
    have c0 : ¬ cTab n rm mt nt fm 0 = 0 := by rw [kE]; exact z
    have bz : ¬ B 1 0 = 0 := by rw [eB0, lN_z l31]; exact z
    have wz : ¬ (wyV iV gV (ruV now n (nN, mN, rN)) n 7 (-1) wy) 0 = 0 := by rw [ew0, lN_z l31]; exact z
    have hlen : 3 ^ n ≤ len := kT.2.2.2.1
    have tk := tl_ok k2 c0 kB hlen kL
    have jl := jTl_t k2 c0 kB hlen kL
    have qr := fun s i hi => qM_ru (now := now) (n := n) (nN, mN, rN) (s := s) (i := i) hi
    have hV : ∀ a b, a < b → b < n → knV (tlB A B n (3 ^ n - 1) len m tl) n a b = lN (gatN (qM now n) (mTab now n) n a (fun s => decide (dg s b = 1)) + gatN (qM now n) (mTab now n) n b (fun s => decide (dg s a = 1))) ∧ mwV iV gV (ruV now n (nN, mN, rN)) n (ahV iV gV (ruV now n (nN, mN, rN)) n ah) (wyV iV gV (ruV now n (nN, mN, rN)) n 7 (-1) wy) a b = lN (gatN (qM now n) (mTab now n) n a (fun s => decide (dg s b = 1)) + gatN (qM now n) (mTab now n) n b (fun s => decide (dg s a = 1))) ∧ gatN (qM now n) (mTab now n) n a (fun s => decide (dg s b = 1)) + gatN (qM now n) (mTab now n) n b (fun s => decide (dg s a = 1)) ≤ mTab now n 0 := by
      intro a b hab hb
      have ha : a < n := by omega
      exact ⟨met_eq k2 kA kG.2.2.2.1 tk.2.2.1 ha hb, by unfold mwV; rw [((mcw_T (nN := (ruV now n (nN, mN, rN)).1) (mN := (ruV now n (nN, mN, rN)).2.1) (rN := (ruV now n (nN, mN, rN)).2.2) (V := (ahV iV gV (ruV now n (nN, mN, rN)) n ah)) (W := (wyV iV gV (ruV now n (nN, mN, rN)) n 7 (-1) wy)) (T := mTab now n) (a := a) (b := b) (w := 1) (tb_dig hn) hn ha ea ew).trans (congrArg lN (gat_q ha qr))), ((mcw_T (nN := (ruV now n (nN, mN, rN)).1) (mN := (ruV now n (nN, mN, rN)).2.1) (rN := (ruV now n (nN, mN, rN)).2.2) (V := (ahV iV gV (ruV now n (nN, mN, rN)) n ah)) (W := (wyV iV gV (ruV now n (nN, mN, rN)) n 7 (-1) wy)) (T := mTab now n) (a := b) (b := a) (w := 1) (tb_dig hn) hn hb ea ew).trans (congrArg lN (gat_q hb qr))), lN_add], metN_le k2.2.2.2.1 k2.2.2.2.2.2.1 ha hb⟩
    have ho : ∀ a b, a < b → b < n → (opnB mt nt a b = true ↔ now (7 * a + b) = 2) := fun a b hab hb => opn_now hT.1.2.1 hT.1.2.2 (by omega) hb (by omega)
    have mm := fun h Q => m_asks (d := 234) (u := u') (Q := Q) (h := h) (th := th) (to := to) (row := row) (ch := ch) (now := now) (tape := tape) (tp := tp) (pt := pt) (tt := tt) (ne := ne) (rd := rd) (rM := rM) (code := code) (rc := rc) (cL := cL) (cR := cR) (stk := stk) (ask := ask) (un := un) (und := und) (aS := aS) (aO := aO) (aW := aW) (aH := aH) (ac := ac) (wy := wy) (ah := ah) (late := late) (soon := soon) (yet := yet) (cir := cir) (bed := bed) (stp := stp) (oO := oO) (oW := oW) (win := win) (wc := wc) (rn := rn) (wer := wer) (iK := iK) (kC := kC) (kep := kep) (n := n) (tN := tV) (iN := iV) (gN := gV) (nN := nN) (mN := mN) (rN := rN) (tb_K hn) (tb_B hn) rfl rfl wz rfl rfl
    rw [ew0] at mm
    have hp2 : psum n mt nt 2 n = 2 * (itr (lkA now n) (0, nN, mN) n).1 := (ps_eq hT.1.2.1 hT.1.2.2 (v := 2) (by decide) n (Nat.le_refl _)).symm.trans (lk_cnt hT.1.2.1 hT.1.2.2 nN mN)
    have ar := asks_R (n := n) (opn := opnB mt nt) (now := now) (V := knV (tlB A B n (3 ^ n - 1) len m tl) n) (V' := mwV iV gV (ruV now n (nN, mN, rN)) n (ahV iV gV (ruV now n (nN, mN, rN)) n ah) (wyV iV gV (ruV now n (nN, mN, rN)) n 7 (-1) wy)) (y := mTab now n 0) (ro := (rk, rf)) (to := to) (row := row) (by omega) ho hV hR.2
    obtain ⟨b1, b2⟩ := sel_B (fl := (asksO mt nt A B n (3 ^ n - 1) len m tl (rk, rf)).2) tk.2.2.2.1 kL jl
    by_cases pz : psum n mt nt 2 n / 2 = 0
    · have c00 : (itr (lkA now n) (0, nN, mN) n).1 = 0 := by omega
      have na := num_all hT.1.2.1 hT.1.2.2 (fun _ => 0) nN mN n (Nat.le_refl _)
      have no : ∀ a b, a < b → b < n → ¬ now (7 * a + b) = 2 := by
        intro a b hab hb z2
        obtain ⟨i, i1, -⟩ := (na.2.1 a b hab hb (by omega)).1 ((ho a b hab hb).mpr z2)
        rw [c00] at i1
        exact absurd i1 (Nat.not_lt_zero _)
      have p := fun Q => p_asks1 (d := 295) (Q := Q) (te := te) (dr := dr) (pa := pa) (rk := rk) (rf := rf) (fi := fi) (cs := cs) (ci := ci) (ga := ga) (r1 := r1) (r2 := r2) (sw := sw) (n := n) (rm := rm) (mt := mt) (nt := nt) (fm := fm) (vr := vr) tot hN'.1 hT.1.1 bz pz
      simp only [ak_no no] at mm
      exact s_ord (nN := (ruV now n (nN, mN, rN)).1) (mN := (ruV now n (nN, mN, rN)).2.1) (rN := (ruV now n (nN, mN, rN)).2.2) (wy' := (wyV iV gV (ruV now n (nN, mN, rN)) n 7 (-1) wy)) (ah' := (ahV iV gV (ruV now n (nN, mN, rN)) n ah)) hc hA' p mm hR (jO_mk kW kT rfl kL) nV nb
    · have p := fun Q => p_asks (d := 295) (Q := Q) (te := te) (dr := dr) (pa := pa) (rk := rk) (rf := rf) (fi := fi) (cs := cs) (ci := ci) (ga := ga) (r1 := r1) (r2 := r2) (sw := sw) (n := n) (rm := rm) (mt := mt) (nt := nt) (fm := fm) (vr := vr) tot hN'.1 hT.1.1 nb.1.1 kG rfl hR.1 bz pz
      rcases ar with ⟨zz, r1', r2', r3'⟩ | ⟨-, no⟩
      · have q1 : (asksO mt nt A B n (3 ^ n - 1) len m tl (rk, rf)).1.1 = lN zz := by
          unfold asksO
          rw [eB0]
          exact r1'
        have q3 : rowM (asksO mt nt A B n (3 ^ n - 1) len m tl (rk, rf)).1.2 (itr (akN now (mwV iV gV (ruV now n (nN, mN, rN)) n (ahV iV gV (ruV now n (nN, mN, rN)) n ah) (wyV iV gV (ruV now n (nN, mN, rN)) n 7 (-1) wy)) (lN (mTab now n 0)) n) (-2, to, row) n).2.1 (itr (akN now (mwV iV gV (ruV now n (nN, mN, rN)) n (ahV iV gV (ruV now n (nN, mN, rN)) n ah) (wyV iV gV (ruV now n (nN, mN, rN)) n 7 (-1) wy)) (lN (mTab now n 0)) n) (-2, to, row) n).2.2 := by
          unfold asksO
          rw [eB0]
          exact r3'
        rw [q1, ← r2'] at p
        exact s_ord (nN := (ruV now n (nN, mN, rN)).1) (mN := (ruV now n (nN, mN, rN)).2.1) (rN := (ruV now n (nN, mN, rN)).2.2) (wy' := (wyV iV gV (ruV now n (nN, mN, rN)) n 7 (-1) wy)) (ah' := (ahV iV gV (ruV now n (nN, mN, rN)) n ah)) hc hA' p mm ⟨as_14 hR.1, q3⟩ (jO_mk kW kT b1 b2) nV nb
      · exfalso
        have e0 : itr (lkA now n) (0, nN, mN) n = (0, nN, mN) := lk_no (fun a b hab hb z2 => by have := (ho a b hab hb).mpr z2; rw [no a b hab hb] at this; exact absurd this (by decide))
        rw [e0] at hp2
        exact pz (by rw [hp2]; show 2 * 0 / 2 = 0; decide)

