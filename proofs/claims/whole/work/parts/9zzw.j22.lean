/-! step: the fewest lies -/
theorem ldV_lt {n : Nat} {rm mt nt : Nat → Nat} {fm : Bool} {vr : Int32} {ma wi wg : Nat → Nat} (hT : oldT (n, rm, mt, nt, fm, vr)) (h1 : ∀ i, ma i < 128) (h2 : ∀ i, wi i < 128) (h3 : ∀ i, wg i < 128) : (∀ i, (ldV n rm mt nt fm ma wi wg).1 i < 128) ∧ (∀ i, (ldV n rm mt nt fm ma wi wg).2.1 i < 128) ∧ ∀ i, (ldV n rm mt nt fm ma wi wg).2.2 i < 128 := by
  refine itr_inv (N := n) (f := ldF n rm mt nt fm) (fun _ (q : (Nat → Nat) × (Nat → Nat) × (Nat → Nat)) => (∀ i, q.1 i < 128) ∧ (∀ i, q.2.1 i < 128) ∧ ∀ i, q.2.2 i < 128) ⟨h1, h2, h3⟩ (fun g q _ hq => ?_) n (Nat.le_refl _)
  have zl : ∀ {f : Nat → Nat} {x : Nat}, (∀ i, f i < 128) → x < 128 → ∀ i, z_up f g x i < 128 := by
    intro f x hf hx i
    by_cases e : i = g
    · rw [e, zup_eq]; exact hx
    · rw [zup_ne _ _ e]; exact hf i
  exact ⟨zl hq.1 (matesOf_lt hT.1 g), zl hq.2.1 (hT.2.2.2 g), zl hq.2.2 (hT.2.2.1 g)⟩
theorem lies_eq {n : Nat} {A : Nat → Nat → Nat} {rm mt nt : Nat → Nat} {fm : Bool} {vr : Int32} {now : Nat → Int32} (hT : oldT (n, rm, mt, nt, fm, vr)) (hg : gdT n mt nt) (hR : nowR n rm mt nt fm now) (kA : digA n A) (ma wi wg : Nat → Nat) (q : lrT) (wo co0 yet : Nat → Int32) (rf row : Nat → Int64) :
    pthG (liB (ldB iV gV (itr lzF ((ruV now n q).1, (ruV now n q).2.1) n).1 (itr lzF ((ruV now n q).1, (ruV now n q).2.1) n).2 (ruV now n q).2.2) (wrV now n iV gV) (yV (ldB iV gV (itr lzF ((ruV now n q).1, (ruV now n q).2.1) n).1 (itr lzF ((ruV now n q).1, (ruV now n q).2.1) n).2 (ruV now n q).2.2) (wrV now n iV gV) n yet)) n (3 ^ n - 1) (2 * n) 0 ∧ lieC A wo n (3 ^ n - 1) (ldV n rm mt nt fm ma wi wg) co0 0 = yV (ldB iV gV (itr lzF ((ruV now n q).1, (ruV now n q).2.1) n).1 (itr lzF ((ruV now n q).1, (ruV now n q).2.1) n).2 (ruV now n q).2.2) (wrV now n iV gV) n yet 0 ∧ jR (itr (toS (prV true A wo (ldV n rm mt nt fm ma wi wg).2.1 (ldV n rm mt nt fm ma wi wg).2.2) (lieC A wo n (3 ^ n - 1) (ldV n rm mt nt fm ma wi wg) co0) (fun s => evV true A (ldV n rm mt nt fm ma wi wg).1 n s) A n) (0, 0, rf) (2 * n)).2 (nI (pthR (liB (ldB iV gV (itr lzF ((ruV now n q).1, (ruV now n q).2.1) n).1 (itr lzF ((ruV now n q).1, (ruV now n q).2.1) n).2 (ruV now n q).2.2) (wrV now n iV gV) (yV (ldB iV gV (itr lzF ((ruV now n q).1, (ruV now n q).2.1) n).1 (itr lzF ((ruV now n q).1, (ruV now n q).2.1) n).2 (ruV now n q).2.2) (wrV now n iV gV) n yet)) n (3 ^ n - 1) (2 * n) 0 (0, row)).1) (pthR (liB (ldB iV gV (itr lzF ((ruV now n q).1, (ruV now n q).2.1) n).1 (itr lzF ((ruV now n q).1, (ruV now n q).2.1) n).2 (ruV now n q).2.2) (wrV now n iV gV) (yV (ldB iV gV (itr lzF ((ruV now n q).1, (ruV now n q).2.1) n).1 (itr lzF ((ruV now n q).1, (ruV now n q).2.1) n).2 (ruV now n q).2.2) (wrV now n iV gV) n yet)) n (3 ^ n - 1) (2 * n) 0 (0, row)).2 := by
  have t1 := hg.1
  have p3 := p3_pos n
  have ug := us_lie (wo := wo) (z1 := (itr lzF ((ruV now n q).1, (ruV now n q).2.1) n).1) (z2 := (itr lzF ((ruV now n q).1, (ruV now n q).2.1) n).2) (rN := (ruV now n q).2.2) (ma := (ldV n rm mt nt fm ma wi wg).1) (wi := (ldV n rm mt nt fm ma wi wg).2.1) (wg := (ldV n rm mt nt fm ma wi wg).2.2) hg hR hT.2.1 kA (fun i hi => (ld_at n i hi).1) (fun i hi => (ld_at n i hi).2.1) (fun i hi => (ld_at n i hi).2.2) (fun i hi => lz_at n i hi) (fun i hi => (ruV_at q hi).2.2)
  have lc := lc_mk (n := n) (pr := prV true A wo (ldV n rm mt nt fm ma wi wg).2.1 (ldV n rm mt nt fm ma wi wg).2.2) (ev := fun s => evV true A (ldV n rm mt nt fm ma wi wg).1 n s) co0
  have lm := lm_mk (n := n) (wt := wrV now n iV gV) (cn := ldB iV gV (itr lzF ((ruV now n q).1, (ruV now n q).2.1) n).1 (itr lzF ((ruV now n q).1, (ruV now n q).2.1) n).2 (ruV now n q).2.2) yet
  have le := least_eq t1 ug lc lm 0 p3 trivial
  have pm := path_mn t1 ug lc lm (A := A) (fun s hs i hi => (kA.2.2 s hs i (by omega)).1) (cp := ldB iV gV (itr lzF ((ruV now n q).1, (ruV now n q).2.1) n).1 (itr lzF ((ruV now n q).1, (ruV now n q).2.1) n).2 (ruV now n q).2.2) ug.2.2.1 (P := liB (ldB iV gV (itr lzF ((ruV now n q).1, (ruV now n q).2.1) n).1 (itr lzF ((ruV now n q).1, (ruV now n q).2.1) n).2 (ruV now n q).2.2) (wrV now n iV gV) (yV (ldB iV gV (itr lzF ((ruV now n q).1, (ruV now n q).2.1) n).1 (itr lzF ((ruV now n q).1, (ruV now n q).2.1) n).2 (ruV now n q).2.2) (wrV now n iV gV) n yet)) (fun s e => rfl)
  have pe := path_eq (G := fun _ => True) trivial pm rf row
  refine ⟨pe.1, le.1, ?_, ?_, ?_⟩
  · exact Nat.le_trans (Nat.le_of_eq pe.2.1) (by omega)
  · exact congrArg nI (pe.2.1.trans pe.2.2.1.symm)
  · intro i hi
    have hi' : i < 2 * n := Nat.lt_of_lt_of_le hi (Nat.le_of_eq pe.2.1)
    exact (pe.2.2.2 i hi').symm
theorem s_lies {c : Nat} {H : Nat → zE} {u : zU} (hc : c < 64) (hI : jIV c H u) : jSt c 158 262 [] H u := by
  refine jIV_e hI (fun h te tO dr pa ro fi od cs ci ga r1 r2 sw th to row gu ch now tape tp pt tt ne rd rM code rc cL cR stk ask un und aS aO aW aH ac thr ins gon nO mO rO wy ah late soon yet cir bed stp oO oW win wc rn wer iK kC kep eH hA => ?_)
  subst eH
  have hA' := hA
  obtain ⟨hX, hT, hP, hR, hS, hV, hO, hC, hU, hM, hN⟩ := hA
  have hN' := hN.1
  obtain ⟨rk, rf⟩ := ro
  obtain ⟨K, cl, co, wo, tH, ma, wi, wg, ly⟩ := cs
  obtain ⟨n, rm, mt, nt, fm, vr⟩ := tO
  have hn : n ≤ 7 := hT.1.1.1
  have g : gu = nI n := hT.2
  subst g
  obtain ⟨rfl, rfl, rfl, ⟨nN, rfl⟩, ⟨mN, rfl⟩, ⟨rN, rfl⟩, m7, m8, m9, m10, m11⟩ := hM
  obtain ⟨h', k, len, m, A, B, C, op, tl, u', tot, ⟨kW, kT, kL, kG, kA, k2, kB, kE, kM⟩, nb, nV⟩ := jTot (h := h) (te := te) (tO := (n, rm, mt, nt, fm, vr)) (dr := dr) (pa := pa) (ro := (rk, rf)) (fi := fi) (od := od) (cs := (K, cl, co, wo, tH, ma, wi, wg, ly)) (ci := ci) (ga := ga) (r1 := r1) (r2 := r2) (sw := sw) (th := th) (to := to) (row := row) (gu := (nI n)) (ch := ch) (now := now) (tape := tape) (tp := tp) (pt := pt) (tt := tt) (ne := ne) (rd := rd) (rM := rM) (code := code) (rc := rc) (cL := cL) (cR := cR) (stk := stk) (ask := ask) (un := un) (und := und) (aS := aS) (aO := aO) (aW := aW) (aH := aH) (ac := ac) (thr := (fun i => nI (tV i))) (ins := (fun s => nI (iV s))) (gon := (fun s => nI (gV s))) (nO := (fun i => nI (nN i))) (mO := (fun i => nI (mN i))) (rO := (fun i => nI (rN i))) (wy := wy) (ah := ah) (late := late) (soon := soon) (yet := yet) (cir := cir) (bed := bed) (stp := stp) (oO := oO) (oW := oW) (win := win) (wc := wc) (rn := rn) (wer := wer) (iK := iK) (kC := kC) (kep := kep) hc hT hV hO hN
  have p3 := p3_pos n
  have ew := fun s hs => md_T (now := now) hn (nN, mN, rN) wy s hs
  have ea := fun s hs => ah_T (nN := (ruV now n (nN, mN, rN)).1) (mN := (ruV now n (nN, mN, rN)).2.1) (rN := (ruV now n (nN, mN, rN)).2.2) (tb_dig hn) hn ah s hs
  have eB0 : B 1 0 = lN (mTab now n 0) := by rw [kB 0 p3, kE]
  have ew0 := ew 0 p3
  have l31 : mTab now n 0 < 2147483648 := by omega
  have la9 : 3 ^ n - 1 < 9000 := by have := p3_7 hn; omega
  have nb54 : 54 ≤ u'.1 := by have := nb.2.1; omega
  have nb1000 : u'.1 + 1 < 1000 := by have := nb.2.2.2.2.1; omega
  have lb := ldV_lt (ma := ma) (wi := wi) (wg := wg) hT.1.1 hC.2.1 hC.2.2.1 hC.2.2.2
  have mk := @mr_N c n k len m A B C op vr tl n K cl co wo tH ma wi wg ly u' len m n (3 ^ n - 1) (mrL (3 ^ n - 1) cl) A B C op vr tl (lieC A wo n (3 ^ n - 1) (ldV n rm mt nt fm ma wi wg) (mrC (3 ^ n - 1) cl co)) wo tH (ldV n rm mt nt fm ma wi wg).1 (ldV n rm mt nt fm ma wi wg).2.1 (ldV n rm mt nt fm ma wi wg).2.2 true hc hn nb
  have g := kG
  obtain ⟨g1, g2, g3, g4, g5, g6, g7, g8, g9⟩ := g
  have ck : cOK k len m n (3 ^ n - 1) A (mrK (3 ^ n - 1) K cl u'.1) (mrL (3 ^ n - 1) cl) (ldV n rm mt nt fm ma wi wg).1 (ldV n rm mt nt fm ma wi wg).2.1 (ldV n rm mt nt fm ma wi wg).2.2 true := ⟨mk.1.1, g1, g2, g3, mrL_lt, mrL_le (by omega) hC.1, g6, g7, g8, lb.1, lb.2.1, lb.2.2, fun s hs i hi hb => by
    have hs' : s < 3 ^ n := by omega
    rw [ev_lie kA hn hs' hi, decide_eq_true_eq] at hb
    have l := dg_add hi hs' (show dg s i ≤ 1 by omega)
    omega⟩
  have p := fun Q => p_lies (d := 294) (Q := Q) (te := te) (dr := dr) (pa := pa) (rk := rk) (rf := rf) (fi := fi) (ci := ci) (ga := ga) (r1 := r1) (r2 := r2) (sw := sw) (n := n) (rm := rm) (mt := mt) (nt := nt) (fm := fm) (vr := vr) (K := K) (cl := cl) (co := co) (wo := wo) (th := tH) (ma := ma) (wi := wi) (wg := wg) (ly := ly) tot hN'.1 hT.1.1 nb.1.1 kG rfl la9 hC.1 nb54 nb.2.2.1 nb.2.2.2.1 nb1000 hC.2.1 hC.2.2.1 hC.2.2.2 hR.1 ck
  have ce := lies_eq hT.1.1 hT.1.2.1 hT.1.2.2 kA ma wi wg (nN, mN, rN) wo (mrC (3 ^ n - 1) cl co) yet rf row
  have mm := fun h Q => m_lies (d := 234) (u := mrU (3 ^ n - 1) cl u') (Q := Q) (h := h) (th := th) (to := to) (row := row) (ch := ch) (now := now) (tape := tape) (tp := tp) (pt := pt) (tt := tt) (ne := ne) (rd := rd) (rM := rM) (code := code) (rc := rc) (cL := cL) (cR := cR) (stk := stk) (ask := ask) (un := un) (und := und) (aS := aS) (aO := aO) (aW := aW) (aH := aH) (ac := ac) (wy := wy) (ah := ah) (late := late) (soon := soon) (yet := yet) (cir := cir) (bed := bed) (stp := stp) (oO := oO) (oW := oW) (win := win) (wc := wc) (rn := rn) (wer := wer) (iK := iK) (kC := kC) (kep := kep) (n := n) (tN := tV) (iN := iV) (gN := gV) (nN := nN) (mN := mN) (rN := rN) (tb_K hn) (tb_B hn) rfl rfl rfl rfl ce.1
  rw [ce.2.1, mr_M hN.1.2.2] at p
  exact s_cst (wy' := wy) (ah' := ah) (late' := late) (soon' := soon) (stk' := stk) (ask' := ask) hc hA' p mm ce.2.2 (jO_mk kW kT rfl kL) nV ⟨mrL_le (by omega) hC.1, lb⟩ hU mk

