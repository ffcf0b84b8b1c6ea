/-! steps: guests and meetings told as texts -/
def veK (K : Nat) (t t' : cTold) : Prop := ∃ j, j ≤ K ∧ t'.2.2.2.2.2 = t.2.2.2.2.2 + nI j ∧ (j = 0 → t' = t)
theorem veK_R {K : Nat} {t t' : cTold} (hK : K ≤ 1000) (h : veK K t t') : veR t t' := by
  obtain ⟨j, h1, h2, h3⟩ := h
  exact ⟨j, by omega, h2, h3⟩
theorem veK_0 (K : Nat) (t : cTold) : veK K t t := ⟨0, Nat.zero_le _, by rw [show nI 0 = (0 : Int32) from rfl, Int32.add_zero], fun _ => rfl⟩
theorem veK_1 {K : Nat} {t t' : cTold} (hK : 1 ≤ K) (e : t'.2.2.2.2.2 = t.2.2.2.2.2 + 1) : veK K t t' := ⟨1, hK, e, fun z => absurd z (by decide)⟩
theorem veK_t {K L : Nat} {t t' t'' : cTold} (h : veK K t t') (h' : veK L t' t'') : veK (K + L) t t'' := by
  obtain ⟨j, h1, h2, h3⟩ := h
  obtain ⟨i, i1, i2, i3⟩ := h'
  refine ⟨j + i, by omega, by rw [i2, h2, Int32.add_assoc, nI_add], fun z => ?_⟩
  rw [i3 (by omega), h3 (by omega)]
theorem veK_le {K L : Nat} {t t' : cTold} (hK : K ≤ L) (h : veK K t t') : veK L t t' := by
  obtain ⟨j, h1, h2, h3⟩ := h
  exact ⟨j, by omega, h2, h3⟩
theorem veK_tell {t : cTold} {g k v : Int32} : veK 1 t (tellO t g k v).2 := by
  unfold tellO
  split
  · split
    · exact veK_0 _ t
    · exact veK_1 (by decide) rfl
  · exact veK_0 _ t
theorem veK_itr {F : Nat → cTold → cTold} {K : Nat} (hF : ∀ i t, veK K t (F i t)) (t : cTold) : ∀ k, veK (K * k) t (itr F t k) := by
  intro k
  induction k with
  | zero => exact veK_0 _ t
  | succ k ih => rw [itr_s, Nat.mul_succ]; exact veK_t ih (hF k _)
theorem ga_ve {c : Nat → Nat} {t : cTold} : ∀ k, (itr (gaF c) t k).2.2.2.2.2 = t.2.2.2.2.2 + nI k ∧ (itr (gaF c) t k).1 = t.1 + k := by
  intro k
  induction k with
  | zero => exact ⟨by rw [show nI 0 = (0 : Int32) from rfl, Int32.add_zero]; rfl, rfl⟩
  | succ k ih =>
    rw [itr_s]
    refine ⟨?_, ?_⟩
    · show (itr (gaF c) t k).2.2.2.2.2 + 1 = _
      rw [ih.1, Int32.add_assoc, ← nI_add k 1]; rfl
    · show (itr (gaF c) t k).1 + 1 = _
      rw [ih.2]; rfl
theorem s_guests {c : Nat} {H : Nat → zE} {u : zU} (hc : c < 64) (hI : jIV c H u) : jSt c 132 204 [] H u := by
  refine jIV_e hI (fun h te tO dr pa ro fi od cs ci ga r1 r2 sw th to row gu ch now tape tp pt tt ne rd rM code rc cL cR stk ask un und aS aO aW aH ac thr ins gon nO mO rO wy ah late soon yet cir bed stp oO oW win wc rn wer iK kC kep eH hA => ?_)
  subst eH
  obtain ⟨hX, hT, hP, hR, hS, hV, hO, hC, hU, hM, hN⟩ := hA
  have hN' := hN.1
  obtain ⟨hX1, rfl, rfl⟩ := hX
  obtain ⟨hT1, rfl⟩ := hT
  obtain ⟨len, sg⟩ := te
  have hl : len ≤ 80 := hX1.1
  have hsg : ∀ i, sg i < 256 := hX1.2
  have hn : tO.1 ≤ 7 := hT1.1.1
  have p := fun Q => p_guests (d := 296) (u := u) (Q := Q) (h := (mdl h th to row (nI tO.1) ch now (fun i => nI (sg i)) (nI len) pt tt ne rd rM code rc cL cR stk ask un und aS aO aW aH ac thr ins gon nO mO rO wy ah late soon yet cir bed stp oO oW win wc rn wer iK kC kep)) (te := (len, sg)) (dr := dr) (ro := ro) (fi := fi) (od := od) (cs := cs) (ci := ci) (ga := ga) (r1 := r1) (r2 := r2) (sw := sw) hT1.1 hX1 hP.1
  rcases hr : gsS sg len tO.1 rd with ⟨b1, b2, b3, b4⟩
  obtain ⟨g1, g2⟩ := gs_eq hsg hl hn hr
  have hX' : jX (0, sg) 0 (fun i => nI (sg i)) := ⟨⟨by show 0 ≤ 80; decide, hsg⟩, rfl, rfl⟩
  by_cases q : fgV len sg (7 - tO.1) = -1
  · obtain ⟨f1, f2, f3, f4⟩ := g1 q
    dsimp only at f1 f2 f4
    subst f2
    have rel : ∀ k, k ≤ (len + 1) / 2 → relT (itr (gaF sg) tO k) (itr (gaM b4 tO.1) now k) := by
      intro k
      induction k with
      | zero => exact fun _ => hT1
      | succ k ih =>
        intro hk
        rw [itr_s, itr_s]
        obtain ⟨v1, v2⟩ := f4 k (by omega)
        exact add_rel (ih (by omega)) (by rw [(ga_ve k).2]; omega) (by rw [(ga_ve k).2]) v2 v1
    by_cases k0 : 0 < (len + 1) / 2
    · have e : gstO (len, sg) tO pa = (nI ((len + 1) / 2), itr (gaF sg) tO ((len + 1) / 2), (pa.1, pa.2.1, pa.2.2.1, 0, 0)) := by
        unfold gstO
        rw [if_pos q, if_pos k0]
      rw [e] at p
      obtain ⟨x, x1, x2⟩ := hP.2.2.2.2
      have hve : veR tO (itr (gaF sg) tO ((len + 1) / 2)) := ⟨(len + 1) / 2, by omega, (ga_ve _).1, fun z => by omega⟩
      have chn : ch.toNatClampNeg < 900 := by rw [x2, nI_clamp (by omega)]; omega
      refine ⟨_, _, _, _, p, fun Q => ?_, h, (0, sg), (itr (gaF sg) tO ((len + 1) / 2)), dr, (pa.1, pa.2.1, pa.2.2.1, 0, 0), ro, fi, od, cs, ci, ga, r1, r2, sw, 0, to, row, (nI (tO.1 + (len + 1) / 2)), (ch + 1), (itr (gaM b4 tO.1) now ((len + 1) / 2)), (fun i => nI (sg i)), 0, (nI b2), (nI (min len 13)), 0, b4, (nI ((len + 1) / 2)), code, rc, cL, cR, stk, ask, 0, und, aS, aO, aW, aH, ac, thr, ins, gon, nO, mO, rO, wy, ah, late, soon, yet, cir, bed, stp, oO, oW, win, wc, rn, wer, iK, kC, kep, (wm_comm hN').symm, hX', ⟨rel _ (Nat.le_refl _), by rw [(ga_ve _).2]⟩, ⟨⟨by show 0 ≤ 15; decide, by show 0 < 8; decide⟩, rfl, fun j hj => absurd hj (Nat.not_lt_zero _), kpt_new hP.2.2.2.1 chn, x + 1, by omega, by rw [x2, ← nI_add x 1]; rfl⟩, hR, hS, jV_up hc hV hve, jO_up hc hV hO hve, hC, hU, hM, jN_up hN⟩
      rw [wm_comm hN']
      have m := fun h => m_guests (d := 295) (u := u) (Q := Q) (h := h) (th := th) (to := to) (row := row) (ch := ch) (now := now) (pt := pt) (tt := tt) (ne := ne) (rd := rd) (rM := rM) (code := code) (rc := rc) (cL := cL) (cR := cR) (stk := stk) (ask := ask) (un := un) (und := und) (aS := aS) (aO := aO) (aW := aW) (aH := aH) (ac := ac) (thr := thr) (ins := ins) (gon := gon) (nO := nO) (mO := mO) (rO := rO) (wy := wy) (ah := ah) (late := late) (soon := soon) (yet := yet) (cir := cir) (bed := bed) (stp := stp) (oO := oO) (oW := oW) (win := win) (wc := wc) (rn := rn) (wer := wer) (iK := iK) (kC := kC) (kep := kep) (g := tO.1) (sg := sg) (len := len) hsg hl hn hr f1
      simp only [if_neg (show ¬ (len + 1) / 2 = 0 by omega)] at m
      exact m _
    · have z : (len + 1) / 2 = 0 := by omega
      have e : gstO (len, sg) tO pa = (nI ((len + 1) / 2), tO, pa) := by
        unfold gstO
        rw [if_pos q, if_neg k0]
      rw [e] at p
      refine ⟨_, _, _, _, p, fun Q => ?_, h, (0, sg), tO, dr, pa, ro, fi, od, cs, ci, ga, r1, r2, sw, 0, to, row, (nI tO.1), ch, now, (fun i => nI (sg i)), 0, (nI b2), (nI (min len 13)), 0, b4, (nI ((len + 1) / 2)), code, rc, cL, cR, stk, ask, un, und, aS, aO, aW, aH, ac, thr, ins, gon, nO, mO, rO, wy, ah, late, soon, yet, cir, bed, stp, oO, oW, win, wc, rn, wer, iK, kC, kep, (wm_comm hN').symm, hX', ⟨hT1, rfl⟩, jP_up hP, hR, hS, jV_up hc hV (ve_self _), hO, hC, hU, hM, jN_up hN⟩
      rw [wm_comm hN']
      have m := fun h => m_guests (d := 295) (u := u) (Q := Q) (h := h) (th := th) (to := to) (row := row) (ch := ch) (now := now) (pt := pt) (tt := tt) (ne := ne) (rd := rd) (rM := rM) (code := code) (rc := rc) (cL := cL) (cR := cR) (stk := stk) (ask := ask) (un := un) (und := und) (aS := aS) (aO := aO) (aW := aW) (aH := aH) (ac := ac) (thr := thr) (ins := ins) (gon := gon) (nO := nO) (mO := mO) (rO := rO) (wy := wy) (ah := ah) (late := late) (soon := soon) (yet := yet) (cir := cir) (bed := bed) (stp := stp) (oO := oO) (oW := oW) (win := win) (wc := wc) (rn := rn) (wer := wer) (iK := iK) (kC := kC) (kep := kep) (g := tO.1) (sg := sg) (len := len) hsg hl hn hr f1
      simp only [if_pos z, z, itr_0, Nat.add_zero] at m ⊢
      exact m _
  · obtain ⟨f1, f2⟩ := g2 q
    dsimp only at f1 f2
    have e : gstO (len, sg) tO pa = (-1 - fgV len sg (7 - tO.1), tO, pa) := by
      unfold gstO
      rw [if_neg q]
    rw [e, ← f2] at p
    refine ⟨_, _, _, _, p, fun Q => ?_, h, (0, sg), tO, dr, pa, ro, fi, od, cs, ci, ga, r1, r2, sw, 0, to, row, (nI tO.1), ch, now, (fun i => nI (sg i)), 0, (nI b2), (nI (min len 13)), 0, b4, (nI b3), code, rc, cL, cR, stk, ask, un, und, aS, aO, aW, aH, ac, thr, ins, gon, nO, mO, rO, wy, ah, late, soon, yet, cir, bed, stp, oO, oW, win, wc, rn, wer, iK, kC, kep, (wm_comm hN').symm, hX', ⟨hT1, rfl⟩, jP_up hP, hR, hS, jV_up hc hV (ve_self _), hO, hC, hU, hM, jN_up hN⟩
    rw [wm_comm hN']
    exact m_guestsf (d := 295) (u := u) (Q := Q) (h := (wld h (0, sg) tO dr pa ro fi od cs ci ga r1 r2 sw)) (th := th) (to := to) (row := row) (ch := ch) (now := now) (pt := pt) (tt := tt) (ne := ne) (rd := rd) (rM := rM) (code := code) (rc := rc) (cL := cL) (cR := cR) (stk := stk) (ask := ask) (un := un) (und := und) (aS := aS) (aO := aO) (aW := aW) (aH := aH) (ac := ac) (thr := thr) (ins := ins) (gon := gon) (nO := nO) (mO := mO) (rO := rO) (wy := wy) (ah := ah) (late := late) (soon := soon) (yet := yet) (cir := cir) (bed := bed) (stp := stp) (oO := oO) (oW := oW) (win := win) (wc := wc) (rn := rn) (wer := wer) (iK := iK) (kC := kC) (kep := kep) (g := tO.1) (sg := sg) (len := len) hsg hl hn hr f1

