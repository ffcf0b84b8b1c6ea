/-! what holds after every call -/
def jX (te : cText) (tp : Int32) (tape : Nat → Int32) : Prop := oldX te ∧ tp = nI te.1 ∧ tape = fun i => nI (te.2 i)
def jT (tO : cTold) (now : Nat → Int32) (gu : Int32) : Prop := relT tO now ∧ gu = nI tO.1
def jP (c : Nat) (tO : cTold) (pa : cPast) (un : Int32) (und : Nat → Int32) (ch : Int32) (iK kC kep : Nat → Int32) : Prop := oldP pa ∧ un = nI pa.2.2.2.2 ∧ pstR tO.1 pa.1 pa.2.2.2.2 und ∧ kptR tO.1 pa.2.2.1 pa.2.2.2.1 iK kC kep ch ∧ ∃ x, x ≤ c ∧ ch = nI x
def jR (ro : cRow) (to : Int32) (row : Nat → Int64) : Prop := ro.1 ≤ 14 ∧ rowM ro to row
def jS (dr : cTold) (fi : cFits) (ci : cCir) (ga : cGam) : Prop := oldT dr ∧ oldF fi ∧ smI ci.2 ∧ ∃ w : Nat → Nat, ga.1 = (fun x => nI (w x)) ∧ ∀ i, w i < 1024
def jV (c : Nat) (tO : cTold) (od : cOrd) : Prop := ∃ v, tO.2.2.2.2.2 = nI v ∧ v ≤ 1000 * c ∧ (od.2.2.2.2.2.2.2.1 = -1 ∨ ∃ s, s ≤ v ∧ od.2.2.2.2.2.2.2.1 = nI s)
def jTl (tO : cTold) (od : cOrd) : Prop := tlT tO.1 od.2.2.1 od.2.2.2.1 od.2.2.2.2.1 (cTab tO.1 tO.2.1 tO.2.2.1 tO.2.2.2.1 tO.2.2.2.2.1) od.2.2.2.2.2.2.2.2.1
def jO (tO : cTold) (od : cOrd) : Prop := odW od ∧ (od.2.2.2.2.2.2.2.1 = tO.2.2.2.2.2 → odT tO od ∧ jTl tO od)
def jC (cs : cCst) : Prop := cs.2.1 < 10000 ∧ (∀ i, cs.2.2.2.2.2.1 i < 128) ∧ (∀ i, cs.2.2.2.2.2.2.1 i < 128) ∧ ∀ i, cs.2.2.2.2.2.2.2.1 i < 128
def jU (r1 r2 : cRule) (sw : Bool) (code : Nat → Int32) (cL : Int32) : Prop := oldU r1 ∧ oldU r2 ∧ ∃ L, cL = nI L ∧ ruR (if sw = true then r2 else r1) code L
def jM (thr ins gon nO mO rO cir bed oO oW win : Nat → Int32) : Prop := thr = (fun i => nI (tV i)) ∧ ins = (fun s => nI (iV s)) ∧ gon = (fun s => nI (gV s)) ∧ (∃ nN : Nat → Nat, nO = fun i => nI (nN i)) ∧ (∃ nN : Nat → Nat, mO = fun i => nI (nN i)) ∧ (∃ nN : Nat → Nat, rO = fun i => nI (nN i)) ∧ (∃ c : Nat → Nat, cir = (fun i => nI (c i)) ∧ ∀ i, c i < 7) ∧ (∃ c : Nat → Nat, bed = (fun i => nI (c i)) ∧ ∀ i, c i < 7) ∧ (∃ c : Nat → Nat, oO = (fun i => nI (c i)) ∧ ∀ i, c i < 7) ∧ (∃ c : Nat → Nat, oW = (fun i => nI (c i)) ∧ ∀ i, c i < 7) ∧ ∃ c : Nat → Nat, win = (fun i => nI (c i)) ∧ ∀ i, c i < 10
def jN (c : Nat) (od : cOrd) (cs : cCst) (u : zU) : Prop := nm9 od cs ∧ 91 ≤ u.1 ∧ od.1 + 7 < u.1 ∧ cs.1 < u.1 ∧ u.1 ≤ 91 + 9 * c ∧ u.2.1 ≤ 91 + 9 * c ∧ u.2.2 ≤ 100000 + 40000 * c
/-- everything, after c calls -/
def jAll (c : Nat) (u : zU) (h : Nat → zE) (te : cText) (tO : cTold) (dr : cTold) (pa : cPast) (ro : cRow) (fi : cFits) (od : cOrd) (cs : cCst) (ci : cCir) (ga : cGam) (r1 : cRule) (r2 : cRule) (sw : Bool) (th : Int32) (to : Int32) (row : Nat → Int64) (gu : Int32) (ch : Int32) (now : Nat → Int32) (tape : Nat → Int32) (tp : Int32) (pt : Int32) (tt : Int32) (ne : Int32) (rd : Nat → Int32) (rM : Int32) (code : Nat → Int32) (rc : Nat → Int32) (cL : Int32) (cR : Int32) (stk : Nat → Int32) (ask : Nat → Int32) (un : Int32) (und : Nat → Int32) (aS : Nat → Int32) (aO : Nat → Int32) (aW : Nat → Int32) (aH : Nat → Int32) (ac : Int32) (thr : Nat → Int32) (ins : Nat → Int32) (gon : Nat → Int32) (nO : Nat → Int32) (mO : Nat → Int32) (rO : Nat → Int32) (wy : Nat → Int64) (ah : Nat → Int64) (late : Nat → Int32) (soon : Nat → Int32) (yet : Nat → Int32) (cir : Nat → Int32) (bed : Nat → Int32) (stp : Nat → Int32) (oO : Nat → Int32) (oW : Nat → Int32) (win : Nat → Int32) (wc : Nat → Int32) (rn : Int32) (wer : Nat → Int32) (iK : Nat → Int32) (kC : Nat → Int32) (kep : Nat → Int32) : Prop := jX te tp tape ∧ jT tO now gu ∧ jP c tO pa un und ch iK kC kep ∧ jR ro to row ∧ jS dr fi ci ga ∧ jV c tO od ∧ jO tO od ∧ jC cs ∧ jU r1 r2 sw code cL ∧ jM thr ins gon nO mO rO cir bed oO oW win ∧ jN c od cs u
def jIV (c : Nat) (H : Nat → zE) (u : zU) : Prop := ∃ (h : Nat → zE) (te : cText) (tO : cTold) (dr : cTold) (pa : cPast) (ro : cRow) (fi : cFits) (od : cOrd) (cs : cCst) (ci : cCir) (ga : cGam) (r1 : cRule) (r2 : cRule) (sw : Bool) (th : Int32) (to : Int32) (row : Nat → Int64) (gu : Int32) (ch : Int32) (now : Nat → Int32) (tape : Nat → Int32) (tp : Int32) (pt : Int32) (tt : Int32) (ne : Int32) (rd : Nat → Int32) (rM : Int32) (code : Nat → Int32) (rc : Nat → Int32) (cL : Int32) (cR : Int32) (stk : Nat → Int32) (ask : Nat → Int32) (un : Int32) (und : Nat → Int32) (aS : Nat → Int32) (aO : Nat → Int32) (aW : Nat → Int32) (aH : Nat → Int32) (ac : Int32) (thr : Nat → Int32) (ins : Nat → Int32) (gon : Nat → Int32) (nO : Nat → Int32) (mO : Nat → Int32) (rO : Nat → Int32) (wy : Nat → Int64) (ah : Nat → Int64) (late : Nat → Int32) (soon : Nat → Int32) (yet : Nat → Int32) (cir : Nat → Int32) (bed : Nat → Int32) (stp : Nat → Int32) (oO : Nat → Int32) (oW : Nat → Int32) (win : Nat → Int32) (wc : Nat → Int32) (rn : Int32) (wer : Nat → Int32) (iK : Nat → Int32) (kC : Nat → Int32) (kep : Nat → Int32), H = (wld ((mdl h th to row gu ch now tape tp pt tt ne rd rM code rc cL cR stk ask un und aS aO aW aH ac thr ins gon nO mO rO wy ah late soon yet cir bed stp oO oW win wc rn wer iK kC kep)) te tO dr pa ro fi od cs ci ga r1 r2 sw) ∧ jAll c u h te tO dr pa ro fi od cs ci ga r1 r2 sw th to row gu ch now tape tp pt tt ne rd rM code rc cL cR stk ask un und aS aO aW aH ac thr ins gon nO mO rO wy ah late soon yet cir bed stp oO oW win wc rn wer iK kC kep
/-- both calls answer alike, and all holds again -/
def jSt (c y y' : Nat) (as : List Value) (H : Nat → zE) (u : zU) : Prop := ∃ v H1 H2 u', (∀ Q, zK 300 y (.ref 1 :: as) (H, u) Q = Q (some v, (H1, u'))) ∧ (∀ Q, zK 300 y' (.ref 54 :: as) (H1, u') Q = Q (some v, (H2, u'))) ∧ jIV (c + 1) H2 u'
/-- the version goes up where what is told changes -/
def veR (t t' : cTold) : Prop := ∃ j, j ≤ 1000 ∧ t'.2.2.2.2.2 = t.2.2.2.2.2 + nI j ∧ (j = 0 → t' = t)
theorem ve_self (t : cTold) : veR t t := ⟨0, by decide, by rw [show nI 0 = (0 : Int32) from rfl, Int32.add_zero], fun _ => rfl⟩
section J3
variable {c : Nat} {tO t' : cTold} {od : cOrd} {cs : cCst} {u : zU} {pa : cPast} {un ch : Int32} {und iK kC kep : Nat → Int32}
theorem jV_up (hc : c < 64) (h : jV c tO od) (hv : veR tO t') : jV (c + 1) t' od := by
  obtain ⟨v, h1, h2, h3⟩ := h
  obtain ⟨j, j1, j2, -⟩ := hv
  refine ⟨v + j, by rw [j2, h1, nI_add], by omega, ?_⟩
  rcases h3 with h3 | ⟨s, s1, s2⟩
  · exact Or.inl h3
  · exact Or.inr ⟨s, by omega, s2⟩
theorem jO_up (hc : c < 64) (h : jV c tO od) (hO : jO tO od) (hv : veR tO t') : jO t' od := by
  obtain ⟨v, h1, h2, h3⟩ := h
  obtain ⟨j, j1, j2, j3⟩ := hv
  refine ⟨hO.1, fun e => ?_⟩
  by_cases j0 : j = 0
  · rw [j3 j0] at e ⊢; exact hO.2 e
  · exfalso
    rw [j2, h1, nI_add] at e
    rcases h3 with h3 | ⟨s, s1, s2⟩
    · rw [h3] at e
      have : ¬ nI (v + j) = (-1 : Int32) := by
        intro z
        have := congrArg Int32.toInt z
        rw [nI_toInt (by omega)] at this
        have m1 : (-1 : Int32).toInt = -1 := by decide
        omega
      exact this e.symm
    · rw [s2, nI_eqI (by omega) (by omega)] at e
      omega
theorem jN_up (h : jN c od cs u) : jN (c + 1) od cs u := by
  obtain ⟨h1, h2, h3, h4, h5, h6, h7⟩ := h
  exact ⟨h1, h2, h3, h4, by omega, by omega, by omega⟩
theorem jP_up (h : jP c tO pa un und ch iK kC kep) : jP (c + 1) tO pa un und ch iK kC kep := by
  obtain ⟨h1, h2, h3, h4, x, h5, h6⟩ := h
  exact ⟨h1, h2, h3, h4, x, by omega, h6⟩
theorem jP_n (h : jP c tO pa un und ch iK kC kep) (e : t'.1 = tO.1) : jP c t' pa un und ch iK kC kep := by
  obtain ⟨h1, h2, h3, h4, h5⟩ := h
  refine ⟨h1, h2, ?_, ?_, h5⟩
  · rw [e]; exact h3
  · rw [e]; exact h4
end J3
theorem jIV_e {c : Nat} {H : Nat → zE} {u : zU} {P : Prop} (hI : jIV c H u) (k : ∀ (h : Nat → zE) (te : cText) (tO : cTold) (dr : cTold) (pa : cPast) (ro : cRow) (fi : cFits) (od : cOrd) (cs : cCst) (ci : cCir) (ga : cGam) (r1 : cRule) (r2 : cRule) (sw : Bool) (th : Int32) (to : Int32) (row : Nat → Int64) (gu : Int32) (ch : Int32) (now : Nat → Int32) (tape : Nat → Int32) (tp : Int32) (pt : Int32) (tt : Int32) (ne : Int32) (rd : Nat → Int32) (rM : Int32) (code : Nat → Int32) (rc : Nat → Int32) (cL : Int32) (cR : Int32) (stk : Nat → Int32) (ask : Nat → Int32) (un : Int32) (und : Nat → Int32) (aS : Nat → Int32) (aO : Nat → Int32) (aW : Nat → Int32) (aH : Nat → Int32) (ac : Int32) (thr : Nat → Int32) (ins : Nat → Int32) (gon : Nat → Int32) (nO : Nat → Int32) (mO : Nat → Int32) (rO : Nat → Int32) (wy : Nat → Int64) (ah : Nat → Int64) (late : Nat → Int32) (soon : Nat → Int32) (yet : Nat → Int32) (cir : Nat → Int32) (bed : Nat → Int32) (stp : Nat → Int32) (oO : Nat → Int32) (oW : Nat → Int32) (win : Nat → Int32) (wc : Nat → Int32) (rn : Int32) (wer : Nat → Int32) (iK : Nat → Int32) (kC : Nat → Int32) (kep : Nat → Int32), H = (wld ((mdl h th to row gu ch now tape tp pt tt ne rd rM code rc cL cR stk ask un und aS aO aW aH ac thr ins gon nO mO rO wy ah late soon yet cir bed stp oO oW win wc rn wer iK kC kep)) te tO dr pa ro fi od cs ci ga r1 r2 sw) → jAll c u h te tO dr pa ro fi od cs ci ga r1 r2 sw th to row gu ch now tape tp pt tt ne rd rM code rc cL cR stk ask un und aS aO aW aH ac thr ins gon nO mO rO wy ah late soon yet cir bed stp oO oW win wc rn wer iK kC kep → P) : P := by
  obtain ⟨h, te, tO, dr, pa, ro, fi, od, cs, ci, ga, r1, r2, sw, th, to, row, gu, ch, now, tape, tp, pt, tt, ne, rd, rM, code, rc, cL, cR, stk, ask, un, und, aS, aO, aW, aH, ac, thr, ins, gon, nO, mO, rO, wy, ah, late, soon, yet, cir, bed, stp, oO, oW, win, wc, rn, wer, iK, kC, kep, e, hA⟩ := hI
  exact k h te tO dr pa ro fi od cs ci ga r1 r2 sw th to row gu ch now tape tp pt tt ne rd rM code rc cL cR stk ask un und aS aO aW aH ac thr ins gon nO mO rO wy ah late soon yet cir bed stp oO oW win wc rn wer iK kC kep e hA

