/-! how many orders: what both know then -/
theorem dig_A {n : Nat} {o : cOrd} (hW : odW o) (hl : 3 ^ n ≤ o.2.1) : digA n o.2.2.2.1 := ⟨hW.2.2.1, hW.2.2.2.1, fun s hs i hi => hW.2.2.2.2 s (by show s < o.2.1; omega) i hi⟩
/-- names and room after the count -/
def jNb (c : Nat) (od : cOrd) (cs : cCst) (u : zU) : Prop := nm9 od cs ∧ 91 ≤ u.1 ∧ od.1 + 7 < u.1 ∧ cs.1 < u.1 ∧ u.1 ≤ 91 + 9 * c + 8 ∧ u.2.1 ≤ 91 + 9 * c + 8 ∧ u.2.2 ≤ 100000 + 40000 * c + 35000
theorem jNb_N {c : Nat} {od : cOrd} {cs : cCst} {u : zU} (h : jNb c od cs u) : jN (c + 1) od cs u := by
  obtain ⟨h1, h2, h3, h4, h5, h6, h7⟩ := h
  exact ⟨h1, h2, h3, h4, by omega, by omega, Nat.le_trans h7 (by rw [Nat.mul_succ, Nat.add_assoc]; exact Nat.add_le_add_left (Nat.add_le_add_left (by decide) _) _)⟩
/-- what is known of ORDERS once they are counted -/
def oKn (n : Nat) (rm mt nt : Nat → Nat) (fm : Bool) (vr : Int32) (now : Nat → Int32) (k len m : Nat) (A : Nat → Nat → Nat) (B : Nat → Nat → Int64) (C : Nat → Nat → Nat) (op : Nat → Int32) (tl : Bool) : Prop :=
  odW (k, len, m, A, B, C, op, vr, tl, n, 3 ^ n - 1) ∧ odT (n, rm, mt, nt, fm, vr) (k, len, m, A, B, C, op, vr, tl, n, 3 ^ n - 1) ∧ jTl (n, rm, mt, nt, fm, vr) (k, len, m, A, B, C, op, vr, tl, n, 3 ^ n - 1) ∧ ordG n len (3 ^ n - 1) m A ∧ digA n A ∧ twoH n A (posC mt (barN n rm nt fm) iV gV) (qM now n) (cTab n rm mt nt fm) (mTab now n) (goodS n mt) ∧ (∀ s, s < 3 ^ n → B 1 s = lN (cTab n rm mt nt fm s)) ∧ cTab n rm mt nt fm 0 = mTab now n 0 ∧ mTab now n 0 ≤ 681080400
theorem jTot {c : Nat} {u : zU} {h : Nat → zE} {te : cText} {tO : cTold} {dr : cTold} {pa : cPast} {ro : cRow} {fi : cFits} {od : cOrd} {cs : cCst} {ci : cCir} {ga : cGam} {r1 : cRule} {r2 : cRule} {sw : Bool} {th : Int32} {to : Int32} {row : Nat → Int64} {gu : Int32} {ch : Int32} {now : Nat → Int32} {tape : Nat → Int32} {tp : Int32} {pt : Int32} {tt : Int32} {ne : Int32} {rd : Nat → Int32} {rM : Int32} {code : Nat → Int32} {rc : Nat → Int32} {cL : Int32} {cR : Int32} {stk : Nat → Int32} {ask : Nat → Int32} {un : Int32} {und : Nat → Int32} {aS : Nat → Int32} {aO : Nat → Int32} {aW : Nat → Int32} {aH : Nat → Int32} {ac : Int32} {thr : Nat → Int32} {ins : Nat → Int32} {gon : Nat → Int32} {nO : Nat → Int32} {mO : Nat → Int32} {rO : Nat → Int32} {wy : Nat → Int64} {ah : Nat → Int64} {late : Nat → Int32} {soon : Nat → Int32} {yet : Nat → Int32} {cir : Nat → Int32} {bed : Nat → Int32} {stp : Nat → Int32} {oO : Nat → Int32} {oW : Nat → Int32} {win : Nat → Int32} {wc : Nat → Int32} {rn : Int32} {wer : Nat → Int32} {iK : Nat → Int32} {kC : Nat → Int32} {kep : Nat → Int32} {n : Nat} {rm mt nt : Nat → Nat} {fm : Bool} {vr : Int32} (hc : c < 64) (hT : jT (n, rm, mt, nt, fm, vr) now gu) (hV : jV c (n, rm, mt, nt, fm, vr) od) (hO : jO (n, rm, mt, nt, fm, vr) od) (hN : jN c od cs u) : ∃ h' k len m A B C op tl u', (∀ (d : Nat) (Q : zR → Prop), zK (d + 3) 51 [.ref 22, .ref 4] ((wld ((mdl h th to row gu ch now tape tp pt tt ne rd rM code rc cL cR stk ask un und aS aO aW aH ac thr ins gon nO mO rO wy ah late soon yet cir bed stp oO oW win wc rn wer iK kC kep)) te (n, rm, mt, nt, fm, vr) dr pa ro fi od cs ci ga r1 r2 sw), u) Q = Q (some (.long (B 1 0)), ((wld ((mdl h' th to row gu ch now tape tp pt tt ne rd rM code rc cL cR stk ask un und aS aO aW aH ac thr ins gon nO mO rO wy ah late soon yet cir bed stp oO oW win wc rn wer iK kC kep)) te (n, rm, mt, nt, fm, vr) dr pa ro fi (k, len, m, A, B, C, op, vr, tl, n, 3 ^ n - 1) cs ci ga r1 r2 sw), u'))) ∧ oKn n rm mt nt fm vr now k len m A B C op tl ∧ jNb c (k, len, m, A, B, C, op, vr, tl, n, 3 ^ n - 1) cs u' ∧ jV c (n, rm, mt, nt, fm, vr) (k, len, m, A, B, C, op, vr, tl, n, 3 ^ n - 1) := by
  obtain ⟨hN1, n2, n3, n4, n5, n6, n7⟩ := hN
  obtain ⟨ok, olen, om, oA, oB, oC, oop, osn, otl, oon, ola⟩ := od
  have hn : n ≤ 7 := hT.1.1.1
  obtain ⟨h', o', u', t1, t2, t3, t4, t5, t6⟩ := c_totalX (h := (mdl h th to row gu ch now tape tp pt tt ne rd rM code rc cL cR stk ask un und aS aO aW aH ac thr ins gon nO mO rO wy ah late soon yet cir bed stp oO oW win wc rn wer iK kC kep)) (te := te) (dr := dr) (pa := pa) (ro := ro) (fi := fi) (ci := ci) (ga := ga) (r1 := r1) (r2 := r2) (sw := sw) (u := u) hT.1.1 hN1.1 hO.1 (fun e => (hO.2 e).1) (by omega) n3 n4 (by omega)
  obtain ⟨k, len, m, A, B, C, op, sn, tl, on, la⟩ := o'
  obtain ⟨z1, z2, z3, z4, z5⟩ := t3
  dsimp only at z1 z2 z3 z4
  have z1' := z1.symm
  have z2' := z2.symm
  subst z1' z2' z3
  have eh : h' = (mdl h' th to row gu ch now tape tp pt tt ne rd rM code rc cL cR stk ask un und aS aO aW aH ac thr ins gon nO mO rO wy ah late soon yet cir bed stp oO oW win wc rn wer iK kC kep) := by
    refine M_self (h := h) (fun j h1 h2 => ?_)
    rcases t5 with ⟨e, -⟩ | ⟨e, -⟩
    · rw [e]
    · refine e j (fun z => ?_)
      have := hN1.2.1
      dsimp only at this z
      omega
  have hdA : digA n A := dig_A (o := (k, len, m, A, B, C, op, vr, tl, n, 3 ^ n - 1)) t2 z4
  have H2 := mk_two (o := (k, len, m, A, B, C, op, vr, tl, n, 3 ^ n - 1)) hT.1.1.2.1 hT.1.2.1 hT.1.2.2 t2 ⟨rfl, rfl, rfl, z4, z5⟩
  have B1 := (cd_T (o := (k, len, m, A, B, C, op, vr, tl, n, 3 ^ n - 1)) hn t2 ⟨rfl, rfl, rfl, z4, z5⟩).1
  have p3 := p3_pos n
  refine ⟨h', k, len, m, A, B, C, op, tl, u', fun d Q => ?_, ⟨t2, ⟨rfl, rfl, rfl, z4, z5⟩, ?_, odT_G (t := (n, rm, mt, nt, fm, vr)) hT.1.1 t2 ⟨rfl, rfl, rfl, z4, z5⟩, hdA, H2, B1, H2.2.2.2.2.2.2.2.2.2.2.1 0 p3 H2.2.1, cnt_le hn H2.2.2.2.1 H2.2.2.2.2.2.1 p3⟩, ?_, ?_⟩
  · rw [← eh]
    exact t1 d Q
  · rcases t6 with e | e
    · have hsn : osn = vr := by
        have := congrArg (fun o : cOrd => o.2.2.2.2.2.2.2.1) e
        exact this.symm
      have := (hO.2 hsn).2
      rw [← e] at this
      exact this
    · intro z
      dsimp only at e z
      rw [e] at z
      exact absurd z Bool.false_ne_true
  · have w1 := t2.1
    obtain ⟨j, j1, j2, j3, j4⟩ := w1
    dsimp only at j2 j3 j4
    have l7 := p3_7 j1
    have h91 := hN1.2.1
    have h92 := hN1.2.2
    dsimp only at h91 h92 n3
    rcases t5 with ⟨-, e1, e2, -⟩ | ⟨-, e1, -, e2⟩
    · dsimp only at e1
      subst e1 e2
      exact ⟨⟨t4, h91, h92⟩, n2, n3, n4, by omega, by omega, by omega⟩
    · dsimp only at e1 e2
      subst e1 e2
      exact ⟨⟨t4, Or.inr n2, h92⟩, by show 91 ≤ u.1 + 8; omega, by show u.1 + 7 < u.1 + 8; omega, by show cs.1 < u.1 + 8; omega, by show u.1 + 8 ≤ _; omega, by show u.2.1 + 8 ≤ _; omega, by show u.2.2 + (6 * len + 2 * m) ≤ _; omega⟩
  · obtain ⟨v, v1, v2, -⟩ := hV
    exact ⟨v, v1, v2, Or.inr ⟨v, Nat.le_refl _, v1⟩⟩

