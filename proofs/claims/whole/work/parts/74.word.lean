/-! ORDERS' methods within the whole object -/
section WORD
variable {h : Nat → zE} {te : cText} {tO dr : cTold} {pa : cPast} {ro : cRow} {fi : cFits} {od : cOrd} {cs : cCst} {ci : cCir} {ga : cGam} {r1 r2 : cRule} {sw : Bool} {d : Nat} {u : zU} {Q : zR → Prop} {n k len m on la : Nat} {rm mt nt : Nat → Nat} {fm : Bool} {vr : Int32} {A : Nat → Nat → Nat} {B : Nat → Nat → Int64} {C : Nat → Nat → Nat} {op : Nat → Int32} {sn : Int32} {tl : Bool} {rk : Nat} {rf : Nat → Int64}
theorem cw_wa (hN : nmOK (k, len, m, A, B, C, op, sn, tl, on, la) cs) (hG : ordG on len la m A) {a b : Nat} (ha : a < on) (hb : b < on) : zK (d + 3) 59 [.ref 22, .int (nI a), .int (nI b)] ((wld h te tO dr pa ro fi (k, len, m, A, B, C, op, sn, tl, on, la) cs ci ga r1 r2 sw), u) Q = Q (some (.long (waS (tlB A B on la len m tl 3) (fun c => !c.testBit b) a (2 ^ on))), ((wld h te tO dr pa ro fi (k, len, m, A, tlB A B on la len m tl, C, op, sn, true, on, la) cs ci ga r1 r2 sw), u)) := by
  have := c_wa (h := (wld h te tO dr pa ro fi (k, len, m, A, B, C, op, sn, tl, on, la) cs ci ga r1 r2 sw)) (B := B) (C := C) (op := op) (sn := sn) (tl := tl) (d := d) (u := u) (Q := Q) (nm_ok hN) hG ha hb
  rw [← W_ord hN, W_sOrd hN rfl] at this
  exact this
theorem cw_wm (hN : nmOK (k, len, m, A, B, C, op, sn, tl, on, la) cs) (hG : ordG on len la m A) {a b : Nat} (ha : a < on) (hb : b < on) : zK (d + 3) 60 [.ref 22, .int (nI a), .int (nI b)] ((wld h te tO dr pa ro fi (k, len, m, A, B, C, op, sn, tl, on, la) cs ci ga r1 r2 sw), u) Q = Q (some (.long (wmS (tlB A B on la len m tl 4) a b (2 ^ on))), ((wld h te tO dr pa ro fi (k, len, m, A, tlB A B on la len m tl, C, op, sn, true, on, la) cs ci ga r1 r2 sw), u)) := by
  have := c_wm (h := (wld h te tO dr pa ro fi (k, len, m, A, B, C, op, sn, tl, on, la) cs ci ga r1 r2 sw)) (B := B) (C := C) (op := op) (sn := sn) (tl := tl) (d := d) (u := u) (Q := Q) (nm_ok hN) hG ha hb
  rw [← W_ord hN, W_sOrd hN rfl] at this
  exact this
theorem cw_wb (hN : nmOK (k, len, m, A, B, C, op, sn, tl, on, la) cs) (hG : ordG on len la m A) {a b : Nat} (ha : a < on) (hb : b < on) : zK (d + 3) 61 [.ref 22, .int (nI a), .int (nI b)] ((wld h te tO dr pa ro fi (k, len, m, A, B, C, op, sn, tl, on, la) cs ci ga r1 r2 sw), u) Q = Q (some (.long (waS (tlB A B on la len m tl 3) (fun c => decide (pop c = b)) a (2 ^ on))), ((wld h te tO dr pa ro fi (k, len, m, A, tlB A B on la len m tl, C, op, sn, true, on, la) cs ci ga r1 r2 sw), u)) := by
  have := c_wb (h := (wld h te tO dr pa ro fi (k, len, m, A, B, C, op, sn, tl, on, la) cs ci ga r1 r2 sw)) (B := B) (C := C) (op := op) (sn := sn) (tl := tl) (d := d) (u := u) (Q := Q) (nm_ok hN) hG ha hb
  rw [← W_ord hN, W_sOrd hN rfl] at this
  exact this
theorem cw_ww (hN : nmOK (k, len, m, A, B, C, op, sn, tl, on, la) cs) (hG : ordG on len la m A) {nv : Int32} {en : Nat} (hen : en < 8) : zK (d + 2) 62 [.ref 22, .int (nI en), .int nv] ((wld h te tO dr pa ro fi (k, len, m, A, B, C, op, sn, tl, on, la) cs ci ga r1 r2 sw), u) Q = Q (some (.long (wwG A (B 1) on la en nv (la + 1) (B 2) 0)), ((wld h te tO dr pa ro fi (k, len, m, A, z_up B 2 (wwG A (B 1) on la en nv (la + 1) (B 2)), C, op, sn, tl, on, la) cs ci ga r1 r2 sw), u)) := by
  have := c_ww (h := (wld h te tO dr pa ro fi (k, len, m, A, B, C, op, sn, tl, on, la) cs ci ga r1 r2 sw)) (B := B) (C := C) (op := op) (sn := sn) (tl := tl) (d := d) (u := u) (Q := Q) (nm_ok hN) hG (nv := nv) hen
  rw [← W_ord hN, W_sOrd hN rfl] at this
  exact this
theorem cw_fset (hN : nmOK (k, len, m, A, B, C, op, sn, tl, on, la) cs) (hG : ordG on len la m A) : zK (d + 3) 64 [.ref 22] ((wld h te tO dr pa ro fi (k, len, m, A, B, C, op, sn, tl, on, la) cs ci ga r1 r2 sw), u) Q = Q (some (.int (nI (fsB A (tlB A B on la len m tl 0) (la + 1)))), ((wld h te tO dr pa ro fi (k, len, m, A, tlB A B on la len m tl, C, op, sn, true, on, la) cs ci ga r1 r2 sw), u)) := by
  have := c_fset (h := (wld h te tO dr pa ro fi (k, len, m, A, B, C, op, sn, tl, on, la) cs ci ga r1 r2 sw)) (B := B) (C := C) (op := op) (sn := sn) (tl := tl) (d := d) (u := u) (Q := Q) (nm_ok hN) hG
  rw [← W_ord hN, W_sOrd hN rfl] at this
  exact this
theorem cw_oo (hT : oldT (n, rm, mt, nt, fm, vr)) (hN : nmOK (k, len, m, A, B, C, op, sn, tl, n, la) cs) (hG : ordG n len la m A) : zK (d + 3) 65 [.ref 22, .ref 4] ((wld h te (n, rm, mt, nt, fm, vr) dr pa ro fi (k, len, m, A, B, C, op, sn, tl, n, la) cs ci ga r1 r2 sw), u) Q = Q (some (.long (ooS A (nopA (opnB mt nt) n (0, op) n).2 n (ooQ (B 1) (B 2) len) la la)), ((wld h te (n, rm, mt, nt, fm, vr) dr pa ro fi (k, len, m, A, z_up B 2 (ooS A (nopA (opnB mt nt) n (0, op) n).2 n (ooQ (B 1) (B 2) len) la), C, (nopA (opnB mt nt) n (0, op) n).2, sn, tl, n, la) cs ci ga r1 r2 sw), u)) := by
  have := c_oo (B := B) (C := C) (op := op) (sn := sn) (tl := tl) (d := d) (u := u) (Q := Q) (nm_ok hN) hG (W_told (h := h) (te := te) (dr := dr) (pa := pa) (ro := ro) (fi := fi) (od := (k, len, m, A, B, C, op, sn, tl, n, la)) (cs := cs) (ci := ci) (ga := ga) (r1 := r1) (r2 := r2) (sw := sw) hT) (ap_told hN.2.2.1)
  rw [← W_ord hN, W_sOrd hN rfl] at this
  exact this
theorem cw_lr (hN : nmOK (k, len, m, A, B, C, op, sn, tl, on, la) cs) (hG : ordG on len la m A) : zK (d + 3) 58 [.ref 22, .ref 16] ((wld h te tO dr pa (0, rf) fi (k, len, m, A, B, C, op, sn, tl, on, la) cs ci ga r1 r2 sw), u) Q = Q (some (.int (nI (2 * on))), ((wld h te tO dr pa ((lrS A on rf (2 * on)).2.1, (lrS A on rf (2 * on)).2.2) fi (k, len, m, A, B, C, op, sn, tl, on, la) cs ci ga r1 r2 sw), u)) := by
  have := c_lr (h := (wld h te tO dr pa (0, rf) fi (k, len, m, A, B, C, op, sn, tl, on, la) cs ci ga r1 r2 sw)) (c := 16) (ff := rf) (B := B) (C := C) (op := op) (sn := sn) (tl := tl) (d := d) (u := u) (Q := Q) (nm_ok hN) (fun j h1 h2 => ⟨by omega, by have := hN.2.2.1; simp only at this; omega, by omega⟩) (by decide) hG
  rw [W_sRow, W_sRow, ← W_ord hN, ← W_ord hN] at this
  exact this
/-! when ORDERS speaks of what is told -/
theorem cw_same (hT : oldT (n, rm, mt, nt, fm, vr)) (hN : nmOK od cs) (hW : odW od) (hI : odT (n, rm, mt, nt, fm, vr) od) : zK (d + 1) 51 [.ref 22, .ref 4] ((wld h te (n, rm, mt, nt, fm, vr) dr pa ro fi od cs ci ga r1 r2 sw), u) Q = Q (some (.long (od.2.2.2.2.1 1 0)), ((wld h te (n, rm, mt, nt, fm, vr) dr pa ro fi od cs ci ga r1 r2 sw), u)) := by
  obtain ⟨k, len, m, A, B, C, op, sn, tl, on, la⟩ := od
  obtain ⟨⟨j, hj, hlen, -⟩, -⟩ := hW
  simp only at hlen
  have h3j := p3_7 hj
  have hpj := p3_pos j
  have := c_total_same (d := d) (u := u) (Q := Q) (A := A) (B := B) (C := C) (op := op) (tl := tl) (n := on) (la := la) (m := m) (nm_ok hN) (W_told (h := h) (te := te) (dr := dr) (pa := pa) (ro := ro) (fi := fi) (od := (k, len, m, A, B, C, op, sn, tl, on, la)) (cs := cs) (ci := ci) (ga := ga) (r1 := r1) (r2 := r2) (sw := sw) hT) (ap_told hN.2.2.1) hI.1 (show 0 < len by omega) (by omega)
  rw [← W_ord hN] at this
  exact this
/-- what of ORDERS when it speaks of what is told -/
theorem odT_G {t : cTold} (hT : oldT t) (hW : odW od) (hI : odT t od) : ordG t.1 od.2.1 (3 ^ t.1 - 1) od.2.2.1 od.2.2.2.1 := by
  obtain ⟨k, len, m, A, B, C, op, sn, tl, on, la⟩ := od
  obtain ⟨⟨j, hj, hlen, hm1, hm2⟩, ⟨q1, q2, hC, hq1, hq2⟩, hA0, hA1, hD⟩ := hW
  obtain ⟨i1, i2, i3, i4, i5, i6, i7, i8⟩ := hI
  simp only at *
  have hn := hT.1
  have h3 := p3_7 hn
  have h3j := p3_7 hj
  have hp := p3_pos t.1
  have hjn : t.1 ≤ j := by
    by_cases c : t.1 ≤ j
    · exact c
    · have : 3 ^ j < 3 ^ t.1 := Nat.pow_lt_pow_right (by decide) (by omega)
      omega
  have sub : ∀ s, s ≤ 3 ^ t.1 - 1 → A 2 s < 2 ^ t.1 ∧ ∀ i, (A 2 s).testBit i = true → posB t A s i = true := by
    intro s hs
    by_cases c : s = 3 ^ t.1 - 1
    · rw [c, i6]
      exact ⟨Nat.two_pow_pos _, fun i hi => by rw [Nat.zero_testBit] at hi; cases hi⟩
    · rw [(i7 s (by omega)).1]
      have key : ∀ i, i ≤ t.1 → (lbS (B 1) (pos4 A C s) s i).1 < 2 ^ i ∧ ∀ x, (lbS (B 1) (pos4 A C s) s i).1.testBit x = true → (pos4 A C s).testBit x = true := by
        intro i
        induction i with
        | zero => intro _; exact ⟨(show 0 < 2 ^ 0 by decide), fun x hx => by rw [show (lbS (B 1) (pos4 A C s) s 0).1 = 0 from rfl, Nat.zero_testBit] at hx; cases hx⟩
        | succ i ih =>
          intro hi
          obtain ⟨a1, a2⟩ := ih (by omega)
          show (if (pos4 A C s).testBit i = true ∧ 0 < B 1 (s + 3 ^ i) then ((lbS (B 1) (pos4 A C s) s i).1 ||| 2 ^ i, (lbS (B 1) (pos4 A C s) s i).2 + B 1 (s + 3 ^ i)) else lbS (B 1) (pos4 A C s) s i).1 < _ ∧ _
          by_cases c2 : (pos4 A C s).testBit i = true ∧ 0 < B 1 (s + 3 ^ i)
          · rw [if_pos c2]
            refine ⟨Nat.or_lt_two_pow (Nat.lt_of_lt_of_le a1 (Nat.pow_le_pow_right (by decide) (by omega))) (Nat.pow_lt_pow_right (by decide) (by omega)), fun x hx => ?_⟩
            rw [show lbS (B 1) (pos4 A C s) s (i + 1) = ((lbS (B 1) (pos4 A C s) s i).1 ||| 2 ^ i, (lbS (B 1) (pos4 A C s) s i).2 + B 1 (s + 3 ^ i)) from if_pos c2, Nat.testBit_or, Nat.testBit_two_pow, Bool.or_eq_true] at hx
            rcases hx with hx | hx
            · exact a2 x hx
            · rw [← of_decide_eq_true hx]; exact c2.1
          · rw [if_neg c2]
            refine ⟨Nat.lt_of_lt_of_le a1 (Nat.pow_le_pow_right (by decide) (by omega)), fun x hx => ?_⟩
            rw [show lbS (B 1) (pos4 A C s) s (i + 1) = lbS (B 1) (pos4 A C s) s i from if_neg c2] at hx
            exact a2 x hx
      obtain ⟨a1, a2⟩ := key t.1 (Nat.le_refl _)
      refine ⟨a1, fun i hi => ?_⟩
      have hit : i < t.1 := by
        by_cases c : i < t.1
        · exact c
        · rw [Nat.testBit_lt_two_pow (Nat.lt_of_lt_of_le a1 (Nat.pow_le_pow_right (by decide) (by omega)))] at hi
          cases hi
      rw [← i8 s (by omega) i hit]
      exact a2 i hi
  refine ⟨hn, by omega, by omega, by omega, hm2, hA0, hA1, fun s hs => ?_, fun s hs i hi hb => ?_⟩
  · exact Nat.lt_of_lt_of_le (sub s hs).1 (p2_le t.1 (by omega))
  · have hpb := (sub s hs).2 i hb
    have hd : dg s i ≤ 1 := by
      have hDs := hD s (by omega) i (by omega)
      have hlt : dg s i < 3 := Nat.mod_lt _ (by decide)
      by_cases c : dg s i = 2
      · unfold posB at hpb
        rw [c] at hpb
        simp at hpb
      · omega
    have := dg_add hi (show s < 3 ^ t.1 by omega) hd
    omega
end WORD

