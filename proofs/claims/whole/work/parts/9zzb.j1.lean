/-! both objects in one heap -/
section J1
variable {h : Nat → zE} {te : cText} {tO dr : cTold} {pa : cPast} {ro : cRow} {fi : cFits} {od : cOrd} {cs : cCst} {ci : cCir} {ga : cGam} {r1 r2 : cRule} {sw : Bool} {d : Nat} {u : zU} {Q : zR → Prop} {n k len m on la : Nat} {rm mt nt : Nat → Nat} {fm : Bool} {vr : Int32} {A : Nat → Nat → Nat} {B : Nat → Nat → Int64} {C : Nat → Nat → Nat} {op : Nat → Int32} {sn : Int32} {tl : Bool}
theorem c_totalX {cs : cCst} (hT : oldT (n, rm, mt, nt, fm, vr)) (hN : nmOK (k, len, m, A, B, C, op, sn, tl, on, la) cs) (hW : odW (k, len, m, A, B, C, op, sn, tl, on, la)) (hI : sn = vr → odT (n, rm, mt, nt, fm, vr) (k, len, m, A, B, C, op, sn, tl, on, la)) (u1 : 54 ≤ u.1) (u2 : k + 7 < u.1) (u3 : cs.1 < u.1) (u4 : u.1 + 8 < 1000) : ∃ h' o' u', (∀ (d : Nat) (Q : zR → Prop), zK (d + 3) 51 [.ref 22, .ref 4] ((wld h te (n, rm, mt, nt, fm, vr) dr pa ro fi (k, len, m, A, B, C, op, sn, tl, on, la) cs ci ga r1 r2 sw), u) Q = Q (some (.long (o'.2.2.2.2.1 1 0)), ((wld h' te (n, rm, mt, nt, fm, vr) dr pa ro fi o' cs ci ga r1 r2 sw), u'))) ∧ odW o' ∧ odT (n, rm, mt, nt, fm, vr) o' ∧ nmOK o' cs ∧ grown h h' (k, len, m, A, B, C, op, sn, tl, on, la) o' u u' ∧ (o' = (k, len, m, A, B, C, op, sn, tl, on, la) ∨ o'.2.2.2.2.2.2.2.2.1 = false) := by
  have hW0 := hW
  obtain ⟨⟨j, hj, hlen, hm1, hm2⟩, ⟨q1, q2, hC, hq1, hq2⟩, hA0, hA1, hD⟩ := hW
  simp only at hlen hm1 hm2 hC hA0 hA1 hD
  have hn : n ≤ 7 := hT.1
  have h3 := p3_7 hn
  have h3j := p3_7 hj
  have hp := p3_pos n
  have hpj := p3_pos j
  have hka : k = 23 ∨ 54 ≤ k := hN.2.2.1
  have hk := nm_ok hN
  have hTW := W_told (h := h) (te := te) (dr := dr) (pa := pa) (ro := ro) (fi := fi) (od := (k, len, m, A, B, C, op, sn, tl, on, la)) (cs := cs) (ci := ci) (ga := ga) (r1 := r1) (r2 := r2) (sw := sw) hT
  by_cases c0 : sn = vr
  · refine ⟨h, (k, len, m, A, B, C, op, sn, tl, on, la), u, ?_, hW0, hI c0, hN, Or.inl ⟨rfl, rfl, rfl, rfl⟩, Or.inl rfl⟩
    intro d Q
    have := c_total_same (d := d + 2) (u := u) (Q := Q) (A := A) (B := B) (C := C) (op := op) (tl := tl) (n := on) (la := la) (m := m) hk hTW (ap_told hka) c0 (show 0 < len by omega) (by omega)
    rw [← W_ord hN] at this
    exact this
  · subst hC
    by_cases c1 : 3 ^ n ≤ len
    · have tot := fun (d : Nat) (Q : zR → Prop) => c_total_no (d := d) (u := u) (Q := Q) (m := m) (A := A) (B := B) (op := op) (tl := tl) (n0 := on) (la0 := la) (q := (q1, q2)) hk hTW (ap_told hka) c0 c1 (by omega) hq1 hq2 hA0 hA1 hD
      have lt := rtU_lt (al := 2 ^ n - 1) (nd := mt) (br := fun i => nt i ||| matesOf n rm fm i) (q := (q1, q2)) hq1 hq2 n hn
      have pb := fun s i hs hi => pos_bits (vr := vr) (mt := mt) (nt := nt) (rm := rm) (fm := fm) (q := (q1, q2)) hn (digOK_le hD c1) hA0 hA1 hq1 hq2 rfl (s := s) (i := i) hs hi
      generalize hr : rtU (2 ^ n - 1) mt (fun i => nt i ||| matesOf n rm fm i) (q1, q2) n = r at *
      have l1 := lbG_ge (A := A) (C := c2 r.1 r.2) (n := n) (3 ^ n - 1) (z_up (A 2) (3 ^ n - 1) 0, z_up (B 1) (3 ^ n - 1) 1) (3 ^ n - 1) (Nat.le_refl _)
      have l2 := lbG_eq (A := A) (C := c2 r.1 r.2) (n := n) (3 ^ n - 1) (z_up (A 2) (3 ^ n - 1) 0, z_up (B 1) (3 ^ n - 1) 1)
      have ectN : ctN A B n r = lbG A (c2 r.1 r.2) n (3 ^ n - 1) (z_up (A 2) (3 ^ n - 1) 0, z_up (B 1) (3 ^ n - 1) 1) := rfl
      rw [← ectN] at l1 l2
      simp only [z_up_s] at l1
      generalize ctN A B n r = g at *
      have z0 : z_up A 2 g.1 0 = A 0 := rfl
      have z1 : z_up A 2 g.1 1 = A 1 := rfl
      have z2 : z_up A 2 g.1 2 = g.1 := rfl
      have y1 : z_up B 1 g.2 1 = g.2 := rfl
      have ep : ∀ C' s, pos4 (z_up A 2 g.1) C' s = pos4 A C' s := fun _ _ => rfl
      have eB : ∀ s i, posB (n, rm, mt, nt, fm, vr) (z_up A 2 g.1) s i = posB (n, rm, mt, nt, fm, vr) A s i := fun _ _ => rfl
      refine ⟨h, (k, len, m, z_up A 2 g.1, z_up B 1 g.2, c2 r.1 r.2, op, vr, false, n, 3 ^ n - 1), u, ?_, ⟨⟨j, hj, hlen, hm1, hm2⟩, ⟨r.1, r.2, rfl, lt.1, lt.2⟩, hA0, hA1, hD⟩, ⟨rfl, rfl, rfl, c1, l1.2, l1.1, ?_, ?_⟩, hN, Or.inl ⟨rfl, rfl, rfl, rfl⟩, Or.inr rfl⟩
      · intro d Q
        have := tot d Q
        rw [← W_ord hN, W_sOrd hN rfl] at this
        exact this
      · intro s hs
        exact l2 s hs
      · intro s hs i hi
        exact pb s i hs hi
    · obtain ⟨un, uc, us⟩ := u
      simp only at u1 u2 u3 u4
      have hN' : nmOK (un, 3 ^ n - 1 + 1, 128 * n, A, B, c2 q1 q2, op, sn, tl, on, la) cs := ⟨by show un + 7 < 1000; omega, hN.2.1, by show un = 23 ∨ 54 ≤ un; omega, hN.2.2.2.1, by show cs.1 < un ∨ un + 7 < cs.1; omega⟩
      have hK := nm_ok hN'
      have tot := fun (d : Nat) (Q : zR → Prop) => c_total_grow (d := d) (Q := Q) (m := m) (A := A) (B := B) (op := op) (tl := tl) (n0 := on) (la0 := la) (q := (q1, q2)) (kc := uc) (ks := us) hk hK (by show 22 + 12 ≤ un; omega) hTW (ap_told hka) (ap_told (Or.inr (show 54 ≤ un by omega))) c0 (show len < 3 ^ n by omega) hq1 hq2
      have lt := rtU_lt (al := 2 ^ n - 1) (nd := mt) (br := fun i => nt i ||| matesOf n rm fm i) (q := (q1, q2)) hq1 hq2 n hn
      have lA := mkO_lt (q := (fun _ => 0, fun _ => 0)) (fun _ => (by decide : 0 < 128)) (fun _ => (by decide : 0 < 128)) n hn
      have dO : digOK (nwA n 0, nwA n 1) (3 ^ n) := dig_O n hn
      have lA0 : ∀ s, nwA n 0 s < 128 := lA.1
      have lA1 : ∀ s, nwA n 1 s < 128 := lA.2
      have pb := fun s i hs hi => pos_bits (vr := vr) (mt := mt) (nt := nt) (rm := rm) (fm := fm) (q := (q1, q2)) (A := nwA n) hn dO lA0 lA1 hq1 hq2 rfl (s := s) (i := i) hs hi
      generalize hr : rtU (2 ^ n - 1) mt (fun i => nt i ||| matesOf n rm fm i) (q1, q2) n = r at *
      have l1 := lbG_ge (A := nwA n) (C := c2 r.1 r.2) (n := n) (3 ^ n - 1) (z_up (nwA n 2) (3 ^ n - 1) 0, z_up ((fun _ _ => 0 : Nat → Nat → Int64) 1) (3 ^ n - 1) 1) (3 ^ n - 1) (Nat.le_refl _)
      have l2 := lbG_eq (A := nwA n) (C := c2 r.1 r.2) (n := n) (3 ^ n - 1) (z_up (nwA n 2) (3 ^ n - 1) 0, z_up ((fun _ _ => 0 : Nat → Nat → Int64) 1) (3 ^ n - 1) 1)
      have ectN : ctN (nwA n) (fun _ _ => 0) n r = lbG (nwA n) (c2 r.1 r.2) n (3 ^ n - 1) (z_up (nwA n 2) (3 ^ n - 1) 0, z_up ((fun _ _ => 0 : Nat → Nat → Int64) 1) (3 ^ n - 1) 1) := rfl
      rw [← ectN] at l1 l2
      simp only [z_up_s] at l1
      generalize ctN (nwA n) (fun _ _ => 0) n r = g at *
      have e3 : 3 ^ n - 1 + 1 = 3 ^ n := by omega
      rw [e3] at tot
      have w1 := W_sOrd (h := h) (te := te) (tO := (n, rm, mt, nt, fm, vr)) (dr := dr) (pa := pa) (ro := ro) (fi := fi) (ci := ci) (ga := ga) (r1 := r1) (r2 := r2) (sw := sw) (k := k) (len := len) (m := m) (A := A) (B := B) (C := c2 q1 q2) (op := op) (sn := vr) (tl := false) (n := n) (la := 3 ^ n - 1) hN rfl
      have hN2 : nmOK (k, len, m, A, B, c2 q1 q2, op, vr, false, n, 3 ^ n - 1) cs := hN
      refine ⟨oldR h (wld h te (n, rm, mt, nt, fm, vr) dr pa ro fi (k, len, m, A, B, c2 q1 q2, op, vr, false, n, 3 ^ n - 1) cs ci ga r1 r2 sw) k, (un, 3 ^ n, 128 * n, z_up (nwA n) 2 g.1, z_up (fun _ _ => 0) 1 g.2, c2 r.1 r.2, op, vr, false, n, 3 ^ n - 1), (un + 8, uc + 8, us + (6 * 3 ^ n + 2 * (128 * n))), ?_, ⟨⟨n, hn, rfl, Nat.le_refl _, by show 128 * n < 10000; omega⟩, ⟨r.1, r.2, rfl, lt.1, lt.2⟩, lA0, lA1, dO⟩, ⟨rfl, rfl, rfl, Nat.le_refl _, l1.2, l1.1, ?_, ?_⟩, hN', Or.inr ⟨?_, rfl, by show len < 3 ^ n; omega, rfl⟩, Or.inr rfl⟩
      · intro d Q
        have := tot d Q
        rw [← W_ord hN, w1, W_nOrd hN2 u1 u2 u3] at this
        rw [this]
        rw [show us + 3 ^ n + 3 ^ n + 3 ^ n + 3 ^ n + 3 ^ n + 3 ^ n + 128 * n + 128 * n = us + (6 * 3 ^ n + 2 * (128 * n)) by omega]
        rfl
      · intro s hs
        exact l2 s hs
      · intro s hs i hi
        exact pb s i hs hi
      · intro j hj
        exact if_neg hj
end J1

