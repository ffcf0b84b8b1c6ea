/-! where they throw -/
section J34b
variable {h : Nat → zE} {te : cText} {tO dr : cTold} {pa : cPast} {ro : cRow} {fi : cFits} {od : cOrd} {cs : cCst} {ci : cCir} {ga : cGam} {r1 r2 : cRule} {sw : Bool} {d : Nat} {u : zU} {Q : zR → Prop} {n : Nat} {rm mt nt : Nat → Nat} {fm : Bool} {vr : Int32} {rk : Nat} {rf : Nat → Int64}
theorem zj_eq0 {off : Int} {t nx : Nat} {st : List Value} : zjump (.ifCond .eq off) (zt t) nx (.int 0 :: st) = some (t, st) := by simp [zjump, zif]
theorem zj_eq1 {off : Int} {t nx : Nat} {st : List Value} : zjump (.ifCond .eq off) (zt t) nx (.int 1 :: st) = some (nx, st) := by simp [zjump, zif]
theorem zj_ne0 {off : Int} {t nx : Nat} {st : List Value} : zjump (.ifCond .ne off) (zt t) nx (.int 0 :: st) = some (nx, st) := by simp [zjump, zif]
theorem zj_lt {off : Int} {t nx : Nat} {st : List Value} {a : Int32} (h : a < 0) : zjump (.ifCond .lt off) (zt t) nx (.int a :: st) = some (t, st) := by
  show some (zif .lt a 0 t nx, st) = _
  rw [show zif .lt a 0 t nx = t from if_pos h]
theorem zj_ltn {off : Int} {t nx : Nat} {st : List Value} {a : Int32} (h : ¬ a < 0) : zjump (.ifCond .lt off) (zt t) nx (.int a :: st) = some (nx, st) := by
  show some (zif .lt a 0 t nx, st) = _
  rw [show zif .lt a 0 t nx = nx from if_neg h]
theorem zj_icle {off : Int} {t nx : Nat} {st : List Value} {a b : Int32} (h : b < a) : zjump (.if_icmp .le off) (zt t) nx (.int b :: .int a :: st) = some (nx, st) := by
  show some (zif .le a b t nx, st) = _
  rw [show zif .le a b t nx = nx from if_pos h]
theorem zj_iclt {off : Int} {t nx : Nat} {st : List Value} {a b : Int32} (h : ¬ a < b) : zjump (.if_icmp .lt off) (zt t) nx (.int b :: .int a :: st) = some (nx, st) := by
  show some (zif .lt a b t nx, st) = _
  rw [show zif .lt a b t nx = nx from if_neg h]
theorem t_guest (hT : oldT (n, rm, mt, nt, fm, vr)) {x w : Int32} (hno : ¬ (hasB n x = true ∧ ¬ w < 0 ∧ ¬ 3 < w)) : zP 290 MX10_guest (fun pc S => pc = 20 ∧ S.2.1 = [] ∧ S.2.2 = ((wld h te (n, rm, mt, nt, fm, vr) dr pa (rk, rf) fi od cs ci ga r1 r2 sw), u)) 0 (z_in MX10_guest.2.2.2.1 [.ref 1, .int x, .int w], [], ((wld h te (n, rm, mt, nt, fm, vr) dr pa (rk, rf) fi od cs ci ga r1 r2 sw), u)) := by
  have hs := fun Q => c_has (d := 289) (u := u) (Q := Q) (g := x) (W_told (h := h) (te := te) (dr := dr) (pa := pa) (ro := (rk, rf)) (fi := fi) (od := od) (cs := cs) (ci := ci) (ga := ga) (r1 := r1) (r2 := r2) (sw := sw) hT)
  show zP 290 MX10_guest _ 0 ([.ref 1, .int x, .int w], [], ((wld h te (n, rm, mt, nt, fm, vr) dr pa (rk, rf) fi od cs ci ga r1 r2 sw), u))
  refine zP_pl (I := .aload_n 0) (S' := ([.ref 1, .int x, .int w], [.ref 1], ((wld h te (n, rm, mt, nt, fm, vr) dr pa (rk, rf) fi od cs ci ga r1 r2 sw), u))) (P := True) rfl rfl trivial rfl ?_
  refine zP_get (v := .ref 4) rfl (by rw [z_cell_lt (by decide)]; exact W_1 (h := h) (te := te) (tO := (n, rm, mt, nt, fm, vr)) (dr := dr) (pa := pa) (ro := (rk, rf)) (fi := fi) (od := od) (cs := cs) (ci := ci) (ga := ga) (r1 := r1) (r2 := r2) (sw := sw)) rfl rfl ?_
  refine zP_pl (I := .iload_n 1) (S' := ([.ref 1, .int x, .int w], [.int x, .ref 4], ((wld h te (n, rm, mt, nt, fm, vr) dr pa (rk, rf) fi od cs ci ga r1 r2 sw), u))) (P := True) rfl rfl trivial rfl ?_
  cases q : hasB n x with
  | false =>
    have hs : ∀ Q, zK 290 107 [.ref 4, .int x] ((wld h te (n, rm, mt, nt, fm, vr) dr pa (rk, rf) fi od cs ci ga r1 r2 sw), u) Q = Q (some (.int 0), ((wld h te (n, rm, mt, nt, fm, vr) dr pa (rk, rf) fi od cs ci ga r1 r2 sw), u)) := fun Q => by
      have h9 := hs Q
      simp only [q, Bool.false_eq_true, if_false] at h9
      exact h9
    have hs := y_eq hs
    refine zP_iv (as := [.int x]) (v := .int 0) rfl rfl (by show zisc (z_cell (wld h te (n, rm, mt, nt, fm, vr) dr pa (rk, rf) fi od cs ci ga r1 r2 sw) 4) 9; rw [z_cell_lt (by decide), W_4]; rfl) (by decide) (by show 2 ≤ 2; decide) (Nat.zero_le _) hs ?_
    refine zP_j (q := (20, [])) rfl zj_eq0 ?_
    exact zP_stop ⟨rfl, rfl, rfl⟩
  | true =>
    have hs : ∀ Q, zK 290 107 [.ref 4, .int x] ((wld h te (n, rm, mt, nt, fm, vr) dr pa (rk, rf) fi od cs ci ga r1 r2 sw), u) Q = Q (some (.int 1), ((wld h te (n, rm, mt, nt, fm, vr) dr pa (rk, rf) fi od cs ci ga r1 r2 sw), u)) := fun Q => by
      have h9 := hs Q
      simp only [q, if_true] at h9
      exact h9
    have hs := y_eq hs
    refine zP_iv (as := [.int x]) (v := .int 1) rfl rfl (by show zisc (z_cell (wld h te (n, rm, mt, nt, fm, vr) dr pa (rk, rf) fi od cs ci ga r1 r2 sw) 4) 9; rw [z_cell_lt (by decide), W_4]; rfl) (by decide) (by show 2 ≤ 2; decide) (Nat.zero_le _) hs ?_
    refine zP_j (q := (11, [])) rfl zj_eq1 ?_
    refine zP_pl (I := .iload_n 2) (S' := ([.ref 1, .int x, .int w], [.int w], ((wld h te (n, rm, mt, nt, fm, vr) dr pa (rk, rf) fi od cs ci ga r1 r2 sw), u))) (P := True) rfl rfl trivial rfl ?_
    by_cases q2 : w < 0
    · refine zP_j (q := (20, [])) rfl (zj_lt q2) ?_
      exact zP_stop ⟨rfl, rfl, rfl⟩
    · refine zP_j (q := (15, [])) rfl (zj_ltn q2) ?_
      have q3 : 3 < w := by
        by_cases q3 : 3 < w
        · exact q3
        · exact absurd ⟨q, q2, q3⟩ hno
      refine zP_pl (I := .iload_n 2) (S' := ([.ref 1, .int x, .int w], [.int w], ((wld h te (n, rm, mt, nt, fm, vr) dr pa (rk, rf) fi od cs ci ga r1 r2 sw), u))) (P := True) rfl rfl trivial rfl ?_
      refine zP_pl (I := .iconst 3) (S' := ([.ref 1, .int x, .int w], [.int 3, .int w], ((wld h te (n, rm, mt, nt, fm, vr) dr pa (rk, rf) fi od cs ci ga r1 r2 sw), u))) (P := True) rfl rfl trivial rfl ?_
      refine zP_j (q := (20, [])) rfl (zj_icle q3) ?_
      exact zP_stop ⟨rfl, rfl, rfl⟩
theorem t_pair (hT : oldT (n, rm, mt, nt, fm, vr)) {x w : Int32} (hno : (hasB n x && (hasB n w && decide (¬ x = w))) = false) : zP 290 MX10_pair (fun pc S => pc = 12 ∧ S.2.1 = [] ∧ S.2.2 = ((wld h te (n, rm, mt, nt, fm, vr) dr pa (rk, rf) fi od cs ci ga r1 r2 sw), u)) 0 (z_in MX10_pair.2.2.2.1 [.ref 1, .int x, .int w], [], ((wld h te (n, rm, mt, nt, fm, vr) dr pa (rk, rf) fi od cs ci ga r1 r2 sw), u)) := by
  have hs : ∀ Q, zK 290 108 [.ref 4, .int x, .int w] ((wld h te (n, rm, mt, nt, fm, vr) dr pa (rk, rf) fi od cs ci ga r1 r2 sw), u) Q = Q (some (.int 0), ((wld h te (n, rm, mt, nt, fm, vr) dr pa (rk, rf) fi od cs ci ga r1 r2 sw), u)) := fun Q => by
    have h9 := c_areTwo (d := 288) (u := u) (Q := Q) (g := x) (k := w) (W_told (h := h) (te := te) (dr := dr) (pa := pa) (ro := (rk, rf)) (fi := fi) (od := od) (cs := cs) (ci := ci) (ga := ga) (r1 := r1) (r2 := r2) (sw := sw) hT)
    simp only [hno, Bool.false_eq_true, if_false] at h9
    exact h9
  have hs := y_eq hs
  show zP 290 MX10_pair _ 0 ([.ref 1, .int x, .int w], [], ((wld h te (n, rm, mt, nt, fm, vr) dr pa (rk, rf) fi od cs ci ga r1 r2 sw), u))
  refine zP_pl (I := .aload_n 0) (S' := ([.ref 1, .int x, .int w], [.ref 1], ((wld h te (n, rm, mt, nt, fm, vr) dr pa (rk, rf) fi od cs ci ga r1 r2 sw), u))) (P := True) rfl rfl trivial rfl ?_
  refine zP_get (v := .ref 4) rfl (by rw [z_cell_lt (by decide)]; exact W_1 (h := h) (te := te) (tO := (n, rm, mt, nt, fm, vr)) (dr := dr) (pa := pa) (ro := (rk, rf)) (fi := fi) (od := od) (cs := cs) (ci := ci) (ga := ga) (r1 := r1) (r2 := r2) (sw := sw)) rfl rfl ?_
  refine zP_pl (I := .iload_n 1) (S' := ([.ref 1, .int x, .int w], [.int x, .ref 4], ((wld h te (n, rm, mt, nt, fm, vr) dr pa (rk, rf) fi od cs ci ga r1 r2 sw), u))) (P := True) rfl rfl trivial rfl ?_
  refine zP_pl (I := .iload_n 2) (S' := ([.ref 1, .int x, .int w], [.int w, .int x, .ref 4], ((wld h te (n, rm, mt, nt, fm, vr) dr pa (rk, rf) fi od cs ci ga r1 r2 sw), u))) (P := True) rfl rfl trivial rfl ?_
  refine zP_iv (as := [.int x, .int w]) (v := .int 0) rfl rfl (by show zisc (z_cell (wld h te (n, rm, mt, nt, fm, vr) dr pa (rk, rf) fi od cs ci ga r1 r2 sw) 4) 9; rw [z_cell_lt (by decide), W_4]; rfl) (by decide) (by show 3 ≤ 3; decide) (Nat.zero_le _) hs ?_
  refine zP_j (q := (12, [])) rfl zj_ne0 ?_
  exact zP_stop ⟨rfl, rfl, rfl⟩
theorem t_row {x : Int32} (hno : hasB rk x = false) : zP 290 MX10_row (fun pc S => pc = 15 ∧ S.2.1 = [] ∧ S.2.2 = ((wld h te (n, rm, mt, nt, fm, vr) dr pa (rk, rf) fi od cs ci ga r1 r2 sw), u)) 0 (z_in MX10_row.2.2.2.1 [.ref 1, .int x], [], ((wld h te (n, rm, mt, nt, fm, vr) dr pa (rk, rf) fi od cs ci ga r1 r2 sw), u)) := by
  show zP 290 MX10_row _ 0 ([.ref 1, .int x], [], ((wld h te (n, rm, mt, nt, fm, vr) dr pa (rk, rf) fi od cs ci ga r1 r2 sw), u))
  refine zP_pl (I := .iload_n 1) (S' := ([.ref 1, .int x], [.int x], ((wld h te (n, rm, mt, nt, fm, vr) dr pa (rk, rf) fi od cs ci ga r1 r2 sw), u))) (P := True) rfl rfl trivial rfl ?_
  by_cases q : x < 0
  · refine zP_j (q := (15, [])) rfl (zj_lt q) ?_
    exact zP_stop ⟨rfl, rfl, rfl⟩
  · refine zP_j (q := (4, [])) rfl (zj_ltn q) ?_
    have q2 : ¬ x < nI rk := by
      intro q2
      unfold hasB at hno
      rw [decide_eq_true q, decide_eq_true q2] at hno
      exact absurd hno (by decide)
    refine zP_pl (I := .iload_n 1) (S' := ([.ref 1, .int x], [.int x], ((wld h te (n, rm, mt, nt, fm, vr) dr pa (rk, rf) fi od cs ci ga r1 r2 sw), u))) (P := True) rfl rfl trivial rfl ?_
    refine zP_pl (I := .aload_n 0) (S' := ([.ref 1, .int x], [.ref 1, .int x], ((wld h te (n, rm, mt, nt, fm, vr) dr pa (rk, rf) fi od cs ci ga r1 r2 sw), u))) (P := True) rfl rfl trivial rfl ?_
    refine zP_get (v := .ref 16) rfl (by rw [z_cell_lt (by decide)]; exact W_1 (h := h) (te := te) (tO := (n, rm, mt, nt, fm, vr)) (dr := dr) (pa := pa) (ro := (rk, rf)) (fi := fi) (od := od) (cs := cs) (ci := ci) (ga := ga) (r1 := r1) (r2 := r2) (sw := sw)) rfl rfl ?_
    refine zP_get (v := .int (nI rk)) rfl (by rw [z_cell_lt (by decide)]; exact W_16 (h := h) (te := te) (tO := (n, rm, mt, nt, fm, vr)) (dr := dr) (pa := pa) (ro := (rk, rf)) (fi := fi) (od := od) (cs := cs) (ci := ci) (ga := ga) (r1 := r1) (r2 := r2) (sw := sw)) rfl rfl ?_
    refine zP_j (q := (15, [])) rfl (zj_iclt q2) ?_
    exact zP_stop ⟨rfl, rfl, rfl⟩
end J34b

