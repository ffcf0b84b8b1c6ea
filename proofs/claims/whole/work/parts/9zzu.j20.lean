/-! steps: cheapest and dearest orders -/
theorem lg_fi {n : Nat} {q : Nat → Nat → Bool} {TM : Nat → Nat} {ld : Nat → Nat → Bool} {W : Nat → Int64} (hW : ∀ s, s < 3 ^ n → W s = lN (TM s)) (hb : ∀ s, s < 3 ^ n → TM s ≤ 681080400) (hq : ∀ s i, s < 3 ^ n → i < n → (ld s (2 * i) = (q s i && decide (dg s i = 0))) ∧ ld s (2 * i + 1) = (q s i && decide (dg s i = 1))) {s i : Nat} (hs : s < 3 ^ n) (hi : i < n) : fiB ld W s (2 * i) = lgC ld W s (2 * i) ∧ fiB ld W s (2 * i + 1) = lgC ld W s (2 * i + 1) := by
  have key : ∀ e, e / 2 = i → (ld s e = true → dg s i ≤ 1) → fiB ld W s e = lgC ld W s e := by
    intro e he hl
    unfold fiB lgC
    rw [he]
    cases c : ld s e
    · rfl
    · have l := dg_add hi hs (hl c)
      rw [hW _ l]
      simp only [lN_pos' (hb _ l), lN_z (Nat.lt_of_le_of_lt (hb _ l) (by decide)), Nat.pos_iff_ne_zero, ne_eq]
  obtain ⟨q1, q2⟩ := hq s i hs hi
  refine ⟨key _ (by omega) (fun e => ?_), key _ (by omega) (fun e => ?_)⟩
  · rw [q1, Bool.and_eq_true, decide_eq_true_eq] at e; omega
  · rw [q2, Bool.and_eq_true, decide_eq_true_eq] at e; omega
theorem cheap_eq {n : Nat} {A : Nat → Nat → Nat} {p : Nat → Nat → Bool} {TC : Nat → Nat} {gd : Nat → Prop} {rm mt nt : Nat → Nat} {fm : Bool} {now : Nat → Int32} {r : cRule} {code : Nat → Int32} {L : Nat} (k2 : twoH n A p (qM now n) TC (mTab now n) gd) (kA : digA n A) (hg : gdT n mt nt) (hR : nowR n rm mt nt fm now) (hu : ruR r code L) {ld : Nat → Nat → Bool} {W : Nat → Int64} (hq : ∀ s i, s < 3 ^ n → i < n → (ld s (2 * i) = (qM now n s i && decide (dg s i = 0))) ∧ ld s (2 * i + 1) = (qM now n s i && decide (dg s i = 1))) (hW : ∀ s, s < 3 ^ n → W s = lN (mTab now n s)) (z : ¬ mTab now n 0 = 0) (wo th st co0 yet : Nat → Int32) (ma wi wg : Nat → Nat) (rf row : Nat → Int64) :
    pthG (chB ld W (wtV now n iV gV code L) (yV (lgC ld W) (wtV now n iV gV code L) n yet)) n (3 ^ n - 1) (2 * n) 0 ∧ lwC A n (3 ^ n - 1) (fwW r.1 r.2.2.2.1 n rm mt wo th st).1 ma wi wg co0 0 = yV (lgC ld W) (wtV now n iV gV code L) n yet 0 ∧ jR (itr (toS (prV false A (fwW r.1 r.2.2.2.1 n rm mt wo th st).1 wi wg) (lwC A n (3 ^ n - 1) (fwW r.1 r.2.2.2.1 n rm mt wo th st).1 ma wi wg co0) (fun s => evV false A ma n s) A n) (0, 0, rf) (2 * n)).2 (nI (pthR (chB ld W (wtV now n iV gV code L) (yV (lgC ld W) (wtV now n iV gV code L) n yet)) n (3 ^ n - 1) (2 * n) 0 (0, row)).1) (pthR (chB ld W (wtV now n iV gV code L) (yV (lgC ld W) (wtV now n iV gV code L) n yet)) n (3 ^ n - 1) (2 * n) 0 (0, row)).2 := by
  have H := k2
  obtain ⟨t1, t2, t3, t4, t5, t6, t7, t8⟩ := H
  have hb : ∀ s, s < 3 ^ n → mTab now n s ≤ 681080400 := fun s hs => cnt_le t1 t4 t6 hs
  have p3 := p3_pos n
  have ug := us_mk k2 hq hW hb (fun s i hs hi hd => pr_eq hg hR kA hu (wo := wo) (th := th) (st := st) (wi := wi) (wg := wg) hs hi hd)
  have lc := lc_mk (n := n) (pr := prV false A (fwW r.1 r.2.2.2.1 n rm mt wo th st).1 wi wg) (ev := A 2) co0
  have lm := lm_mk (n := n) (wt := wtV now n iV gV code L) (cn := lgC ld W) yet
  have le := least_eq t1 ug lc lm 0 p3 ⟨t2, z⟩
  have pm := path_mn t1 ug lc lm (A := A) t7 (cp := fiB ld W) (fun s i hs hG hi => by
    have f := lg_fi hW hb hq (s := s) (by omega) hi
    rw [f.1, f.2]
    exact ug.2.2.1 s i hs hG hi) (P := chB ld W (wtV now n iV gV code L) (yV (lgC ld W) (wtV now n iV gV code L) n yet)) (fun s e => rfl)
  have pe := path_eq (ev := A 2) (G := fun s => gd s ∧ ¬ mTab now n s = 0) ⟨t2, z⟩ pm rf row
  refine ⟨pe.1, le.1, ?_, ?_, ?_⟩
  · show (itr (toS _ _ (A 2) A n) (0, 0, rf) (2 * n)).2.1 ≤ 14
    exact Nat.le_trans (Nat.le_of_eq pe.2.1) (by omega)
  · exact congrArg nI (pe.2.1.trans pe.2.2.1.symm)
  · intro i hi
    have hi' : i < 2 * n := by
      have e := pe.2.1
      exact Nat.lt_of_lt_of_le hi (Nat.le_of_eq e)
    exact (pe.2.2.2 i hi').symm
theorem dear_eq2 {n : Nat} {A : Nat → Nat → Nat} {p : Nat → Nat → Bool} {TC : Nat → Nat} {gd : Nat → Prop} {rm mt nt : Nat → Nat} {fm : Bool} {now : Nat → Int32} {r : cRule} {code : Nat → Int32} {L : Nat} (k2 : twoH n A p (qM now n) TC (mTab now n) gd) (kA : digA n A) (hg : gdT n mt nt) (hR : nowR n rm mt nt fm now) (hu : ruR r code L) {ld : Nat → Nat → Bool} {W : Nat → Int64} (hq : ∀ s i, s < 3 ^ n → i < n → (ld s (2 * i) = (qM now n s i && decide (dg s i = 0))) ∧ ld s (2 * i + 1) = (qM now n s i && decide (dg s i = 1))) (hW : ∀ s, s < 3 ^ n → W s = lN (mTab now n s)) (z : ¬ mTab now n 0 = 0) (wo th st co0 : Nat → Int32) (wi wg : Nat → Nat) (y0 : deT) (w0 : Nat → Int64) :
    (gwC A n (3 ^ n - 1) (fwW r.1 r.2.2.2.1 n rm mt wo th st).1 wi wg co0 w0).1 0 = (deV (lgC ld W) (wtV now n iV gV code L) n y0).1 0 ∧ ∃ x, (gwC A n (3 ^ n - 1) (fwW r.1 r.2.2.2.1 n rm mt wo th st).1 wi wg co0 w0).2 0 = lN x ∧ (deV (lgC ld W) (wtV now n iV gV code L) n y0).2 0 = lN x ∧ x < 2147483648 := by
  have H := k2
  obtain ⟨t1, t2, t3, t4, t5, t6, t7, t8⟩ := H
  have hb : ∀ s, s < 3 ^ n → mTab now n s ≤ 681080400 := fun s hs => cnt_le t1 t4 t6 hs
  have p3 := p3_pos n
  have ug := us_mk k2 hq hW hb (fun s i hs hi hd => pr_eq hg hR kA hu (wo := wo) (th := th) (st := st) (wi := wi) (wg := wg) hs hi hd)
  have gw := gw_mk (n := n) (pr := prV false A (fwW r.1 r.2.2.2.1 n rm mt wo th st).1 wi wg) (ev := A 2) co0 w0
  have de := dear_eq t1 ug gw y0 t6.1 (fun s hs hG => by
    rw [t6.2 s hs]
    refine sumN_le n (fun i hi => ?_)
    by_cases c : (A 2 s).testBit i = true
    · rw [if_pos c]
      have u2 := ug.2.1 s i hs hG hi c
      have u3 := ug.2.2.1 s i hs hG hi
      have h1 := (hq s i (by omega) hi)
      have hl : qM now n s i = true := by
        unfold lgC at u3
        rw [h1.1, h1.2, c] at u3
        rcases (show dg s i = 0 ∨ dg s i = 1 by omega) with d | d
        · have := u3.1; rw [d] at this; simp at this; exact this.1
        · have := u3.2; rw [d] at this; simp at this; exact this.1
      rw [if_pos hl]
      exact Nat.le_refl _
    · rw [if_neg c]; exact Nat.zero_le _) hb 0 p3 ⟨t2, z⟩
  obtain ⟨d1, d2, -, x, d4, d5, d6⟩ := de
  exact ⟨d1, x, d4, d2.symm.trans d4, Nat.lt_of_le_of_lt (Nat.le_trans d6 (hb 0 p3)) (by decide)⟩

