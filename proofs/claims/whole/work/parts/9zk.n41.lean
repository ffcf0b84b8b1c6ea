/-! who stayed the longest, on both sides -/
/-- the least and the greatest of some values, from a start on -/
def mnJ (P : Nat → Bool) (v : Nat → Int32) : Nat → Int32 → Int32 := fun i r => if P i = true then (if v i < r then v i else r) else r
def mxJ (P : Nat → Bool) (v : Nat → Int32) : Nat → Int32 → Int32 := fun i r => if P i = true then (if r < v i then v i else r) else r
theorem mnJ_is {P : Nat → Bool} {v : Nat → Int32} {a : Int32} : ∀ k, (∀ i, i < k → P i = true → (itr (mnJ P v) a k).toInt ≤ (v i).toInt) ∧ (itr (mnJ P v) a k).toInt ≤ a.toInt ∧ (itr (mnJ P v) a k = a ∨ ∃ i, i < k ∧ P i = true ∧ itr (mnJ P v) a k = v i) := by
  intro k
  induction k with
  | zero => exact ⟨fun i hi => absurd hi (Nat.not_lt_zero _), Int.le_refl _, Or.inl rfl⟩
  | succ k ih =>
    obtain ⟨i1, i2, i3⟩ := ih
    rw [itr_s]
    generalize itr (mnJ P v) a k = r at *
    unfold mnJ
    by_cases c : P k = true
    · rw [if_pos c]
      by_cases c2 : v k < r
      · have c2' := Int32.lt_iff_toInt_lt.mp c2
        rw [if_pos c2]
        refine ⟨fun i hi hP => ?_, by omega, Or.inr ⟨k, by omega, c, rfl⟩⟩
        by_cases e : i = k
        · rw [e]; exact Int.le_refl _
        · have := i1 i (by omega) hP; omega
      · have c2' : ¬ (v k).toInt < r.toInt := fun z => c2 (Int32.lt_iff_toInt_lt.mpr z)
        rw [if_neg c2]
        refine ⟨fun i hi hP => ?_, i2, ?_⟩
        · by_cases e : i = k
          · rw [e]; omega
          · exact i1 i (by omega) hP
        · rcases i3 with z | ⟨i, h1, h2, h3⟩
          · exact Or.inl z
          · exact Or.inr ⟨i, by omega, h2, h3⟩
    · rw [if_neg c]
      refine ⟨fun i hi hP => ?_, i2, ?_⟩
      · by_cases e : i = k
        · rw [e] at hP; exact absurd hP c
        · exact i1 i (by omega) hP
      · rcases i3 with z | ⟨i, h1, h2, h3⟩
        · exact Or.inl z
        · exact Or.inr ⟨i, by omega, h2, h3⟩
theorem mxJ_is {P : Nat → Bool} {v : Nat → Int32} {a : Int32} : ∀ k, (∀ i, i < k → P i = true → (v i).toInt ≤ (itr (mxJ P v) a k).toInt) ∧ a.toInt ≤ (itr (mxJ P v) a k).toInt ∧ (itr (mxJ P v) a k = a ∨ ∃ i, i < k ∧ P i = true ∧ itr (mxJ P v) a k = v i) := by
  intro k
  induction k with
  | zero => exact ⟨fun i hi => absurd hi (Nat.not_lt_zero _), Int.le_refl _, Or.inl rfl⟩
  | succ k ih =>
    obtain ⟨i1, i2, i3⟩ := ih
    rw [itr_s]
    generalize itr (mxJ P v) a k = r at *
    unfold mxJ
    by_cases c : P k = true
    · rw [if_pos c]
      by_cases c2 : r < v k
      · have c2' := Int32.lt_iff_toInt_lt.mp c2
        rw [if_pos c2]
        refine ⟨fun i hi hP => ?_, by omega, Or.inr ⟨k, by omega, c, rfl⟩⟩
        by_cases e : i = k
        · rw [e]; exact Int.le_refl _
        · have := i1 i (by omega) hP; omega
      · have c2' : ¬ r.toInt < (v k).toInt := fun z => c2 (Int32.lt_iff_toInt_lt.mpr z)
        rw [if_neg c2]
        refine ⟨fun i hi hP => ?_, i2, ?_⟩
        · by_cases e : i = k
          · rw [e]; omega
          · exact i1 i (by omega) hP
        · rcases i3 with z | ⟨i, h1, h2, h3⟩
          · exact Or.inl z
          · exact Or.inr ⟨i, by omega, h2, h3⟩
    · rw [if_neg c]
      refine ⟨fun i hi hP => ?_, i2, ?_⟩
      · by_cases e : i = k
        · rw [e] at hP; exact absurd hP c
        · exact i1 i (by omega) hP
      · rcases i3 with z | ⟨i, h1, h2, h3⟩
        · exact Or.inl z
        · exact Or.inr ⟨i, by omega, h2, h3⟩
theorem rsI_mn {co : Nat → Int32} {s ev g : Nat} {f : Int32} : ∀ k, itr (rsI co s ev g f) (0, false) k = ((mnO (fun i => ev.testBit i) (fun i => if i = g then 0 else f + co (s + 3 ^ i)) k).getD 0, (mnO (fun i => ev.testBit i) (fun i => if i = g then 0 else f + co (s + 3 ^ i)) k).isSome) := by
  intro k
  induction k with
  | zero => rfl
  | succ k ih =>
    rw [itr_s, ih, mnO_s]
    unfold rsI
    by_cases c : ev.testBit k = true
    · rw [if_pos c, if_pos c]
      cases q : mnO (fun i => ev.testBit i) (fun i => if i = g then 0 else f + co (s + 3 ^ i)) k with
      | none => simp
      | some m =>
        simp only [Option.isSome_some, if_true, Option.getD_some]
        by_cases c1 : (if k = g then 0 else f + co (s + 3 ^ k)) < m
        · rw [if_pos c1, if_pos c1]
        · rw [if_neg c1, if_neg c1]
    · rw [if_neg c, if_neg c]
section N41
variable {n g : Nat} {A : Nat → Nat → Nat} {f : Int32} {ah : Nat → Int64} {pw : Nat}
/-- a stay is told: the guest is in, and the state is reached -/
def lsC (A : Nat → Nat → Nat) (ah : Nat → Int64) (g pw j : Nat) : Prop := 0 < ah (pw + j) ∧ (A 0 (pw + j)).testBit g = true
def lsD (A : Nat → Nat → Nat) (ah : Nat → Int64) (g j : Nat) : Prop := 0 < ah j ∧ (A 2 j).testBit g = true
theorem lsF_no {j : Nat} {q : (Nat → Int32) × Int32 × Bool} (h : ¬ lsC A ah g pw j) : lsF A ah n g f pw j q = q := by
  unfold lsF
  by_cases c : 0 < ah (pw + j)
  · rw [if_pos c, if_neg (fun z => h ⟨c, z⟩)]
  · rw [if_neg c]
theorem lsF_c {j : Nat} {q : (Nat → Int32) × Int32 × Bool} (h : lsC A ah g pw j) (hd : ¬ lsD A ah g j) : lsF A ah n g f pw j q = (upd q.1 (pw + j) (lrV A n q.1 (pw + j) g f), q.2) := by
  unfold lsF
  rw [if_pos h.1, if_pos h.2]
  by_cases c : 0 < ah j
  · rw [if_pos c, if_neg (fun z => hd ⟨c, z⟩)]
  · rw [if_neg c]
theorem lsF_d {j : Nat} {q : (Nat → Int32) × Int32 × Bool} (h : lsC A ah g pw j) (hd : lsD A ah g j) : lsF A ah n g f pw j q = (upd q.1 (pw + j) (lrV A n q.1 (pw + j) g f), if q.2.2 = true ∧ ¬ lrV A n q.1 (pw + j) g f < q.2.1 then q.2.1 else lrV A n q.1 (pw + j) g f, true) := by
  unfold lsF
  rw [if_pos h.1, if_pos h.2, if_pos hd.1, if_pos hd.2]
  obtain ⟨q1, q2, q3⟩ := q
  dsimp only
  cases q3 with
  | false => rw [if_neg Bool.false_ne_true, if_neg (fun z => Bool.false_ne_true z.1)]
  | true =>
    rw [if_pos rfl]
    by_cases c : lrV A n q1 (pw + j) g f < q2
    · rw [if_pos c, if_neg (fun z => z.2 c)]
    · rw [if_neg c, if_pos ⟨rfl, c⟩]
theorem lrV_cg {co co' : Nat → Int32} {s : Nat} (h : ∀ x, s < x → co x = co' x) : lrV A n co s g f = lrV A n co' s g f := by
  unfold lrV rsI
  have e : ∀ i, co (s + 3 ^ i) = co' (s + 3 ^ i) := fun i => h _ (by have := p3_pos i; omega)
  simp only [e]
theorem ls_tab : ∀ k (co : Nat → Int32) (le : Int32) (fo : Bool), (∀ x, x < pw ∨ pw + k ≤ x → (dtr (lsF A ah n g f pw) k (co, le, fo)).1 x = co x) ∧ (∀ t, t < k → lsC A ah g pw t → (dtr (lsF A ah n g f pw) k (co, le, fo)).1 (pw + t) = lrV A n (dtr (lsF A ah n g f pw) k (co, le, fo)).1 (pw + t) g f) ∧ (∀ t, t < k → lsC A ah g pw t → lsD A ah g t → (dtr (lsF A ah n g f pw) k (co, le, fo)).2.2 = true ∧ (dtr (lsF A ah n g f pw) k (co, le, fo)).2.1.toInt ≤ ((dtr (lsF A ah n g f pw) k (co, le, fo)).1 (pw + t)).toInt) ∧ (fo = true → (dtr (lsF A ah n g f pw) k (co, le, fo)).2.2 = true ∧ (dtr (lsF A ah n g f pw) k (co, le, fo)).2.1.toInt ≤ le.toInt) ∧ ((dtr (lsF A ah n g f pw) k (co, le, fo)).2 = (le, fo) ∨ ∃ t, t < k ∧ lsC A ah g pw t ∧ lsD A ah g t ∧ (dtr (lsF A ah n g f pw) k (co, le, fo)).2.1 = (dtr (lsF A ah n g f pw) k (co, le, fo)).1 (pw + t)) := by
  intro k
  induction k with
  | zero => exact fun co le fo => ⟨fun x _ => rfl, fun t ht => absurd ht (Nat.not_lt_zero _), fun t ht => absurd ht (Nat.not_lt_zero _), fun h => ⟨h, Int.le_refl _⟩, Or.inl rfl⟩
  | succ k ih =>
    intro co le fo
    rw [dtr_s]
    by_cases c : lsC A ah g pw k
    · have hst : ∃ co' le' fo', lsF A ah n g f pw k (co, le, fo) = (co', le', fo') ∧ co' = upd co (pw + k) (lrV A n co (pw + k) g f) ∧ (fo = true → fo' = true ∧ le'.toInt ≤ le.toInt) ∧ (lsD A ah g k → fo' = true ∧ le'.toInt ≤ (lrV A n co (pw + k) g f).toInt) ∧ ((le', fo') = (le, fo) ∨ (lsD A ah g k ∧ le' = lrV A n co (pw + k) g f)) := by
        by_cases d : lsD A ah g k
        · refine ⟨_, _, _, lsF_d c d, rfl, fun hfo => ⟨rfl, ?_⟩, fun _ => ⟨rfl, ?_⟩, ?_⟩
          · dsimp only
            split
            · exact Int.le_refl _
            · rename_i z
              have : lrV A n co (pw + k) g f < le := Classical.byContradiction (fun w => z ⟨hfo, w⟩)
              have := Int32.lt_iff_toInt_lt.mp this
              omega
          · dsimp only
            split
            · rename_i z
              have : ¬ (lrV A n co (pw + k) g f).toInt < le.toInt := fun w => z.2 (Int32.lt_iff_toInt_lt.mpr w)
              omega
            · exact Int.le_refl _
          · dsimp only
            split
            · rename_i z; exact Or.inl (by rw [z.1])
            · exact Or.inr ⟨d, rfl⟩
        · exact ⟨_, _, _, lsF_c c d, rfl, fun h => ⟨h, Int.le_refl _⟩, fun z => absurd z d, Or.inl rfl⟩
      obtain ⟨co', le', fo', e0, e1, e2, e3, e4⟩ := hst
      rw [e0]
      obtain ⟨i1, i2, i3, i4, i5⟩ := ih co' le' fo'
      generalize dtr (lsF A ah n g f pw) k (co', le', fo') = r at *
      have ek : r.1 (pw + k) = lrV A n co (pw + k) g f := by
        rw [i1 (pw + k) (Or.inr (Nat.le_refl _)), e1, upd_s]
      have ek2 : lrV A n co (pw + k) g f = lrV A n r.1 (pw + k) g f := lrV_cg (fun x hx => by
        rw [i1 x (Or.inr (by omega)), e1, upd_o _ _ (by omega)])
      refine ⟨fun x hx => ?_, fun t ht hc => ?_, fun t ht hc hd => ?_, fun h => ?_, ?_⟩
      · rw [i1 x (by omega), e1, upd_o _ _ (by omega)]
      · by_cases q : t = k
        · subst q; rw [ek, ek2]
        · exact i2 t (by omega) hc
      · by_cases q : t = k
        · subst q
          obtain ⟨a1, a2⟩ := e3 hd
          obtain ⟨b1, b2⟩ := i4 a1
          exact ⟨b1, by rw [ek]; omega⟩
        · exact i3 t (by omega) hc hd
      · obtain ⟨a1, a2⟩ := e2 h
        obtain ⟨b1, b2⟩ := i4 a1
        exact ⟨b1, by omega⟩
      · rcases i5 with z | ⟨t, t1, t2, t3, t4⟩
        · rcases e4 with w | ⟨w1, w2⟩
          · exact Or.inl (z.trans w)
          · exact Or.inr ⟨k, by omega, c, w1, by rw [ek, z]; exact w2⟩
        · exact Or.inr ⟨t, by omega, t2, t3, t4⟩
    · rw [lsF_no c]
      obtain ⟨i1, i2, i3, i4, i5⟩ := ih co le fo
      refine ⟨fun x hx => i1 x (by omega), fun t ht hc => ?_, fun t ht hc hd => ?_, i4, ?_⟩
      · by_cases q : t = k
        · subst q; exact absurd hc c
        · exact i2 t (by omega) hc
      · by_cases q : t = k
        · subst q; exact absurd hc c
        · exact i3 t (by omega) hc hd
      · rcases i5 with z | ⟨t, t1, t2, t3, t4⟩
        · exact Or.inl z
        · exact Or.inr ⟨t, by omega, t2, t3, t4⟩
end N41
section N41b
variable {n g : Nat} {cn : Nat → Nat → Bool} {ev : Nat → Int32} {iN : Nat → Nat}
theorem lgE_J {s : Nat} {y : lgT} {a b : Int32} : ∀ k, itr (lgE cn ev g s) (z_up y.1 s a, z_up y.2 s b) k = (z_up y.1 s (itr (mxJ (cn s) (fun e => if e = 2 * g + 1 then ev s else y.1 (s + 3 ^ (e / 2)))) a k), z_up y.2 s (itr (mnJ (cn s) (fun e => if e = 2 * g + 1 then ev s else y.2 (s + 3 ^ (e / 2)))) b k)) := by
  intro k
  induction k with
  | zero => rfl
  | succ k ih =>
    rw [itr_s, itr_s, itr_s, ih]
    generalize itr (mxJ (cn s) (fun e => if e = 2 * g + 1 then ev s else y.1 (s + 3 ^ (e / 2)))) a k = a'
    generalize itr (mnJ (cn s) (fun e => if e = 2 * g + 1 then ev s else y.2 (s + 3 ^ (e / 2)))) b k = b'
    unfold lgE mxJ mnJ
    have hp := p3_pos (k / 2)
    by_cases c : cn s k = true
    · simp only [c, if_true]
      by_cases c2 : k = 2 * g + 1
      · simp only [c2, if_true, zup_eq, zup_up]
      · simp only [c2, if_false, zup_eq, zup_up, zup_ne _ _ (show s + 3 ^ (k / 2) ≠ s by omega)]
    · simp only [c, if_false]
      rfl
theorem lg_tab (y0 : lgT) : ∀ s, s < 3 ^ n → (iN s).testBit g = true → (dtr (lgS cn ev iN n g) (3 ^ n) y0).1 s = itr (mxJ (cn s) (fun e => if e = 2 * g + 1 then ev s else (dtr (lgS cn ev iN n g) (3 ^ n) y0).1 (s + 3 ^ (e / 2)))) (-1000000) (2 * n) ∧ (dtr (lgS cn ev iN n g) (3 ^ n) y0).2 s = itr (mnJ (cn s) (fun e => if e = 2 * g + 1 then ev s else (dtr (lgS cn ev iN n g) (3 ^ n) y0).2 (s + 3 ^ (e / 2)))) 1000000 (2 * n) := by
  have hS : ∀ s y, lgS cn ev iN n g s y = if (iN s).testBit g = true then (z_up y.1 s (itr (mxJ (cn s) (fun e => if e = 2 * g + 1 then ev s else y.1 (s + 3 ^ (e / 2)))) (-1000000) (2 * n)), z_up y.2 s (itr (mnJ (cn s) (fun e => if e = 2 * g + 1 then ev s else y.2 (s + 3 ^ (e / 2)))) 1000000 (2 * n))) else (z_up y.1 s (-1000000), z_up y.2 s 1000000) := by
    intro s y
    unfold lgS
    rw [lgE_J]
  have hl : ∀ t x j, j ≠ t → (lgS cn ev iN n g t x).1 j = x.1 j ∧ (lgS cn ev iN n g t x).2 j = x.2 j := by
    intro t x j h
    rw [hS]
    split
    · exact ⟨zup_ne _ _ h, zup_ne _ _ h⟩
    · exact ⟨zup_ne _ _ h, zup_ne _ _ h⟩
  have hd : ∀ t x y, (∀ j, t < j → x.1 j = y.1 j ∧ x.2 j = y.2 j) → (lgS cn ev iN n g t x).1 t = (lgS cn ev iN n g t y).1 t ∧ (lgS cn ev iN n g t x).2 t = (lgS cn ev iN n g t y).2 t := by
    intro t x y h
    have e1 : ∀ i, x.1 (t + 3 ^ i) = y.1 (t + 3 ^ i) := fun i => (h _ (by have := p3_pos i; omega)).1
    have e2 : ∀ i, x.2 (t + 3 ^ i) = y.2 (t + 3 ^ i) := fun i => (h _ (by have := p3_pos i; omega)).2
    rw [hS, hS]
    split
    · simp only [zup_eq, e1, e2]
      exact ⟨trivial, trivial⟩
    · simp only [zup_eq]
      exact ⟨trivial, trivial⟩
  intro s hs hi
  have key := dtr2_tab hl hd (3 ^ n) y0 s hs
  rw [hS, if_pos hi] at key
  simp only [zup_eq] at key
  exact key
theorem lgP_J {V : Nat → Int64} {y : lgT} {a b : Int32} : ∀ k, itr (lgP cn V ev y g) (a, b) k = (itr (mxJ (fun s => decide (0 < V s ∧ cn s (2 * g) = true)) (fun s => y.1 (s + 3 ^ g) - ev (s + 3 ^ g))) a k, itr (mnJ (fun s => decide (0 < V s ∧ cn s (2 * g) = true)) (fun s => y.2 (s + 3 ^ g) - ev (s + 3 ^ g))) b k) := by
  intro k
  induction k with
  | zero => rfl
  | succ k ih =>
    rw [itr_s, itr_s, itr_s, ih]
    unfold lgP mxJ mnJ
    by_cases c : 0 < V k ∧ cn k (2 * g) = true
    · simp only [c, and_self, if_true, decide_true]
    · simp only [if_neg c, decide_eq_false c, Bool.false_eq_true, if_false]
end N41b

