/-! who knows whom by whom, on both sides -/
theorem srch_at {p : Nat → Bool} : ∀ j i, (∃ k, i ≤ k ∧ k < i + j ∧ p k = true) → i ≤ srch p i j ∧ srch p i j < i + j ∧ p (srch p i j) = true ∧ ∀ k, i ≤ k → k < srch p i j → p k = false := by
  intro j
  induction j with
  | zero => rintro i ⟨k, h1, h2, -⟩; exact absurd h2 (by omega)
  | succ j ih =>
    rintro i ⟨k, h1, h2, h3⟩
    rw [srch_s]
    by_cases c : p i = true
    · rw [if_pos c]
      exact ⟨Nat.le_refl _, by omega, c, fun k h1 h2 => absurd h2 (by omega)⟩
    · have c' : p i = false := by cases e : p i <;> simp_all
      rw [if_neg c]
      have hk : k ≠ i := fun e => by rw [e] at h3; exact c h3
      obtain ⟨a1, a2, a3, a4⟩ := ih (i + 1) ⟨k, by omega, by omega, h3⟩
      refine ⟨by omega, by omega, a3, fun x h1 h2 => ?_⟩
      by_cases e : x = i
      · rw [e]; exact c'
      · exact a4 x (by omega) h2
/-- those who are within so many steps -/
def lyr (mt : Nat → Nat) (n t : Nat) (i : Nat) : Nat := itr (fun _ r => r ||| mba mt r n) (2 ^ t) i
theorem pop_sub : ∀ x, x < 128 → ∀ y, y < 128 → x ||| y = y → x ≠ y → pop x < pop y := by decide +kernel
theorem pop_pow : ∀ g, g < 7 → pop (2 ^ g) = 1 := by decide
section N48
variable {n g : Nat} {rm mt nt : Nat → Nat} {fm : Bool} {now : Nat → Int32}
theorem ly_s (i : Nat) : lyr mt n g (i + 1) = lyr mt n g i ||| mba mt (lyr mt n g i) n := rfl
theorem ly_bit {i x : Nat} : (lyr mt n g (i + 1)).testBit x = true ↔ (lyr mt n g i).testBit x = true ∨ ∃ y, y < n ∧ (lyr mt n g i).testBit y = true ∧ (mt y).testBit x = true := by
  rw [ly_s, Nat.testBit_or, Bool.or_eq_true, mba_bit]
theorem ly_mono {x i : Nat} (h : (lyr mt n g i).testBit x = true) : ∀ j, (lyr mt n g (i + j)).testBit x = true := by
  intro j
  induction j with
  | zero => exact h
  | succ j ih => exact ly_bit.mpr (Or.inl ih)
theorem ly_le {x i j : Nat} (hij : i ≤ j) (h : (lyr mt n g i).testBit x = true) : (lyr mt n g j).testBit x = true := by
  have := ly_mono h (j - i)
  rw [show i + (j - i) = j by omega] at this
  exact this
theorem ly_n (hg : gdT n mt nt) (hgn : g < n) {x : Nat} : ∀ i, (lyr mt n g i).testBit x = true → x < n := by
  intro i
  induction i with
  | zero =>
    intro h
    have h : (2 ^ g).testBit x = true := h
    rw [Nat.testBit_two_pow] at h
    have := of_decide_eq_true h
    omega
  | succ i ih =>
    intro h
    rcases ly_bit.mp h with h | ⟨y, h1, h2, h3⟩
    · exact ih h
    · rcases Nat.lt_or_ge x n with c | c
      · exact c
      · rw [bit_n (hg.2.1 y h1).1 c] at h3; exact absurd h3 (by decide)
theorem ly_lt (hg : gdT n mt nt) (hgn : g < n) (i : Nat) : lyr mt n g i < 2 ^ n := by
  apply Nat.lt_pow_two_of_testBit
  intro x hx
  cases e : (lyr mt n g i).testBit x
  · rfl
  · have := ly_n hg hgn i e; omega
/-- after as many steps as there are guests nobody is added -/
theorem ly_end (hg : gdT n mt nt) (hgn : g < n) {x i : Nat} (h : (lyr mt n g i).testBit x = true) : (lyr mt n g (n - 1)).testBit x = true := by
  have hn := hg.1
  have h2 := two7 hn
  have l := fun i => ly_lt (mt := mt) hg hgn i
  have key : ∀ k, (∃ j, j < k ∧ lyr mt n g (j + 1) = lyr mt n g j) ∨ k + 1 ≤ pop (lyr mt n g k) := by
    intro k
    induction k with
    | zero => exact Or.inr (by show 1 ≤ pop (2 ^ g); rw [pop_pow g (by omega)]; exact Nat.le_refl _)
    | succ k ih =>
      rcases ih with ⟨j, j1, j2⟩ | ih
      · exact Or.inl ⟨j, by omega, j2⟩
      · by_cases c : lyr mt n g (k + 1) = lyr mt n g k
        · exact Or.inl ⟨k, by omega, c⟩
        · refine Or.inr ?_
          have := pop_sub (lyr mt n g k) (by have := l k; omega) (lyr mt n g (k + 1)) (by have := l (k + 1); omega) (by rw [ly_s, ← Nat.or_assoc, Nat.or_self]) (fun e => c e.symm)
          omega
  rcases key n with ⟨j, j1, j2⟩ | q
  · have st : ∀ m, lyr mt n g (j + m) = lyr mt n g j := by
      intro m
      induction m with
      | zero => rfl
      | succ m im => rw [show j + (m + 1) = j + m + 1 by omega, ly_s, im, ← ly_s, j2]
    have e1 := st (n - 1 - j)
    rw [show j + (n - 1 - j) = n - 1 by omega] at e1
    rw [e1]
    rcases Nat.lt_or_ge i j with c | c
    · exact ly_le (by omega) h
    · have e2 := st (i - j)
      rw [show j + (i - j) = i by omega] at e2
      rw [← e2]; exact h
  · have := pop_all n (by omega) _ (l n)
    omega
theorem rb_eq {f : Nat} : ∀ j i (be : Nat → Int32), (∀ x, x < i → (rbV mt n f i j (lyr mt n g i) be).2 x = be x) ∧ (((rbV mt n f i j (lyr mt n g i) be).1 = 0 ∧ ∀ k, i ≤ k → k < i + j → (lyr mt n g k).testBit f = false) ∨ ∃ k, i ≤ k ∧ k < i + j ∧ (rbV mt n f i j (lyr mt n g i) be).1 = k + 1 ∧ (lyr mt n g k).testBit f = true ∧ (∀ k', i ≤ k' → k' < k → (lyr mt n g k').testBit f = false) ∧ ∀ x, i ≤ x → x ≤ k → (rbV mt n f i j (lyr mt n g i) be).2 x = nI (lyr mt n g x)) := by
  intro j
  induction j with
  | zero => exact fun i be => ⟨fun _ _ => rfl, Or.inl ⟨rfl, fun k h1 h2 => absurd h2 (by omega)⟩⟩
  | succ j ih =>
    intro i be
    rw [rbV_s]
    by_cases c : (lyr mt n g i).testBit f = true
    · rw [if_pos c]
      refine ⟨fun x hx => upd_o _ _ (by omega), Or.inr ⟨i, Nat.le_refl _, by omega, rfl, c, fun k' h1 h2 => absurd h2 (by omega), fun x h1 h2 => ?_⟩⟩
      have : x = i := by omega
      subst this
      exact upd_s _ _ _
    · have c' : (lyr mt n g i).testBit f = false := by cases e : (lyr mt n g i).testBit f <;> simp_all
      rw [if_neg c]
      obtain ⟨a1, a2⟩ := ih (i + 1) (upd be i (nI (lyr mt n g i)))
      rw [ly_s] at a1 a2
      generalize rbV mt n f (i + 1) j (lyr mt n g i ||| mba mt (lyr mt n g i) n) (upd be i (nI (lyr mt n g i))) = R at *
      refine ⟨fun x hx => (a1 x (by omega)).trans (upd_o _ _ (by omega)), ?_⟩
      rcases a2 with ⟨b1, b2⟩ | ⟨k, k1, k2, k3, k4, k5, k6⟩
      · refine Or.inl ⟨b1, fun k h1 h2 => ?_⟩
        by_cases e : k = i
        · rw [e]; exact c'
        · exact b2 k (by omega) (by omega)
      · refine Or.inr ⟨k, by omega, by omega, k3, k4, fun k' h1 h2 => ?_, fun x h1 h2 => ?_⟩
        · by_cases e : k' = i
          · rw [e]; exact c'
          · exact k5 k' (by omega) h2
        · by_cases e : x = i
          · subst e; exact (a1 x (by omega)).trans (upd_s _ _ _)
          · exact k6 x (by omega) h2
/-- steps told are true -/
def heO (mt : Nat → Nat) (n g : Nat) (w : Nat → Int32) : Prop := ∀ x, x < n → 1 ≤ (w x).toInt ∧ (w x).toInt ≤ 1000000 ∧ ((w x).toInt < 1000000 → (lyr mt n g ((w x).toInt.toNat - 1)).testBit x = true)
/-- near ones have been found -/
def heD (mt : Nat → Nat) (n g k : Nat) (w : Nat → Int32) : Prop := ∀ k' x, k' ≤ k → x < n → (lyr mt n g k').testBit x = true → (w x).toInt ≤ (k' : Int) + 1
theorem heB_ok (hg : gdT n mt nt) (hR : nowR n rm mt nt fm now) {w : Nat → Int32} (ho : heO mt n g w) {a b : Nat} (ha : a < n) (hb : b < n) : heO mt n g (heB now a b w) ∧ (∀ x, x < n → (heB now a b w x).toInt ≤ (w x).toInt) ∧ (metB now a b = true → (heB now a b w a).toInt ≤ (w b).toInt + 1) := by
  unfold heB
  by_cases c : metB now a b = true
  · rw [if_pos c]
    obtain ⟨b1, b2, b3⟩ := ho b hb
    obtain ⟨a1, a2, a3⟩ := ho a ha
    have e1 : (w b + 1).toInt = (w b).toInt + 1 := by
      have o : (1 : Int32).toInt = 1 := rfl
      rw [Int32.toInt_add, o, Int.bmod_eq_of_le (by omega) (by omega)]
    by_cases c2 : w b + 1 < w a
    · have c2' := Int32.lt_iff_toInt_lt.mp c2
      rw [if_pos c2]
      have mb : (mt b).testBit a = true := by rw [(hg.2.2.1 b a hb ha).1, ← met_bit hg hR ha hb]; exact c
      refine ⟨fun x hx => ?_, fun x hx => ?_, fun _ => ?_⟩
      · by_cases q : x = a
        · subst q
          rw [zup_eq, e1]
          refine ⟨by omega, by omega, fun _ => ?_⟩
          have h0 := b3 (by omega)
          have e2 : ((w b).toInt + 1).toNat - 1 = (w b).toInt.toNat - 1 + 1 := by omega
          rw [e2]
          exact ly_bit.mpr (Or.inr ⟨b, hb, h0, mb⟩)
        · rw [zup_ne _ _ q]; exact ho x hx
      · by_cases q : x = a
        · subst q; rw [zup_eq]; omega
        · rw [zup_ne _ _ q]; exact Int.le_refl _
      · rw [zup_eq, e1]; exact Int.le_refl _
    · have c2' : ¬ (w b + 1).toInt < (w a).toInt := fun z => c2 (Int32.lt_iff_toInt_lt.mpr z)
      rw [if_neg c2]
      have ez : z_up w a (w a) = w := by
        funext x
        by_cases q : x = a
        · subst q; rw [zup_eq]
        · rw [zup_ne _ _ q]
      rw [ez]
      exact ⟨ho, fun _ _ => Int.le_refl _, fun _ => by omega⟩
  · rw [if_neg c]
    exact ⟨ho, fun _ _ => Int.le_refl _, fun h => absurd h c⟩
theorem he_round (hg : gdT n mt nt) (hR : nowR n rm mt nt fm now) {w : Nat → Int32} {k r : Nat} (ho : heO mt n g w) (hd : heD mt n g k w) : heO mt n g (heN now n r w) ∧ heD mt n g (k + 1) (heN now n r w) := by
  have key := itr_inv (f := heA now n) (x := w) (N := n) (fun a w => heO mt n g w ∧ heD mt n g k w ∧ ∀ a', a' < a → (lyr mt n g (k + 1)).testBit a' = true → (w a').toInt ≤ (k : Int) + 2) ⟨ho, hd, fun a' h => absurd h (Nat.not_lt_zero _)⟩ (fun a w ha ⟨h1, h2, h3⟩ => by
    have inner := itr_inv (f := heB now a) (x := w) (N := n) (fun b w => heO mt n g w ∧ heD mt n g k w ∧ (∀ a', a' < a → (lyr mt n g (k + 1)).testBit a' = true → (w a').toInt ≤ (k : Int) + 2) ∧ ∀ b', b' < b → metB now a b' = true → (lyr mt n g k).testBit b' = true → (w a).toInt ≤ (k : Int) + 2) ⟨h1, h2, h3, fun b' h => absurd h (Nat.not_lt_zero _)⟩ (fun b w hb ⟨h1, h2, h3, h4⟩ => by
      obtain ⟨o1, o2, o3⟩ := heB_ok hg hR h1 ha hb
      refine ⟨o1, fun k' x hk' hx hl => Int.le_trans (o2 x hx) (h2 k' x hk' hx hl), fun a' ha' hl => Int.le_trans (o2 a' (by omega)) (h3 a' ha' hl), fun b' hb' hm hl => ?_⟩
      by_cases q : b' = b
      · subst q
        have := o3 hm
        have := h2 k b' (Nat.le_refl _) hb hl
        omega
      · exact Int.le_trans (o2 a ha) (h4 b' (by omega) hm hl)) n (Nat.le_refl _)
    obtain ⟨i1, i2, i3, i4⟩ := inner
    refine ⟨i1, i2, fun a' ha' hl => ?_⟩
    show ((itr (heB now a) w n) a').toInt ≤ _
    by_cases q : a' = a
    · subst q
      rcases ly_bit.mp hl with h | ⟨y, y1, y2, y3⟩
      · have := i2 k a' (Nat.le_refl _) ha h
        omega
      · exact i4 y y1 (by rw [met_bit hg hR ha y1, ← (hg.2.2.1 y a' y1 ha).1]; exact y3) y2
    · exact i3 a' (by omega) hl) n (Nat.le_refl _)
  obtain ⟨k1, k2, k3⟩ := key
  refine ⟨k1, fun k' x hk' hx hl => ?_⟩
  by_cases q : k' = k + 1
  · subst q
    have := k3 x hx hl
    show ((itr (heA now n) w n) x).toInt ≤ _
    omega
  · exact k2 k' x (by omega) hx hl
theorem he0_at {f : Nat → Int32} : ∀ k x, x < k → itr (he0 g) f k x = if x = g then 1 else 1000000 := by
  intro k
  induction k with
  | zero => exact fun x h => absurd h (Nat.not_lt_zero _)
  | succ k ih =>
    intro x hx
    rw [itr_s]
    show z_up (itr (he0 g) f k) k (if k = g then 1 else 1000000) x = _
    by_cases q : x = k
    · subst q; rw [zup_eq]
    · rw [zup_ne _ _ q]; exact ih x (by omega)
theorem he_all (hg : gdT n mt nt) (hR : nowR n rm mt nt fm now) (stp : Nat → Int32) : heO mt n g (heV now n g stp) ∧ heD mt n g n (heV now n g stp) := by
  refine itr_inv (f := heN now n) (x := itr (he0 g) stp n) (N := n) (fun k w => heO mt n g w ∧ heD mt n g k w) ⟨fun x hx => ?_, fun k' x hk' hx hl => ?_⟩ (fun k w _ ⟨h1, h2⟩ => he_round hg hR h1 h2) n (Nat.le_refl _)
  · rw [he0_at n x hx]
    by_cases q : x = g
    · subst q
      rw [if_pos rfl]
      exact ⟨by decide, by decide, fun _ => by show (2 ^ x).testBit x = true; rw [Nat.testBit_two_pow_self]⟩
    · rw [if_neg q]
      exact ⟨by decide, by decide, fun h => absurd h (by decide)⟩
  · have : k' = 0 := by omega
    subst this
    have hl : (2 ^ g).testBit x = true := hl
    rw [Nat.testBit_two_pow] at hl
    rw [he0_at n x hx, if_pos (of_decide_eq_true hl).symm]
    decide
theorem row_add {a b : cRow} {x : Int64} (h : rowR a b) : rowR (a.1 + 1, vp_updL a.2 a.1 x) (b.1 + 1, vp_updL b.2 b.1 x) := by
  obtain ⟨h1, h2⟩ := h
  refine ⟨by show a.1 + 1 = b.1 + 1; rw [h1], fun i hi => ?_⟩
  have hi : i < a.1 + 1 := hi
  show vp_updL a.2 a.1 x i = vp_updL b.2 b.1 x i
  rw [updL_z, updL_z, ← h1]
  by_cases q : i = a.1
  · rw [q, zup_eq, zup_eq]
  · rw [zup_ne _ _ q, zup_ne _ _ q]; exact h2 i (by omega)
/-- the way, on both sides -/
theorem way_eq (hg : gdT n mt nt) (hR : nowR n rm mt nt fm now) (hgn : g < n) {q : Nat → Int32} (ho : heO mt n g q) (hd : heD mt n g n q) {be : Nat → Int32} : ∀ t x (r r' : cRow) fu, t ≤ fu → t ≤ n → x < n → (q x).toInt = (t : Int) + 1 → (∀ j, j < t → be j = nI (lyr mt n g j)) → rowR r r' → wgG (hrB now q) n g fu x ∧ rowR (swV mt n be t x r) (wgR (hrB now q) n g fu x r') := by
  have hn := hg.1
  have h27 := two7 hn
  have qg : (q g).toInt = 1 := by
    have h1 := (ho g hgn).1
    have h2 := hd 0 g (Nat.zero_le _) hgn (by show (2 ^ g).testBit g = true; rw [Nat.testBit_two_pow_self])
    omega
  intro t
  induction t with
  | zero =>
    intro x r r' fu hfu htn hx hq _ hr
    have e : x = g := by
      have := (ho x hx).2.2 (by omega)
      rw [hq] at this
      have this : (2 ^ g).testBit x = true := this
      rw [Nat.testBit_two_pow] at this
      exact (of_decide_eq_true this).symm
    cases fu with
    | zero => exact ⟨e, hr⟩
    | succ fu =>
      refine ⟨Or.inl e, ?_⟩
      show rowR r (if x = g then r' else _)
      rw [if_pos e]
      exact hr
  | succ t ih =>
    intro x r r' fu hfu htn hx hq hbe hr
    obtain ⟨fu, rfl⟩ : ∃ m, fu = m + 1 := ⟨fu - 1, by omega⟩
    have hne : x ≠ g := fun e => by rw [e, qg] at hq; omega
    have hxl := (ho x hx).2.2 (by omega)
    rw [hq, show (((t + 1 : Nat) : Int) + 1).toNat - 1 = t + 1 by omega] at hxl
    have hP : ∀ y, y < n → (hrB now q x y = true ↔ (mt x &&& lyr mt n g t).testBit y = true) := by
      intro y hy
      unfold hrB
      rw [Bool.and_eq_true, decide_eq_true_eq, Nat.testBit_and, Bool.and_eq_true, met_bit hg hR hx hy]
      have e1 : (q x - 1).toInt = (t : Int) + 1 := by
        have o : (1 : Int32).toInt = 1 := rfl
        rw [Int32.toInt_sub, o, hq, Int.bmod_eq_of_le (by omega) (by omega)]
        omega
      have e2 : (q y = q x - 1) ↔ (q y).toInt = (t : Int) + 1 := by rw [← Int32.toInt_inj, e1]
      rw [e2]
      constructor
      · rintro ⟨m1, m2⟩
        refine ⟨m1, ?_⟩
        have := (ho y hy).2.2 (by omega)
        rw [m2, show ((t : Int) + 1).toNat - 1 = t by omega] at this
        exact this
      · rintro ⟨m1, m2⟩
        refine ⟨m1, ?_⟩
        have u1 := hd t y (by omega) hy m2
        rcases Int.lt_or_le (q y).toInt ((t : Int) + 1) with c | c
        · exfalso
          have y1 := (ho y hy).1
          have y2 := (ho y hy).2.2 (by omega)
          have y3 : (lyr mt n g ((q y).toInt.toNat - 1 + 1)).testBit x = true := ly_bit.mpr (Or.inr ⟨y, hy, y2, by rw [(hg.2.2.1 y x hy hx).1]; exact m1⟩)
          have := hd _ x (by omega) hx y3
          omega
        · omega
    have hex : ∃ y, y < n ∧ (mt x &&& lyr mt n g t).testBit y = true := by
      rcases ly_bit.mp hxl with h | ⟨y, y1, y2, y3⟩
      · have := hd t x (by omega) hx h
        omega
      · exact ⟨y, y1, by rw [Nat.testBit_and, y2, (hg.2.2.1 x y hx y1).1, y3]; rfl⟩
    obtain ⟨y, y1, y2⟩ := hex
    obtain ⟨s1, s2, s3, s4⟩ := srch_at (p := hrB now q x) n 0 ⟨y, Nat.zero_le _, by omega, (hP y y1).mpr y2⟩
    rw [Nat.zero_add] at s2
    have lS : mt x &&& lyr mt n g t < 128 := q_and_lt (by have := (hg.2.1 x hx).1; omega)
    have elow : lowB (mt x &&& lyr mt n g t) = srch (hrB now q x) 0 n := lowB_eq _ lS _ (by omega) ((hP _ s2).mp s3) (fun j hj => by
      cases e : (mt x &&& lyr mt n g t).testBit j
      · rfl
      · have := (hP j (by omega)).mpr e
        rw [s4 j (Nat.zero_le _) hj] at this
        exact absurd this (by decide))
    have ebe : (be t).toNatClampNeg = lyr mt n g t := by
      rw [hbe t (by omega)]
      exact nI_clamp (by have := ly_lt (mt := mt) hg hgn t; omega)
    have qy : (q (srch (hrB now q x) 0 n)).toInt = (t : Int) + 1 := by
      have h : (metB now x (srch (hrB now q x) 0 n) && decide (q (srch (hrB now q x) 0 n) = q x - 1)) = true := s3
      rw [Bool.and_eq_true, decide_eq_true_eq] at h
      have o : (1 : Int32).toInt = 1 := rfl
      rw [h.2, Int32.toInt_sub, o, hq, Int.bmod_eq_of_le (by omega) (by omega)]
      omega
    obtain ⟨w1, w2⟩ := ih (srch (hrB now q x) 0 n) _ _ fu (by omega) (by omega) s2 qy (fun j hj => hbe j (by omega)) (row_add (x := lN (srch (hrB now q x) 0 n)) hr)
    refine ⟨Or.inr ⟨s2, w1⟩, ?_⟩
    show rowR (if x < n then swV mt n be t (lowB (mt x &&& (be t).toNatClampNeg)) (r.1 + 1, vp_updL r.2 r.1 (lN (lowB (mt x &&& (be t).toNatClampNeg)))) else r) (if x = g then r' else wgR (hrB now q) n g fu (srch (hrB now q x) 0 n) (r'.1 + 1, vp_updL r'.2 r'.1 (lN (srch (hrB now q x) 0 n))))
    rw [if_pos hx, if_neg hne, ebe, elow]
    exact w2
theorem hear_eq (hg : gdT n mt nt) (hR : nowR n rm mt nt fm now) (hgn : g < n) {f : Nat} (hf : f < n) {be stp : Nat → Int32} {rf row : Nat → Int64} {q : Nat → Int32} (hq : heV now n g stp = q) {R : Nat × (Nat → Int32)} (hb : rbV mt n f 0 n (2 ^ g) be = R) : (R.1 = 0 → ¬ q f < 1000000) ∧ (¬ R.1 = 0 → q f < 1000000 ∧ q f = nI R.1 ∧ R.1 ≤ n ∧ wgG (hrB now q) n g 7 f ∧ rowR (swV mt n R.2 (R.1 - 1) f (1, vp_updL rf 0 (lN f))) (wgR (hrB now q) n g 7 f (1, vp_updL row 0 (lN f)))) := by
  have hn := hg.1
  obtain ⟨ho, hd⟩ := he_all (g := g) hg hR stp
  rw [hq] at ho hd
  obtain ⟨-, r2⟩ := rb_eq (mt := mt) (n := n) (g := g) (f := f) n 0 be
  have e0 : lyr mt n g 0 = 2 ^ g := rfl
  rw [e0, hb] at r2
  have big : (1000000 : Int32).toInt = 1000000 := rfl
  constructor
  · intro hz h
    have h := Int32.lt_iff_toInt_lt.mp h
    rw [big] at h
    have h1 := (ho f hf).2.2 h
    have h2 := ly_end hg hgn h1
    rcases r2 with ⟨-, r3⟩ | ⟨k, k1, k2, k3, -⟩
    · rw [r3 (n - 1) (Nat.zero_le _) (by omega)] at h2
      exact absurd h2 (by decide)
    · omega
  · intro hz
    rcases r2 with ⟨r3, -⟩ | ⟨k, k1, k2, k3, k4, k5, k6⟩
    · exact absurd r3 hz
    · have u1 := hd k f (by omega) hf k4
      have u0 := (ho f hf).1
      have u2 := (ho f hf).2.2 (by omega)
      have ev : (q f).toInt = (k : Int) + 1 := by
        rcases Int.lt_or_le (q f).toInt ((k : Int) + 1) with c | c
        · rw [k5 ((q f).toInt.toNat - 1) (Nat.zero_le _) (by omega)] at u2
          exact absurd u2 (by decide)
        · omega
      obtain ⟨w1, w2⟩ := way_eq hg hR hgn ho hd (be := R.2) k f (1, vp_updL rf 0 (lN f)) (1, vp_updL row 0 (lN f)) 7 (by omega) (by omega) hf ev (fun j hj => k6 j (Nat.zero_le _) (by omega)) row_1
      refine ⟨Int32.lt_iff_toInt_lt.mpr (by rw [ev, big]; omega), ?_, by omega, w1, ?_⟩
      · apply Int32.toInt_inj.mp
        rw [ev, k3, nI_toInt (by omega)]
        omega
      · rw [k3, Nat.add_sub_cancel]
        exact w2
end N48

