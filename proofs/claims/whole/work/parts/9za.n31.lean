/-! what is put by: the past, on both sides -/
/-- what three numbers keep and what a row of the model keeps: the same -/
def slotR (n : Nat) (a b c : Int64) (row : Nat → Int32) : Prop := ∃ (rm mt nt : Nat → Nat) (fm : Bool), (∀ i, rm i ≤ 9) ∧ (∀ i, mt i < 128) ∧ (∀ i, nt i < 128) ∧ gdT n mt nt ∧ nowR n rm mt nt fm row ∧ a = lN (pk7 mt 7) ∧ b = lN (pk7 nt 7) ∧ c = lN (2 * pk7 rm 7 + fm.toNat)
/-- the steps that can be undone -/
def pstR (n : Nat) (F : Nat → Int64) (k : Nat) (und : Nat → Int32) : Prop := ∀ j, j < k → slotR n (F (3 * j)) (F (3 * j + 1)) (F (3 * j + 2)) (fun i => und (57 * j + i))
/-- what is kept under numbers -/
def kptR (n : Nat) (K : Nat → Int64) (ko : Nat) (iK : Nat → Int32) (kC : Nat → Int32) (kep : Nat → Int32) (ch : Int32) : Prop := ∃ c, c < 1000 ∧ ch = nI c ∧ ∀ i, i < 3 → (ko.testBit i = true → ¬ iK i = 0 ∧ kC i = ch ∧ slotR n (K (3 * i)) (K (3 * i + 1)) (K (3 * i + 2)) (fun j => kep (57 * i + j))) ∧ (ko.testBit i = false → iK i = 0 ∨ ∃ x, x < c ∧ kC i = nI x)
section N31
variable {n : Nat} {rm mt nt : Nat → Nat} {fm : Bool} {vr : Int32} {now und : Nat → Int32}
theorem pk7_cg {f g : Nat → Nat} : ∀ k, (∀ i, i < k → f i = g i) → pk7 f k = pk7 g k := by
  intro k
  induction k with
  | zero => exact fun _ => rfl
  | succ k ih =>
    intro h
    show pk7 f k + f k * 2 ^ (7 * k) = pk7 g k + g k * 2 ^ (7 * k)
    rw [ih (fun i hi => h i (by omega)), h k (by omega)]
theorem cp_at {B : Nat} {v : Nat → Int32} {F : Nat → (Nat → Int32) → Nat → Int32} (hF : ∀ i f, F i f = upd f (B + i) (v i)) (x : Nat → Int32) : ∀ N j, itr F x N j = if B ≤ j ∧ j < B + N then v (j - B) else x j := by
  intro N
  induction N with
  | zero => intro j; rw [itr_0, if_neg (by omega)]
  | succ N ih =>
    intro j
    rw [itr_s, hF]
    unfold upd
    by_cases c : j = B + N
    · rw [if_pos c, if_pos (by omega)]
      congr 1; omega
    · rw [if_neg c, ih j]
      by_cases c2 : B ≤ j ∧ j < B + N
      · rw [if_pos c2, if_pos (by omega)]
      · rw [if_neg c2, if_neg (by omega)]
theorem s57_at (x : Nat → Int32) : ∀ N j, itr shF57 x N j = if j < N then x (j + 57) else x j := by
  intro N
  induction N with
  | zero => intro j; rw [itr_0, if_neg (by omega)]
  | succ N ih =>
    intro j
    rw [itr_s]
    show upd (itr shF57 x N) N (itr shF57 x N (N + 57)) j = _
    unfold upd
    by_cases c : j = N
    · rw [if_pos c, if_pos (by omega), ih, if_neg (by omega), c]
    · rw [if_neg c, ih j]
      by_cases c2 : j < N
      · rw [if_pos c2, if_pos (by omega)]
      · rw [if_neg c2, if_neg (by omega)]
theorem pb_at (now : Nat → Int32) (k : Nat) (und : Nat → Int32) (j : Nat) : itr (pbF now k) und 57 j = if 57 * k ≤ j ∧ j < 57 * k + 57 then now (j - 57 * k) else und j := cp_at (fun _ _ => rfl) und 57 j
theorem slot_cg {a b c : Int64} {row row' : Nat → Int32} (h : slotR n a b c row) (he : ∀ i, i < 57 → row' i = row i) : slotR n a b c row' := by
  obtain ⟨rm, mt, nt, fm, h1, h2, h3, h4, h5, h6⟩ := h
  exact ⟨rm, mt, nt, fm, h1, h2, h3, h4, now_cg h4.1 h5 he, h6⟩
theorem slot_of {t : cTold} (h : relT t now) : slotR t.1 (lN (pk7 t.2.2.1 7)) (lN (pk7 t.2.2.2.1 7)) (lN (2 * pk7 t.2.1 7 + t.2.2.2.2.1.toNat)) now := ⟨t.2.1, t.2.2.1, t.2.2.2.1, t.2.2.2.2.1, h.1.2.1, h.1.2.2.1, h.1.2.2.2, h.2.1, h.2.2, rfl, rfl, rfl⟩
/-- the rows that a slot says, with the rest as it is -/
theorem slot_get {a b c : Int64} {row : Nat → Int32} (h : slotR n a b c row) (rm0 mt0 nt0 : Nat → Nat) (hr0 : ∀ i, rm0 i ≤ 9) (hm0 : ∀ i, mt0 i < 128) (hn0 : ∀ i, nt0 i < 128) : ∃ (rm mt nt : Nat → Nat) (fm : Bool), (∀ i, rm i ≤ 9) ∧ (∀ i, mt i < 128) ∧ (∀ i, nt i < 128) ∧ gdT n mt nt ∧ nowR n rm mt nt fm row ∧ a = lN (pk7 mt 7) ∧ b = lN (pk7 nt 7) ∧ c = lN (2 * pk7 rm 7 + fm.toNat) ∧ (∀ i, 7 ≤ i → rm0 i = rm i) ∧ (∀ i, 7 ≤ i → mt0 i = mt i) ∧ (∀ i, 7 ≤ i → nt0 i = nt i) := by
  obtain ⟨rm, mt, nt, fm, h1, h2, h3, h4, h5, h6, h7, h8⟩ := h
  have hn := h4.1
  have q : ∀ (f f0 : Nat → Nat) (i : Nat), i < 7 → (fun i => if i < 7 then f i else f0 i) i = f i := fun f f0 i hi => if_pos hi
  have q7 : ∀ (f f0 : Nat → Nat) (i : Nat), 7 ≤ i → f0 i = (fun i => if i < 7 then f i else f0 i) i := fun f f0 i hi => (if_neg (by omega)).symm
  refine ⟨fun i => if i < 7 then rm i else rm0 i, fun i => if i < 7 then mt i else mt0 i, fun i => if i < 7 then nt i else nt0 i, fm, ?_, ?_, ?_, gd_cg h4 (fun i hi => q _ _ i (by omega)) (fun i hi => q _ _ i (by omega)), now_cg2 h5 (fun i hi => q _ _ i (by omega)) (fun i hi => q _ _ i (by omega)) (fun i hi => q _ _ i (by omega)), ?_, ?_, ?_, q7 _ _, q7 _ _, q7 _ _⟩
  · intro i; show (if i < 7 then rm i else rm0 i) ≤ 9
    split
    · exact h1 i
    · exact hr0 i
  · intro i; show (if i < 7 then mt i else mt0 i) < 128
    split
    · exact h2 i
    · exact hm0 i
  · intro i; show (if i < 7 then nt i else nt0 i) < 128
    split
    · exact h3 i
    · exact hn0 i
  · rw [h6, pk7_cg 7 (fun i hi => (q mt mt0 i hi).symm)]
  · rw [h7, pk7_cg 7 (fun i hi => (q nt nt0 i hi).symm)]
  · rw [h8, pk7_cg 7 (fun i hi => (q rm rm0 i hi).symm)]
/-- nothing done: what is put by stays -/
theorem pst_stay {F : Nat → Int64} {k : Nat} (h : pstR n F k und) : pstR n F k (itr (pbF now k) und 57) := by
  intro j hj
  refine slot_cg (h j hj) (fun i hi => ?_)
  show itr (pbF now k) und 57 (57 * j + i) = und (57 * j + i)
  rw [pb_at, if_neg (by omega)]
/-- what is put by for the next step -/
theorem sv3_at (S : Nat → Int64) (x y z : Nat) : sv3 S 0 x y z 0 = lN x ∧ sv3 S 0 x y z 1 = lN y ∧ sv3 S 0 x y z 2 = lN z := by
  unfold sv3 vp_updL
  exact ⟨rfl, rfl, rfl⟩
theorem pst_push {F S K : Nat → Int64} {ko k : Nat} (hk : k ≤ 15) (h : pstR n F k und) (hs : slotR n (S 0) (S 1) (S 2) now) : pstR n (pshO (F, S, K, ko, k)).1 (pshO (F, S, K, ko, k)).2.2.2.2 (addU k (itr (pbF now k) und 57)).2 ∧ (addU k (itr (pbF now k) und 57)).1 = (pshO (F, S, K, ko, k)).2.2.2.2 ∧ (pshO (F, S, K, ko, k)).2.2.2.2 ≤ 15 ∧ (pshO (F, S, K, ko, k)).2.2.1 = K ∧ (pshO (F, S, K, ko, k)).2.2.2.1 = ko := by
  unfold pshO addU
  by_cases c : k = 15
  · subst c
    simp only [if_pos, if_neg (show ¬ (15 : Nat) < 15 by decide)]
    refine ⟨fun j hj => ?_, trivial, by decide, trivial, trivial⟩
    by_cases c2 : j = 14
    · subst c2
      refine slot_cg (row := now) ?_ (fun i hi => ?_)
      · unfold va_cpy
        simp only [Nat.reduceMul, Nat.reduceAdd, Nat.reduceSub, Nat.reduceLeDiff, Nat.reduceLT, and_self, if_true, Nat.zero_add]
        exact hs
      · show itr shF57 (itr (pbF now 15) und 57) 855 (57 * 14 + i) = now i
        rw [s57_at, if_pos (by omega), pb_at, if_pos (by omega)]
        exact congrArg now (by omega)
    · have e : ∀ d, d < 3 → va_cpy S (va_cpy F F 3 0 42) 0 42 3 (3 * j + d) = F (3 * (j + 1) + d) := by
        intro d hd
        unfold va_cpy
        rw [if_neg (by omega), if_pos (by omega)]
        congr 1; omega
      have e0 := e 0 (by decide)
      rw [Nat.add_zero, Nat.add_zero] at e0
      rw [e0, e 1 (by decide), e 2 (by decide)]
      refine slot_cg (h (j + 1) (by omega)) (fun i hi => ?_)
      show itr shF57 (itr (pbF now 15) und 57) 855 (57 * j + i) = und (57 * (j + 1) + i)
      rw [s57_at, if_pos (by omega), pb_at, if_neg (by omega)]
      congr 1; omega
  · simp only [if_neg c, if_pos (show k < 15 by omega)]
    refine ⟨fun j hj => ?_, trivial, by omega, trivial, trivial⟩
    by_cases c2 : j = k
    · subst c2
      have e : ∀ d, d < 3 → va_cpy S F 0 (3 * j) 3 (3 * j + d) = S d := by
        intro d hd
        unfold va_cpy
        rw [if_pos (by omega)]
        congr 1; omega
      have e0 := e 0 (by decide)
      rw [Nat.add_zero] at e0
      rw [e0, e 1 (by decide), e 2 (by decide)]
      refine slot_cg hs (fun i hi => ?_)
      show itr (pbF now j) und 57 (57 * j + i) = now i
      rw [pb_at, if_pos (by omega)]
      congr 1; omega
    · have e : ∀ d, d < 3 → va_cpy S F 0 (3 * k) 3 (3 * j + d) = F (3 * j + d) := by
        intro d hd
        unfold va_cpy
        rw [if_neg (by omega)]
      have e0 := e 0 (by decide)
      rw [Nat.add_zero] at e0
      rw [e0, e 1 (by decide), e 2 (by decide)]
      exact pst_stay h j (by omega)
/-- a step settled, done or refused -/
theorem pst_set {t : cTold} {p : cPast} {a : Int32} (hP : oldP p) (hr : relT t now) (h : pstR t.1 p.1 p.2.2.2.2 und) : pstR t.1 (setO a (stgO p t)).1 (setO a (stgO p t)).2.2.2.2 (if a < 0 then itr (pbF now p.2.2.2.2) und 57 else (addU p.2.2.2.2 (itr (pbF now p.2.2.2.2) und 57)).2) ∧ (if a < 0 then p.2.2.2.2 else (addU p.2.2.2.2 (itr (pbF now p.2.2.2.2) und 57)).1) = (setO a (stgO p t)).2.2.2.2 ∧ oldP (setO a (stgO p t)) ∧ (setO a (stgO p t)).2.2.1 = p.2.2.1 ∧ (setO a (stgO p t)).2.2.2.1 = p.2.2.2.1 := by
  obtain ⟨F, S, K, ko, k⟩ := p
  unfold setO
  by_cases c : a < 0
  · rw [if_pos c, if_pos c, if_pos c]
    exact ⟨pst_stay h, rfl, hP, rfl, rfl⟩
  · rw [if_neg c, if_neg c, if_neg c]
    obtain ⟨s0, s1, s2⟩ := sv3_at S (pk7 t.2.2.1 7) (pk7 t.2.2.2.1 7) (2 * pk7 t.2.1 7 + t.2.2.2.2.1.toNat)
    obtain ⟨a1, a2, a3, a4, a5⟩ := pst_push (K := K) (ko := ko) (S := sv3 S 0 (pk7 t.2.2.1 7) (pk7 t.2.2.2.1 7) (2 * pk7 t.2.1 7 + t.2.2.2.2.1.toNat)) (now := now) hP.1 h (by rw [s0, s1, s2]; exact slot_of hr)
    exact ⟨a1, a2, pshO_ok (stgO_ok hP), a4, a5⟩
theorem un_at (und : Nat → Int32) (k : Nat) (now : Nat → Int32) (j : Nat) : itr (unF und k) now 57 j = if j < 57 then und (57 * k + j) else now j := by
  rw [cp_at (B := 0) (v := fun i => und (57 * k + i)) (fun i f => by rw [Nat.zero_add]; rfl) now 57 j]
  by_cases c : j < 57
  · rw [if_pos (by omega), if_pos c, Nat.sub_zero]
  · rw [if_neg (by omega), if_neg c]
theorem ag_at (kep : Nat → Int32) (k : Nat) (now : Nat → Int32) (j : Nat) : itr (agF kep k) now 57 j = if j < 57 then kep (57 * k + j) else now j := by
  rw [cp_at (B := 0) (v := fun i => kep (57 * k + i)) (fun i f => by rw [Nat.zero_add]; rfl) now 57 j]
  by_cases c : j < 57
  · rw [if_pos (by omega), if_pos c, Nat.sub_zero]
  · rw [if_neg (by omega), if_neg c]
theorem kp_at (now : Nat → Int32) (k : Nat) (kep : Nat → Int32) (j : Nat) : itr (kpF now k) kep 57 j = if 57 * k ≤ j ∧ j < 57 * k + 57 then now (j - 57 * k) else kep j := cp_at (fun _ _ => rfl) kep 57 j
/-- a state kept under a number -/
theorem kpt_keep {t : cTold} (hr : relT t now) {K : Nat → Int64} {ko : Nat} {iK kC kep : Nat → Int32} {ch : Int32} (h : kptR t.1 K ko iK kC kep ch) {i : Nat} (hi : i < 3) : kptR t.1 (sv3 K i (pk7 t.2.2.1 7) (pk7 t.2.2.2.1 7) (2 * pk7 t.2.1 7 + t.2.2.2.2.1.toNat)) (ko ||| 2 ^ i) (upd iK i 1) (upd kC i ch) (itr (kpF now i) kep 57) ch := by
  obtain ⟨c, hc, hch, hk⟩ := h
  refine ⟨c, hc, hch, fun j hj => ?_⟩
  by_cases e : j = i
  · subst e
    refine ⟨fun _ => ⟨by rw [upd_s]; decide, upd_s _ _ _, ?_⟩, fun hb => ?_⟩
    · unfold sv3 vp_updL
      simp only [if_neg (show ¬ 3 * j = 3 * j + 1 by omega), if_neg (show ¬ 3 * j = 3 * j + 2 by omega), if_neg (show ¬ 3 * j + 1 = 3 * j + 2 by omega), if_true]
      refine slot_cg (slot_of hr) (fun x hx => ?_)
      show itr (kpF now j) kep 57 (57 * j + x) = now x
      rw [kp_at, if_pos (by omega)]
      congr 1; omega
    · rw [Nat.testBit_or, Nat.testBit_two_pow, decide_eq_true rfl, Bool.or_true] at hb
      exact absurd hb (by decide)
  · have eb : (ko ||| 2 ^ i).testBit j = ko.testBit j := by
      rw [Nat.testBit_or, Nat.testBit_two_pow, decide_eq_false (fun z => e z.symm), Bool.or_false]
    rw [eb]
    have u1 : upd iK i 1 j = iK j := if_neg e
    have u2 : upd kC i ch j = kC j := if_neg e
    rw [u1, u2]
    obtain ⟨k1, k2⟩ := hk j hj
    refine ⟨fun hb => ?_, k2⟩
    obtain ⟨b1, b2, b3⟩ := k1 hb
    refine ⟨b1, b2, ?_⟩
    have es : ∀ d, d < 3 → sv3 K i (pk7 t.2.2.1 7) (pk7 t.2.2.2.1 7) (2 * pk7 t.2.1 7 + t.2.2.2.2.1.toNat) (3 * j + d) = K (3 * j + d) := by
      intro d hd
      unfold sv3 vp_updL
      rw [if_neg (by omega), if_neg (by omega), if_neg (by omega)]
    have e0 := es 0 (by decide)
    rw [Nat.add_zero] at e0
    rw [e0, es 1 (by decide), es 2 (by decide)]
    refine slot_cg b3 (fun x hx => ?_)
    show itr (kpF now i) kep 57 (57 * j + x) = kep (57 * j + x)
    rw [kp_at, if_neg (by omega)]
/-- new guests: what was kept is forgotten -/
theorem kpt_new {m : Nat} {K : Nat → Int64} {ko : Nat} {iK kC kep : Nat → Int32} {ch : Int32} (h : kptR n K ko iK kC kep ch) (hc : ch.toNatClampNeg < 900) : kptR m K 0 iK kC kep (ch + 1) := by
  obtain ⟨c, hc1, hch, hk⟩ := h
  rw [hch, nI_clamp (by omega)] at hc
  refine ⟨c + 1, by omega, by rw [hch]; exact nI_add c 1, fun j hj => ⟨fun hb => ?_, fun _ => ?_⟩⟩
  · rw [Nat.zero_testBit] at hb; exact absurd hb (by decide)
  · obtain ⟨k1, k2⟩ := hk j hj
    cases e : ko.testBit j
    · rcases k2 e with q | ⟨x, hx, q⟩
      · exact Or.inl q
      · exact Or.inr ⟨x, by omega, q⟩
    · obtain ⟨-, b2, -⟩ := k1 e
      exact Or.inr ⟨c, by omega, by rw [b2, hch]⟩
/-- brought back or not: alike -/
theorem kpt_dec {K : Nat → Int64} {ko : Nat} {iK kC kep : Nat → Int32} {ch : Int32} (h : kptR n K ko iK kC kep ch) {i : Nat} (hi : i < 3) : ko.testBit i = true ↔ (¬ iK i = 0 ∧ kC i = ch) := by
  obtain ⟨c, hc1, hch, hk⟩ := h
  obtain ⟨k1, k2⟩ := hk i hi
  constructor
  · intro hb; exact ⟨(k1 hb).1, (k1 hb).2.1⟩
  · intro hq
    cases e : ko.testBit i
    · rcases k2 e with q | ⟨x, hx, q⟩
      · exact absurd q hq.1
      · have := hq.2
        rw [q, hch] at this
        have e2 : (nI x = nI c) = (x = c) := nI_eqI (by omega) (by omega)
        rw [e2] at this
        omega
    · rfl
end N31

