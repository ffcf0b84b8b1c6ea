/-! the rule's reader, on both sides -/
/-- what both have read is worth the same -/
def okR (p sz cR N : Nat) (cd rc : Nat → Int32) (a : pS) (b : mS) : Prop := p < a.1 ∧ b.2.1 = N ∧ sz ≤ a.2.1 ∧ a.2.1 + p ≤ sz + a.1 ∧ cR ≤ b.2.2.1 ∧ b.2.2.1 + p ≤ cR + a.1 ∧ (∀ i, i < sz → a.2.2 i = cd i) ∧ (∀ i, i < cR → b.2.2.2 i = rc i) ∧ ∃ v, segC a.2.2 sz a.2.1 v ∧ segM b.2.2.2 cR b.2.2.1 v
/-- both end alike -/
def enR (sp p sz cR N : Nat) (cd rc : Nat → Int32) (a : Bool × pS) (b : Bool × mS) : Prop := a.1 = b.1 ∧ a.2.1 = b.2.1 ∧ p ≤ a.2.1 ∧ a.2.1 ≤ sp ∧ (a.1 = true → okR p sz cR N cd rc a.2 b.2)
def pmR (sp N : Nat) (f : pS → Bool × pS) (g : mS → Bool × mS) : Prop := ∀ (p sz cR : Nat) (cd rc : Nat → Int32), p ≤ sp → sz ≤ p → cR ≤ p → enR sp p sz cR N cd rc (f (p, sz, cd)) (g (p, N, cR, rc))
theorem thV_v : ∀ x, x < 256 → thV x = if srch (fun k => decide (wdA k = x)) 0 7 < 7 then nI (srch (fun k => decide (wdA k = x)) 0 7) else -1 := by decide +kernel
theorem th_no : ∀ x, x < 256 → (x = 40 ∨ x = 45 ∨ (48 ≤ x ∧ x ≤ 57)) → ¬ srch (fun k => decide (wdA k = x)) 0 7 < 7 := by decide +kernel
theorem lv_v : ∀ l, l < 3 → ∀ x, x < 256 → (lvV (nI x) = nI l ↔ srch (fun k => decide (wdR l k = x)) 0 (wdL l) < wdL l) := by decide +kernel
theorem lv_x0 : ∀ x, x < 256 → srch (fun k => decide (wdR 0 k = x)) 0 3 < 3 → (x, srch (fun k => decide (wdR 0 k = x)) 0 3) ∈ [(60, 0), (62, 1), (61, 2)] := by decide +kernel
theorem lv_x1 : ∀ x, x < 256 → srch (fun k => decide (wdR 1 k = x)) 0 2 < 2 → (x, srch (fun k => decide (wdR 1 k = x)) 0 2) ∈ [(43, 0), (45, 1)] := by decide +kernel
theorem lv_x2 : ∀ x, x < 256 → srch (fun k => decide (wdR 2 k = x)) 0 2 < 2 → (x, srch (fun k => decide (wdR 2 k = x)) 0 2) ∈ [(42, 0), (47, 1)] := by decide +kernel
theorem dn_wk {l x : Nat} (hl : l < 3) (hx : x < 256) (h : srch (fun k => decide (wdR l k = x)) 0 (wdL l) < wdL l) (a b : Int32) : dnV (nI x) a b = wkV (nI (srch (fun k => decide (wdR l k = x)) 0 (wdL l) + wdO l)) a b ∧ srch (fun k => decide (wdR l k = x)) 0 (wdL l) + wdO l < 256 := by
  match l, hl with
  | 0, _ =>
    have m := lv_x0 x hx h
    show dnV (nI x) a b = wkV (nI (srch (fun k => decide (wdR 0 k = x)) 0 3 + 0)) a b ∧ srch (fun k => decide (wdR 0 k = x)) 0 3 + 0 < 256
    generalize srch (fun k => decide (wdR 0 k = x)) 0 3 = y at *
    simp only [List.mem_cons, List.mem_nil_iff, or_false, Prod.mk.injEq, List.not_mem_nil] at m
    rcases m with ⟨e1, e2⟩ | ⟨e1, e2⟩ | ⟨e1, e2⟩ <;> rw [e2, e1] <;> exact ⟨rfl, by decide⟩
  | 1, _ =>
    have m := lv_x1 x hx h
    show dnV (nI x) a b = wkV (nI (srch (fun k => decide (wdR 1 k = x)) 0 2 + 3)) a b ∧ srch (fun k => decide (wdR 1 k = x)) 0 2 + 3 < 256
    generalize srch (fun k => decide (wdR 1 k = x)) 0 2 = y at *
    simp only [List.mem_cons, List.mem_nil_iff, or_false, Prod.mk.injEq, List.not_mem_nil] at m
    rcases m with ⟨e1, e2⟩ | ⟨e1, e2⟩ <;> rw [e2, e1] <;> exact ⟨rfl, by decide⟩
  | 2, _ =>
    have m := lv_x2 x hx h
    show dnV (nI x) a b = wkV (nI (srch (fun k => decide (wdR 2 k = x)) 0 2 + 5)) a b ∧ srch (fun k => decide (wdR 2 k = x)) 0 2 + 5 < 256
    generalize srch (fun k => decide (wdR 2 k = x)) 0 2 = y at *
    simp only [List.mem_cons, List.mem_nil_iff, or_false, Prod.mk.injEq, List.not_mem_nil] at m
    rcases m with ⟨e1, e2⟩ | ⟨e1, e2⟩ <;> rw [e2, e1] <;> exact ⟨rfl, by decide⟩
theorem he_f : ∀ x, x < 256 → (nI x < 48 ↔ x < 48) ∧ ((57 : Int32) < nI x ↔ 57 < x) ∧ (nI x = 40 ↔ x = 40) ∧ ¬ nI x < 0 := by decide +kernel
theorem th_n0 : ∀ x, x < 256 → srch (fun k => decide (wdA k = x)) 0 7 < 7 → ¬ nI (srch (fun k => decide (wdA k = x)) 0 7) < 0 := by decide +kernel
section N38
variable {sp N : Nat} {sg sg' : Nat → Nat}
theorem em_in {s : pS} {x : Int32} (h : s.2.1 < 40) : emP s x = (s.1, s.2.1 + 1, upd s.2.2 s.2.1 x) := by
  unfold emP emV
  rw [if_pos h]
theorem he_in {p : Nat} (hp : p < sp) : hereV sg sp p = nI (sg p) := if_pos hp
theorem he_out {p : Nat} (hp : ¬ p < sp) : hereV sg sp p = -1 := if_neg hp
theorem he_v (h2 : ∀ i, sg i < 256) {p x : Nat} (hx : x < 256) : (hereV sg sp p = nI x) = (p < sp ∧ sg p = x) := by
  by_cases c : p < sp
  · rw [he_in c, nI_eqI (by have := h2 p; omega) (by omega)]
    exact propext ⟨fun z => ⟨c, z⟩, fun z => z.2⟩
  · rw [he_out c]
    exact propext ⟨fun z => absurd z.symm (ni_m1 (by omega)), fun z => absurd z.1 c⟩
theorem nu_v (hs : ∀ i, i < sp → sg i = sg' i) (h2 : ∀ i, sg' i < 256) : ∀ k v p, numV sg sp k (nI v) p = (nI (nmV sg' sp k v p).1, (nmV sg' sp k v p).2) := by
  intro k
  induction k with
  | zero => intro v p; rfl
  | succ k ih =>
    intro v p
    show (if ¬ hereV sg sp p < 48 ∧ ¬ 57 < hereV sg sp p then numV sg sp k (10 * nI v + hereV sg sp p - 48) (p + 1) else (nI v, p)) = (nI (if dgN sg' p sp = true then nmV sg' sp k (10 * v + (sg' p - 48)) (p + 1) else (v, p)).1, (if dgN sg' p sp = true then nmV sg' sp k (10 * v + (sg' p - 48)) (p + 1) else (v, p)).2)
    have dg : (dgN sg' p sp = true) = (p < sp ∧ 48 ≤ sg' p ∧ sg' p ≤ 57) := by unfold dgN; exact decide_eq_true_eq
    simp only [dg]
    by_cases c : p < sp
    · rw [he_in c, hs p c]
      obtain ⟨l1, l2, -, -⟩ := he_f _ (h2 p)
      by_cases c2 : 48 ≤ sg' p ∧ sg' p ≤ 57
      · have e3 : 10 * nI v + nI (sg' p) - 48 = nI (10 * v + (sg' p - 48)) := by
          rw [show (10 : Int32) = nI 10 from rfl, nI_mul, nI_add, show (48 : Int32) = nI 48 from rfl, nI_sub (by omega)]
          congr 1
          omega
        rw [if_pos ⟨fun z => by have := l1.mp z; omega, fun z => by have := l2.mp z; omega⟩, if_pos ⟨c, c2⟩, e3]
        exact ih _ _
      · have nd : ¬ (¬ nI (sg' p) < 48 ∧ ¬ 57 < nI (sg' p)) := by
          rintro ⟨z1, z2⟩
          exact c2 ⟨by rcases Nat.lt_or_ge (sg' p) 48 with q | q; exact absurd (l1.mpr q) z1; exact q, by rcases Nat.lt_or_ge 57 (sg' p) with q | q; exact absurd (l2.mpr q) z2; exact q⟩
        rw [if_neg nd, if_neg (fun z => c2 z.2)]
    · rw [he_out c, if_neg (fun z => z.1 (by decide)), if_neg (fun z => c z.1)]
theorem nm_lt : ∀ k v p, (nmV sg' sp k v p).1 < (v + 1) * 10 ^ k := by
  intro k
  induction k with
  | zero => intro v p; show v < (v + 1) * 10 ^ 0; omega
  | succ k ih =>
    intro v p
    show (if dgN sg' p sp = true then nmV sg' sp k (10 * v + (sg' p - 48)) (p + 1) else (v, p)).1 < _
    rw [Nat.pow_succ, Nat.mul_comm (10 ^ k) 10, ← Nat.mul_assoc]
    by_cases c : dgN sg' p sp = true
    · rw [if_pos c]
      have c' : p < sp ∧ 48 ≤ sg' p ∧ sg' p ≤ 57 := by unfold dgN at c; exact of_decide_eq_true c
      refine Nat.lt_of_lt_of_le (ih _ _) (Nat.mul_le_mul_right _ (by omega))
    · rw [if_neg c]
      show v < (v + 1) * 10 * 10 ^ k
      have : 1 ≤ 10 ^ k := Nat.pow_pos (by decide)
      calc v < (v + 1) * 10 * 1 := by omega
        _ ≤ (v + 1) * 10 * 10 ^ k := Nat.mul_le_mul_left _ this
theorem one_ok {p q sz cR : Nat} {cd rc : Nat → Int32} {v v' : Int32} {w : (Nat → Int32) → Int32} (hq : p < q) (h1 : segC (upd cd sz v) sz (sz + 1) w) (h2 : segM (upd rc cR v') cR (cR + 1) w) : okR p sz cR N cd rc (q, sz + 1, upd cd sz v) (q, N, cR + 1, upd rc cR v') :=
  ⟨hq, rfl, Nat.le_succ _, by show sz + 1 + p ≤ sz + q; omega, Nat.le_succ _, by show cR + 1 + p ≤ cR + q; omega, fun i hi => upd_o _ _ (by (try dsimp only at *); omega), fun i hi => upd_o _ _ (by (try dsimp only at *); omega), w, h1, h2⟩
theorem en_no {p sz cR : Nat} {cd rc : Nat → Int32} (hp : p ≤ sp) {a : Nat × (Nat → Int32)} {b : Nat × Nat × (Nat → Int32)} : enR sp p sz cR N cd rc (false, (p, a)) (false, (p, b)) := ⟨rfl, rfl, Nat.le_refl _, hp, fun e => absurd e Bool.false_ne_true⟩
theorem th_rel (hs : ∀ i, i < sp → sg i = sg' i) (h1 : ∀ i, sg i < 256) (h2 : ∀ i, sg' i < 256) (hsp : sp ≤ 40) {subC : pS → Bool × pS} {subM : mS → Bool × mS} {deep : Bool} (hd : deep = true ↔ N < 4) (hN : N ≤ 4) (hsub : N < 4 → pmR sp (N + 1) subC subM) (f : Nat) {p sz cR : Nat} {cd rc : Nat → Int32} (hp : p ≤ sp) (hz : sz ≤ p) (hc : cR ≤ p) (hm : tkN sg' p sp 45 = false) : enR sp p sz cR N cd rc (pThing sg sp subC deep (p, sz, cd)) (mTh sg' sp subM (f + 1) (p, N, cR, rc)) := by
  rw [mTh_s]
  unfold pThing
  dsimp only
  rw [if_neg (show ¬ tkN sg' p sp 45 = true by rw [hm]; exact Bool.false_ne_true)]
  by_cases c : p < sp
  · have tk : ∀ x, (tkN sg' p sp x = true) = (sg' p = x) := fun x => by
      unfold tkN
      rw [decide_eq_true_eq]
      exact propext ⟨fun z => z.2, fun z => ⟨c, z⟩⟩
    have dg : (dgN sg' p sp = true) = (48 ≤ sg' p ∧ sg' p ≤ 57) := by
      unfold dgN
      rw [decide_eq_true_eq]
      exact propext ⟨fun z => z.2, fun z => ⟨c, z⟩⟩
    have ti : toI wdA 7 sg' p sp = srch (fun k => decide (wdA k = sg' p)) 0 7 := if_pos c
    obtain ⟨l1, l2, l3, l4⟩ := he_f _ (h2 p)
    have tv := thV_v _ (h2 p)
    have tno := th_no _ (h2 p)
    have tn0 := th_n0 _ (h2 p)
    rw [he_in c, hs p c]
    by_cases c1 : 48 ≤ sg' p ∧ sg' p ≤ 57
    · have dg' : dgN sg' p sp = true := by rw [dg]; exact c1
      rw [if_neg (fun z => by have := l3.mp z.1; omega), if_pos ⟨fun z => by have := l1.mp z; omega, fun z => by have := l2.mp z; omega⟩, if_pos dg']
      have en : numV sg sp 3 0 p = (nI (nmV sg' sp 3 0 p).1, (nmV sg' sp 3 0 p).2) := nu_v hs h2 3 0 p
      have b1 : p + 1 ≤ (nmV sg' sp 3 0 p).2 ∧ (nmV sg' sp 3 0 p).2 ≤ sp := nmV_b1 (j := 2) (v := 0) dg'
      have b2 := nm_lt (sg' := sg') (sp := sp) 3 0 p
      rw [en, em_in (show sz < 40 by omega)]
      exact ⟨rfl, rfl, by show p ≤ (nmV sg' sp 3 0 p).2; omega, b1.2, fun _ => one_ok b1.1 (segC_num (by omega) (upd_s _ _ _)) (segM_num (by omega) (upd_s _ _ _))⟩
    · have dg' : ¬ dgN sg' p sp = true := by rw [dg]; exact c1
      rw [if_neg dg', ti]
      have nd : ¬ (¬ nI (sg' p) < 48 ∧ ¬ 57 < nI (sg' p)) := by
        rintro ⟨z1, z2⟩
        exact c1 ⟨by rcases Nat.lt_or_ge (sg' p) 48 with q | q; exact absurd (l1.mpr q) z1; exact q, by rcases Nat.lt_or_ge 57 (sg' p) with q | q; exact absurd (l2.mpr q) z2; exact q⟩
      by_cases c2 : sg' p = 40
      · rw [if_neg (tno (Or.inl c2))]
        have t40 : tkN sg' p sp 40 = true := by rw [tk]; exact c2
        by_cases c3 : N < 4
        · rw [if_pos ⟨l3.mpr c2, hd.mpr c3⟩, if_neg (show ¬ (N = 4 ∨ tkN sg' p sp 40 = false) by rw [t40]; rintro (z | z); omega; cases z)]
          obtain ⟨a1, a2, a3, a4, a5⟩ := hsub c3 (p + 1) sz cR cd rc (by omega) (by omega) (by omega)
          generalize subC (p + 1, sz, cd) = A at *
          generalize subM (p + 1, N + 1, cR, rc) = B at *
          obtain ⟨A1, A2, A3, A4⟩ := A
          obtain ⟨B1, B2, B3, B4, B5⟩ := B
          dsimp only at *
          subst a1 a2
          have eh : (hereV sg sp A2 = 41) = (tkN sg' A2 sp 41 = true) := by
            rw [show (41 : Int32) = nI 41 from rfl, he_v h1 (by decide)]
            unfold tkN
            rw [decide_eq_true_eq]
            exact propext ⟨fun z => ⟨z.1, by rw [← hs _ z.1]; exact z.2⟩, fun z => ⟨z.1, by rw [hs _ z.1]; exact z.2⟩⟩
          simp only [eh]
          by_cases c4 : A1 = true ∧ tkN sg' A2 sp 41 = true
          · rw [if_pos c4, if_pos c4]
            have l5 := tkN_lt c4.2
            obtain ⟨o1, o2, o3, o4, o5, o6, o7, o8, v, o9, o10⟩ := a5 c4.1
            dsimp only at o1 o2 o3 o4 o5 o6 o7 o8 o9 o10
            exact ⟨rfl, rfl, by show p ≤ A2 + 1; omega, l5, fun _ => ⟨by show p < A2 + 1; omega, by show B3 - 1 = N; omega, o3, by show A3 + p ≤ sz + (A2 + 1); omega, o5, by show B4 + p ≤ cR + (A2 + 1); omega, o7, o8, v, o9, o10⟩⟩
          · rw [if_neg c4, if_neg c4]
            exact ⟨rfl, rfl, by show p ≤ A2; omega, a4, fun e => absurd e Bool.false_ne_true⟩
        · rw [if_neg (fun z => c3 (hd.mp z.2)), if_neg nd, if_neg l4, tv, if_neg (tno (Or.inl c2)), if_pos (by decide), if_pos (Or.inl (by omega))]
          exact en_no hp
      · rw [if_neg (fun z => c2 (l3.mp z.1)), if_neg nd, if_neg l4, tv]
        by_cases c3 : srch (fun k => decide (wdA k = sg' p)) 0 7 < 7
        · rw [if_pos c3, if_pos c3, if_neg (tn0 c3), em_in (show sz < 40 by omega)]
          exact ⟨rfl, rfl, by show p ≤ p + 1; omega, c, fun _ => one_ok (Nat.lt_succ_self _) (segC_thing c3 (upd_s _ _ _)) (segM_thing c3 (upd_s _ _ _))⟩
        · have t40 : tkN sg' p sp 40 = false := Bool.eq_false_iff.mpr (by rw [Ne, tk]; exact c2)
          rw [if_neg c3, if_neg c3, if_pos (by decide), if_pos (Or.inr t40)]
          exact en_no hp
  · have tk : ∀ x, tkN sg' p sp x = false := fun x => decide_eq_false (fun z => c z.1)
    have dg : dgN sg' p sp = false := decide_eq_false (fun z => c z.1)
    have ti : toI wdA 7 sg' p sp = 7 := if_neg c
    rw [he_out c, if_neg (by rintro ⟨z, -⟩; revert z; decide), if_neg (fun z => z.1 (by decide)), if_pos (by decide), dg, ti, tk, if_neg Bool.false_ne_true, if_neg (by decide), if_pos (Or.inr rfl)]
    exact en_no hp
/-- signs before a thing -/
theorem sg_run (hs : ∀ i, i < sp → sg i = sg' i) (h1 : ∀ i, sg i < 256) (h2 : ∀ i, sg' i < 256) (hsp : sp ≤ 40) {subC : pS → Bool × pS} {subM : mS → Bool × mS} {deep : Bool} (hd : deep = true ↔ N < 4) (hN : N ≤ 4) (hsub : N < 4 → pmR sp (N + 1) subC subM) {sz cR : Nat} {cd rc : Nat → Int32} : ∀ m p k f b, sp - p = m → p ≤ sp → sz ≤ p → cR ≤ p → m ≤ k → m < f → ∃ (w1 : Bool) (w2 : Nat) (A1 : Bool) (A2 A3 : Nat) (A4 : Nat → Int32) (B2 B3 B4 : Nat) (B5 : Nat → Int32), sgnL sg sp k b p = (w1, w2) ∧ pThing sg sp subC deep (w2, sz, cd) = (A1, A2, A3, A4) ∧ mTh sg' sp subM f (p, N, cR, rc) = (A1, A2, B3, B4, B5) ∧ p ≤ w2 ∧ (¬ w1 = b → p < w2) ∧ w2 ≤ A2 ∧ A2 ≤ sp ∧ B2 = A2 ∧ (A1 = true → w2 < A2 ∧ B3 = N ∧ sz ≤ A3 ∧ A3 + w2 ≤ sz + A2 ∧ cR ≤ B4 ∧ B4 + p ≤ cR + A2 ∧ (∀ i, i < sz → A4 i = cd i) ∧ (∀ i, i < cR → B5 i = rc i) ∧ ∃ v, segC A4 sz A3 v ∧ segM B5 cR B4 (fun tf => if w1 = b then v tf else -(v tf))) := by
  intro m
  induction m with
  | zero =>
    intro p k f b em hp hz hc hk hf
    obtain ⟨f, rfl⟩ : ∃ g, f = g + 1 := ⟨f - 1, by omega⟩
    have tk : tkN sg' p sp 45 = false := decide_eq_false (fun z => by omega)
    have e1 : sgnL sg sp k b p = (b, p) := by
      cases k with
      | zero => rfl
      | succ k => exact if_neg (by rw [he_out (by omega)]; decide)
    obtain ⟨a1, a2, a3, a4, a5⟩ := th_rel hs h1 h2 hsp hd hN hsub f (cd := cd) (rc := rc) hp hz hc tk
    rcases hA : pThing sg sp subC deep (p, sz, cd) with ⟨A1, A2, A3, A4⟩
    rcases hB : mTh sg' sp subM (f + 1) (p, N, cR, rc) with ⟨B1, B2, B3, B4, B5⟩
    rw [hA, hB] at a1 a2 a5
    rw [hA] at a3 a4
    dsimp only at a1 a2 a3 a4 a5
    subst a1 a2
    refine ⟨b, p, A1, A2, A3, A4, A2, B3, B4, B5, e1, hA, rfl, Nat.le_refl _, fun z => absurd rfl z, a3, a4, rfl, fun z => ?_⟩
    obtain ⟨o1, o2, o3, o4, o5, o6, o7, o8, v, o9, o10⟩ := a5 z
    refine ⟨o1, o2, o3, o4, o5, o6, o7, o8, v, o9, ?_⟩
    simp only [if_true]
    exact o10
  | succ m ih =>
    intro p k f b em hp hz hc hk hf
    obtain ⟨f, rfl⟩ : ∃ g, f = g + 1 := ⟨f - 1, by omega⟩
    obtain ⟨k, rfl⟩ : ∃ g, k = g + 1 := ⟨k - 1, by omega⟩
    have c : p < sp := by omega
    have eh : (hereV sg sp p = 45) = (sg' p = 45) := by
      rw [show (45 : Int32) = nI 45 from rfl, he_v h1 (by decide), hs p c]
      exact propext ⟨fun z => z.2, fun z => ⟨c, z⟩⟩
    have e0 : sgnL sg sp (k + 1) b p = if sg' p = 45 then sgnL sg sp k (!b) (p + 1) else (b, p) := by
      show (if hereV sg sp p = 45 then sgnL sg sp k (!b) (p + 1) else (b, p)) = _
      simp only [eh]
    by_cases c1 : sg' p = 45
    · have tk : tkN sg' p sp 45 = true := decide_eq_true ⟨c, c1⟩
      obtain ⟨w1, w2, A1, A2, A3, A4, B2, B3, B4, B5, q1, q2, q3, q4, q5, q6, q7, q8, q9⟩ := ih (p + 1) k f (!b) (by omega) (by omega) (by omega) (by omega) (by omega) (by omega)
      refine ⟨w1, w2, A1, A2, A3, A4, A2, B3, B4 + 1, upd B5 B4 3000, ?_, q2, ?_, by omega, fun _ => by omega, q6, q7, rfl, fun z => ?_⟩
      · rw [e0, if_pos c1]; exact q1
      · rw [mTh_s, if_pos tk]
        dsimp only
        rw [q3]
        rfl
      · obtain ⟨o1, o2, o3, o4, o5, o6, o7, o8, v, o9, o10⟩ := q9 z
        refine ⟨o1, o2, o3, o4, by omega, by omega, o7, fun i hi => (upd_o _ _ (by (try dsimp only at *); omega)).trans (o8 i hi), v, o9, ?_⟩
        have s1 := segM_neg (segM_cg o10 (cd' := upd B5 B4 3000) (fun i _ hi => (upd_o _ _ (by (try dsimp only at *); omega)).symm)) (upd_s _ _ _)
        have ef : (fun tf => if w1 = b then v tf else -(v tf)) = (fun tf => -(if w1 = !b then v tf else -(v tf))) := by
          funext tf
          cases w1 <;> cases b <;> simp [Int32.neg_neg]
        rw [ef]
        exact s1
    · have tk : tkN sg' p sp 45 = false := decide_eq_false (fun z => c1 z.2)
      rw [if_neg c1] at e0
      obtain ⟨a1, a2, a3, a4, a5⟩ := th_rel hs h1 h2 hsp hd hN hsub f (cd := cd) (rc := rc) hp hz hc tk
      rcases hA : pThing sg sp subC deep (p, sz, cd) with ⟨A1, A2, A3, A4⟩
      rcases hB : mTh sg' sp subM (f + 1) (p, N, cR, rc) with ⟨B1, B2, B3, B4, B5⟩
      rw [hA, hB] at a1 a2 a5
      rw [hA] at a3 a4
      dsimp only at a1 a2 a3 a4 a5
      subst a1 a2
      refine ⟨b, p, A1, A2, A3, A4, A2, B3, B4, B5, e0, hA, rfl, Nat.le_refl _, fun z => absurd rfl z, a3, a4, rfl, fun z => ?_⟩
      obtain ⟨o1, o2, o3, o4, o5, o6, o7, o8, v, o9, o10⟩ := a5 z
      refine ⟨o1, o2, o3, o4, o5, o6, o7, o8, v, o9, ?_⟩
      simp only [if_true]
      exact o10
theorem sg_rel (hs : ∀ i, i < sp → sg i = sg' i) (h1 : ∀ i, sg i < 256) (h2 : ∀ i, sg' i < 256) (hsp : sp ≤ 40) {subC : pS → Bool × pS} {subM : mS → Bool × mS} {deep : Bool} (hd : deep = true ↔ N < 4) (hN : N ≤ 4) (hsub : N < 4 → pmR sp (N + 1) subC subM) : pmR sp N (pSigned sg sp (pThing sg sp subC deep)) (mTh sg' sp subM (sp + 1)) := by
  intro p sz cR cd rc hp hz hc
  obtain ⟨w1, w2, A1, A2, A3, A4, B2, B3, B4, B5, q1, q2, q3, q4, q5, q6, q7, q8, q9⟩ := sg_run hs h1 h2 hsp hd hN hsub (cd := cd) (rc := rc) (sp - p) p 40 (sp + 1) false rfl hp hz hc (by omega) (by omega)
  unfold pSigned
  dsimp only
  rw [q1, q3]
  dsimp only
  rw [q2]
  cases w1 with
  | false =>
    rw [if_neg Bool.false_ne_true]
    refine ⟨rfl, rfl, by show p ≤ A2; omega, q7, fun z => ?_⟩
    obtain ⟨o1, o2, o3, o4, o5, o6, o7, o8, v, o9, o10⟩ := q9 z
    simp only [if_true] at o10
    exact ⟨by show p < A2; omega, o2, o3, by show A3 + p ≤ sz + A2; omega, o5, o6, o7, o8, v, o9, o10⟩
  | true =>
    have q5' := q5 (by decide)
    rw [if_pos rfl]
    refine ⟨rfl, rfl, by show p ≤ A2; omega, q7, fun z => ?_⟩
    obtain ⟨o1, o2, o3, o4, o5, o6, o7, o8, v, o9, o10⟩ := q9 z
    simp only [Bool.true_eq_false, if_false] at o10
    dsimp only
    rw [em_in (show A3 < 40 by omega)]
    exact ⟨by show p < A2; omega, o2, by show sz ≤ A3 + 1; omega, by show A3 + 1 + p ≤ sz + A2; omega, o5, o6, fun i hi => (upd_o _ _ (by (try dsimp only at *); omega)).trans (o7 i hi), o8, _, segC_neg (segC_cg o9 (fun i _ hi => (upd_o _ _ (by (try dsimp only at *); omega)).symm)) (upd_s _ _ _), o10⟩
/-- one deed more -/
theorem lv_st (hs : ∀ i, i < sp → sg i = sg' i) (h2 : ∀ i, sg' i < 256) (hsp : sp ≤ 40) {nx : pS → Bool × pS} {nm : mS → Bool × mS} (hn : pmR sp N nx nm) {l : Nat} (hl : l < 3) {p sz cR : Nat} {cd rc : Nat → Int32} (hz : sz ≤ p) (hc : cR ≤ p) {A : pS} {B : mS} (ho : okR p sz cR N cd rc A B) (he : A.1 = B.1) (hA : A.1 < sp) (hi : srch (fun k => decide (wdR l k = sg' A.1)) 0 (wdL l) < wdL l) : A.1 + 1 ≤ (nx (A.1 + 1, A.2)).2.1 ∧ enR sp p sz cR N cd rc ((nx (A.1 + 1, A.2)).1, emP (nx (A.1 + 1, A.2)).2 (2000 + hereV sg sp A.1)) ((nm (B.1 + 1, B.2)).1, cdS (nm (B.1 + 1, B.2)).2 (2000 + nI (srch (fun k => decide (wdR l k = sg' A.1)) 0 (wdL l)) + nI (wdO l))) := by
  obtain ⟨A1, A2, A3⟩ := A
  obtain ⟨B1, B2, B3, B4⟩ := B
  obtain ⟨o1, o2, o3, o4, o5, o6, o7, o8, v, o9, o10⟩ := ho
  dsimp only at *
  subst he
  subst o2
  obtain ⟨a1, a2, a3, a4, a5⟩ := hn (A1 + 1) A2 B3 A3 B4 (by omega) (by omega) (by omega)
  generalize nx (A1 + 1, A2, A3) = X at *
  generalize nm (A1 + 1, B2, B3, B4) = Y at *
  obtain ⟨X1, X2, X3, X4⟩ := X
  obtain ⟨Y1, Y2, Y3, Y4, Y5⟩ := Y
  dsimp only at *
  subst a1 a2
  refine ⟨a3, rfl, rfl, by show p ≤ X2; omega, a4, fun z => ?_⟩
  obtain ⟨u1, u2, u3, u4, u5, u6, u7, u8, w, u9, u10⟩ := a5 z
  dsimp only at u1 u2 u3 u4 u5 u6 u7 u8 u9 u10 ⊢
  rw [em_in (show X3 < 40 by omega), he_in hA, hs _ hA]
  obtain ⟨-, k2⟩ := dn_wk hl (h2 A1) hi 0 0
  refine ⟨by show p < X2; omega, u2, by show sz ≤ X3 + 1; omega, by show X3 + 1 + p ≤ sz + X2; omega, by show cR ≤ Y4 + 1; omega, by show Y4 + 1 + p ≤ cR + X2; omega, fun i hi' => (upd_o _ _ (by (try dsimp only at *); omega)).trans ((u7 i (by omega)).trans (o7 i hi')), fun i hi' => (upd_o _ _ (by (try dsimp only at *); omega)).trans ((u8 i (by omega)).trans (o8 i hi')), fun tf => dnV (nI (sg' A1)) (v tf) (w tf), ?_, ?_⟩
  · exact segC_bin (segC_cg o9 (fun i _ hi' => ((upd_o _ _ (by (try dsimp only at *); omega)).trans (u7 i hi')).symm)) (segC_cg u9 (fun i _ hi' => (upd_o _ _ (by (try dsimp only at *); omega)).symm)) (h2 A1) (upd_s _ _ _)
  · have e : (fun tf => dnV (nI (sg' A1)) (v tf) (w tf)) = (fun tf => wkV (nI (srch (fun k => decide (wdR l k = sg' A1)) 0 (wdL l) + wdO l)) (v tf) (w tf)) := funext fun tf => (dn_wk hl (h2 A1) hi _ _).1
    rw [e]
    refine segM_bin (segM_cg o10 (fun i _ hi' => ((upd_o _ _ (by (try dsimp only at *); omega)).trans (u8 i hi')).symm)) (segM_cg u10 (fun i _ hi' => (upd_o _ _ (by (try dsimp only at *); omega)).symm)) k2 ?_
    show upd Y5 Y4 _ Y4 = _
    rw [upd_s, Int32.add_assoc, nI_add]
theorem lvL_f {l : Nat} {nx : pS → Bool × pS} : ∀ k (q : pS), lvL sg sp l nx k (false, q) = (false, q) := by
  intro k q
  cases k with
  | zero => rfl
  | succ k => exact if_neg (fun z => Bool.false_ne_true z.1)
theorem lv_ato (hs : ∀ i, i < sp → sg i = sg' i) (h2 : ∀ i, sg' i < 256) {l : Nat} (hl : l < 3) (p : Nat) : (lvV (hereV sg sp p) = nI l) = (toI (wdR l) (wdL l) sg' p sp < wdL l) := by
  unfold toI
  by_cases c : p < sp
  · rw [he_in c, if_pos c, hs p c]
    exact propext (lv_v l hl _ (h2 p))
  · rw [he_out c, if_neg c]
    refine propext ⟨fun z => ?_, fun z => absurd z (Nat.lt_irrefl _)⟩
    revert z
    match l, hl with
    | 0, _ => decide
    | 1, _ => decide
    | 2, _ => decide
theorem en_pl {p sz cR : Nat} {cd rc : Nat → Int32} {a : Bool × pS} {b : Bool × mS} (h : enR sp p sz cR N cd rc a b) : a = (a.1, a.2) ∧ b = (a.1, b.2) := ⟨rfl, by rw [h.1]⟩
theorem lv_run (hs : ∀ i, i < sp → sg i = sg' i) (h2 : ∀ i, sg' i < 256) (hsp : sp ≤ 40) {nx : pS → Bool × pS} {nm : mS → Bool × mS} (hn : pmR sp N nx nm) {l : Nat} (hl : l < 3) (l0 : ¬ l = 0) {p sz cR : Nat} {cd rc : Nat → Int32} (hz : sz ≤ p) (hc : cR ≤ p) : ∀ m k f (A : pS) (B : mS), sp - A.1 ≤ m → m ≤ k → m < f → okR p sz cR N cd rc A B → A.1 = B.1 → A.1 ≤ sp → enR sp p sz cR N cd rc (lvL sg sp l nx k (true, A)) (mRl sg' sp l nm f B) := by
  intro m
  induction m with
  | zero =>
    intro k f A B em hk hf ho he hA
    obtain ⟨f, rfl⟩ : ∃ g, f = g + 1 := ⟨f - 1, by omega⟩
    have e1 : lvL sg sp l nx k (true, A) = (true, A) := by
      cases k with
      | zero => rfl
      | succ k =>
        refine if_neg (fun z => ?_)
        have := z.2
        rw [lv_ato hs h2 hl] at this
        have := toI_lt this
        dsimp only at this
        omega
    rw [e1, mRl_s, if_neg (fun z => by have := toI_lt z; omega)]
    exact ⟨rfl, he, by have := ho.1; show p ≤ A.1; omega, hA, fun _ => ho⟩
  | succ m ih =>
    intro k f A B em hk hf ho he hA
    obtain ⟨f, rfl⟩ : ∃ g, f = g + 1 := ⟨f - 1, by omega⟩
    obtain ⟨k, rfl⟩ : ∃ g, k = g + 1 := ⟨k - 1, by omega⟩
    rw [mRl_s, ← he]
    show enR sp p sz cR N cd rc (if true = true ∧ lvV (hereV sg sp A.1) = nI l then lvL sg sp l nx k ((nx (A.1 + 1, A.2)).1, emP (nx (A.1 + 1, A.2)).2 (2000 + hereV sg sp A.1)) else (true, A)) _
    simp only [lv_ato hs h2 hl]
    by_cases c : toI (wdR l) (wdL l) sg' A.1 sp < wdL l
    · have hA' := toI_lt c
      have ei : toI (wdR l) (wdL l) sg' A.1 sp = srch (fun k => decide (wdR l k = sg' A.1)) 0 (wdL l) := if_pos hA'
      rw [if_pos ⟨trivial, c⟩, if_pos c, if_neg l0, ei]
      rw [ei] at c
      obtain ⟨s1, s2⟩ := lv_st hs h2 hsp hn hl hz hc ho he hA' c
      rw [← he] at s2
      generalize nx (A.1 + 1, A.2) = X at *
      generalize nm (A.1 + 1, B.2) = Y at *
      obtain ⟨X1, X⟩ := X
      obtain ⟨Y1, Y⟩ := Y
      obtain ⟨a1, a2, a3, a4, a5⟩ := s2
      dsimp only at *
      subst a1
      cases X1 with
      | false =>
        rw [lvL_f, if_neg Bool.false_ne_true]
        exact ⟨rfl, a2, a3, a4, fun e => absurd e Bool.false_ne_true⟩
      | true =>
        rw [if_pos rfl]
        exact ih k f _ _ (by have e : (emP X (2000 + hereV sg sp A.1)).1 = X.1 := rfl; omega) (by omega) (by omega) (a5 rfl) a2 a4
    · rw [if_neg (fun z => c z.2), if_neg c]
      exact ⟨rfl, he, by have := ho.1; show p ≤ A.1; omega, hA, fun _ => ho⟩
theorem lv_run0 (hs : ∀ i, i < sp → sg i = sg' i) (h2 : ∀ i, sg' i < 256) (hsp : sp ≤ 40) {nx : pS → Bool × pS} {nm : mS → Bool × mS} (hn : pmR sp N nx nm) {p sz cR : Nat} {cd rc : Nat → Int32} (hz : sz ≤ p) (hc : cR ≤ p) (f : Nat) (A : pS) (B : mS) (ho : okR p sz cR N cd rc A B) (he : A.1 = B.1) (hA : A.1 ≤ sp) : enR sp p sz cR N cd rc (lvL sg sp 0 nx 1 (true, A)) (mRl sg' sp 0 nm (f + 1) B) := by
  rw [mRl_s, ← he]
  show enR sp p sz cR N cd rc (if true = true ∧ lvV (hereV sg sp A.1) = nI 0 then ((nx (A.1 + 1, A.2)).1, emP (nx (A.1 + 1, A.2)).2 (2000 + hereV sg sp A.1)) else (true, A)) _
  simp only [lv_ato hs h2 (show 0 < 3 by decide)]
  by_cases c : toI (wdR 0) (wdL 0) sg' A.1 sp < wdL 0
  · have hA' := toI_lt c
    have ei : toI (wdR 0) (wdL 0) sg' A.1 sp = srch (fun k => decide (wdR 0 k = sg' A.1)) 0 (wdL 0) := if_pos hA'
    rw [if_pos ⟨trivial, c⟩, if_pos c, if_pos trivial, ei]
    rw [ei] at c
    obtain ⟨s1, s2⟩ := lv_st hs h2 hsp hn (by decide) hz hc ho he hA' c
    rw [← he] at s2
    generalize nx (A.1 + 1, A.2) = X at *
    generalize nm (A.1 + 1, B.2) = Y at *
    obtain ⟨X1, X⟩ := X
    obtain ⟨Y1, Y⟩ := Y
    obtain ⟨a1, a2, a3, a4, a5⟩ := s2
    dsimp only at *
    subst a1
    cases X1 with
    | false =>
      rw [if_neg Bool.false_ne_true]
      exact ⟨rfl, a2, a3, a4, fun e => absurd e Bool.false_ne_true⟩
    | true =>
      rw [if_pos rfl]
      exact ⟨rfl, a2, a3, a4, a5⟩
  · rw [if_neg (fun z => c z.2), if_neg c]
    exact ⟨rfl, he, by have := ho.1; show p ≤ A.1; omega, hA, fun _ => ho⟩
theorem lv_rel (hs : ∀ i, i < sp → sg i = sg' i) (h2 : ∀ i, sg' i < 256) (hsp : sp ≤ 40) {nx : pS → Bool × pS} {nm : mS → Bool × mS} (hn : pmR sp N nx nm) {l : Nat} (hl : l < 3) : pmR sp N (pLevel sg sp l nx) (mRk sg' sp l nm) := by
  intro p sz cR cd rc hp hz hc
  obtain ⟨a1, a2, a3, a4, a5⟩ := hn p sz cR cd rc hp hz hc
  unfold pLevel mRk
  generalize nx (p, sz, cd) = X at *
  generalize nm (p, N, cR, rc) = Y at *
  obtain ⟨X1, X⟩ := X
  obtain ⟨Y1, Y⟩ := Y
  dsimp only at *
  subst a1
  cases X1 with
  | false =>
    rw [lvL_f, if_neg Bool.false_ne_true]
    exact ⟨rfl, a2, a3, a4, fun e => absurd e Bool.false_ne_true⟩
  | true =>
    rw [if_pos rfl]
    by_cases l0 : l = 0
    · subst l0
      rw [if_pos rfl]
      exact lv_run0 hs h2 hsp hn hz hc sp X Y (a5 rfl) a2 a4
    · rw [if_neg l0]
      exact lv_run hs h2 hsp hn hl l0 hz hc sp 40 (sp + 1) X Y (by omega) hsp (Nat.lt_succ_self _) (a5 rfl) a2 a4
theorem top_rel (hs : ∀ i, i < sp → sg i = sg' i) (h1 : ∀ i, sg i < 256) (h2 : ∀ i, sg' i < 256) (hsp : sp ≤ 40) : ∀ k, k ≤ 4 → pmR sp (4 - k) (pTop sg sp k) (mTop sg' sp k) := by
  intro k
  induction k with
  | zero =>
    intro _
    exact lv_rel hs h2 hsp (lv_rel hs h2 hsp (lv_rel hs h2 hsp (sg_rel hs h1 h2 hsp (N := 4) (deep := false) (by decide) (by decide) (fun z => absurd z (by decide))) (by decide)) (by decide)) (by decide)
  | succ k ih =>
    intro hk
    have e : 4 - (k + 1) + 1 = 4 - k := by omega
    exact lv_rel hs h2 hsp (lv_rel hs h2 hsp (lv_rel hs h2 hsp (sg_rel hs h1 h2 hsp (N := 4 - (k + 1)) (deep := true) ⟨fun _ => by omega, fun _ => rfl⟩ (by omega) (fun _ => by rw [e]; exact ih (by omega))) (by decide)) (by decide)) (by decide)
end N38
/-- a rule, on both sides -/
def ruR (r : cRule) (code : Nat → Int32) (L : Nat) : Prop := r.2.2.2.1 ≤ 40 ∧ ∃ v, segC r.1 0 r.2.2.2.1 v ∧ ((L = 0 ∧ ∀ tf, v tf = tf 3) ∨ (0 < L ∧ L ≤ 80 ∧ segM code 0 L v))
theorem ru_W {r : cRule} {code : Nat → Int32} {L : Nat} (h : ruR r code L) : rW code L := by
  obtain ⟨-, v, -, (⟨rfl, -⟩ | ⟨h1, h2, h3⟩)⟩ := h
  · exact rW_0 _
  · exact rW_seg h2 h3
theorem ru_v {r : cRule} {code : Nat → Int32} {L : Nat} (h : ruR r code L) (tf : Nat → Int32) : wV 7 tf r.1 r.2.1 r.2.2.2.1 = clV99 (rlV tf code L) := by
  obtain ⟨h0, v, h1, (⟨rfl, h2⟩ | ⟨h2, h3, h4⟩)⟩ := h
  · rw [wV_seg h0 h1, h2]; rfl
  · rw [wV_seg h0 h1, rlV_seg h2 h4]
/-- a rule read, on both sides -/
theorem rd_eq {len : Nat} {c : Nat → Nat} {r : cRule} (hl : len ≤ 80) (hc : ∀ i, c i < 256) (hr : ∀ i, r.2.2.1 i < 256) (rc code : Nat → Int32) : (if (readO (len, c) r).1 = -1 then (0 : Int32) else -1 - (readO (len, c) r).1) = ftV len 40 (rrS c len rc).1 (rrS c len rc).2.1 (min len 40) ∧ (((readO (len, c) r).1 = -1) = (ftV len 40 (rrS c len rc).1 (rrS c len rc).2.1 (min len 40) = 0)) ∧ ((readO (len, c) r).1 = -1 → ruR (readO (len, c) r).2 (itr (cpC (rrS c len rc).2.2.2.2) code (rrS c len rc).2.2.2.1) (rrS c len rc).2.2.2.1) := by
  obtain ⟨cd, st, sg, sz, sp, p⟩ := r
  unfold readO rrS rdV rdS rdQ
  dsimp only at *
  by_cases c0 : len = 0
  · subst c0
    rw [if_pos rfl, if_pos rfl, if_pos rfl]
    refine ⟨rfl, propext ⟨fun _ => rfl, fun _ => rfl⟩, fun _ => ⟨by show 1 ≤ 40; decide, fun tf => tf 3, segC_thing (by decide) (by show upd cd 0 1003 0 = 1000 + nI 3; rw [upd_s]; rfl), Or.inl ⟨rfl, fun _ => rfl⟩⟩⟩
  · simp only [if_neg c0]
    have hp : ∀ i, pre c sg (min len 40) i < 256 := fun i => by
      unfold pre
      split
      · exact hc i
      · exact hr i
    obtain ⟨a1, a2, a3, a4, a5⟩ := top_rel (sp := min len 40) (sg := pre c sg (min len 40)) (sg' := c) (fun i hi => if_pos hi) hp hc (by omega) 4 (by decide) 0 0 0 cd rc (by omega) (by omega) (by omega)
    rw [Nat.sub_self] at a1 a2 a5
    generalize pTop (pre c sg (min len 40)) (min len 40) 4 (0, 0, cd) = X at *
    generalize mTop c (min len 40) 4 (0, 0, 0, rc) = Y at *
    obtain ⟨X1, X2, X3, X4⟩ := X
    obtain ⟨Y1, Y2, Y3, Y4, Y5⟩ := Y
    dsimp only at *
    subst a1 a2
    have n1 : ¬ nI X2 = (-1 : Int32) := ni_m1 (by omega)
    have n2 : ¬ (-1 - nI X2 : Int32) = 0 := by
      have : ∀ x, x < 41 → ¬ (-1 - nI x : Int32) = 0 := by decide +kernel
      exact this X2 (by omega)
    unfold ftV
    by_cases t1 : X1 = true ∧ X2 = min len 40 ∧ len ≤ 40
    · rw [if_pos t1, if_pos rfl, if_neg (fun z => by omega), if_pos ⟨t1.1, t1.2.1⟩]
      refine ⟨rfl, propext ⟨fun _ => rfl, fun _ => rfl⟩, fun _ => ?_⟩
      obtain ⟨o1, o2, o3, o4, o5, o6, o7, o8, v, o9, o10⟩ := a5 t1.1
      dsimp only at *
      have k4 : 0 < Y4 := by
        rcases Nat.eq_zero_or_pos Y4 with z | z
        · subst z
          obtain ⟨k, e, h1, -⟩ := o10
          have : k = 0 := by omega
          subst this
          have := h1 (fun _ => 0) []
          exact absurd this (by intro z; cases z)
        · exact z
      refine ⟨by show X3 ≤ 40; omega, v, o9, Or.inr ⟨k4, by omega, segM_cg o10 (fun i _ hi => ?_)⟩⟩
      rw [cpC_at, if_pos hi]
    · rw [if_neg t1, if_neg n1]
      by_cases t2 : 40 < len ∧ (X1 = true ∧ X2 = min len 40 ∨ 40 ≤ X2)
      · have e2 : X2 = 40 := by omega
        rw [if_pos t2]
        subst e2
        exact ⟨rfl, propext ⟨fun z => absurd z n1, fun z => absurd z n2⟩, fun z => absurd z n1⟩
      · rw [if_neg t2, if_neg (fun z => t1 ⟨z.1, z.2, by rcases Nat.lt_or_ge 40 len with q | q; exact absurd ⟨q, Or.inl z⟩ t2; exact q⟩)]
        exact ⟨rfl, propext ⟨fun z => absurd z n1, fun z => absurd z n2⟩, fun z => absurd z n1⟩

