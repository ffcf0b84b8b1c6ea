/-! searches: what is found is the least; the class's walk round a set -/
section N49
variable {m : Nat} {fit : Nat → (Nat → Nat) → Nat → Bool}
/-- the filled places fit -/
def okC (m : Nat) (fit : Nat → (Nat → Nat) → Nat → Bool) (k j : Nat) (c : Nat → Nat) : Prop := ∀ i, k ≤ i → i < k + j → c i < m ∧ fit i c (c i) = true
/-- from place k on, a is before b -/
def lxC (a b : Nat → Nat) (k j : Nat) : Prop := ∃ p, k ≤ p ∧ p < k + j ∧ (∀ q, k ≤ q → q < p → a q = b q) ∧ a p < b p
theorem lx_tr {a b c : Nat → Nat} {k j : Nat} (h1 : lxC a b k j) (h2 : lxC b c k j) : lxC a c k j := by
  obtain ⟨p, p1, p2, p3, p4⟩ := h1
  obtain ⟨q, q1, q2, q3, q4⟩ := h2
  rcases Nat.lt_trichotomy p q with e | e | e
  · exact ⟨p, p1, p2, fun x h1 h2 => (p3 x h1 h2).trans (q3 x h1 (by omega)), by rw [← q3 p p1 e]; exact p4⟩
  · subst e; exact ⟨p, p1, p2, fun x h1 h2 => (p3 x h1 h2).trans (q3 x h1 h2), by omega⟩
  · exact ⟨q, q1, q2, fun x h1 h2 => (p3 x h1 (by omega)).trans (q3 x h1 h2), by rw [p3 q q1 e]; exact q4⟩
theorem lx_ir {a : Nat → Nat} {k j : Nat} : ¬ lxC a a k j := fun ⟨p, _, _, _, h⟩ => Nat.lt_irrefl _ h
theorem lx_eq {a b : Nat → Nat} {k j : Nat} (h1 : ¬ lxC a b k j) (h2 : ¬ lxC b a k j) : ∀ i, k ≤ i → i < k + j → a i = b i := by
  intro i
  induction i using Nat.strongRecOn with
  | ind i ih =>
    intro hk hi
    rcases Nat.lt_trichotomy (a i) (b i) with e | e | e
    · exact absurd ⟨i, hk, hi, fun q h1 h2 => ih q h2 h1 (by omega), e⟩ h1
    · exact e
    · exact absurd ⟨i, hk, hi, fun q h1 h2 => (ih q h2 h1 (by omega)).symm, e⟩ h2
theorem lx_cg {a a' b b' : Nat → Nat} {k j : Nat} (ha : ∀ i, k ≤ i → i < k + j → a i = a' i) (hb : ∀ i, k ≤ i → i < k + j → b i = b' i) (h : lxC a b k j) : lxC a' b' k j := by
  obtain ⟨p, p1, p2, p3, p4⟩ := h
  exact ⟨p, p1, p2, fun q h1 h2 => by rw [← ha q h1 (by omega), ← hb q h1 (by omega)]; exact p3 q h1 h2, by rw [← ha p p1 p2, ← hb p p1 p2]; exact p4⟩
theorem bkF_res (hf : ∀ k c c' r, (∀ i, i < k → c i = c' i) → fit k c r = fit k c' r) : ∀ j k c, (bkF m fit j k c).1 = true → okC m fit k j (bkF m fit j k c).2 ∧ ∀ c', (∀ i, i < k → c' i = c i) → okC m fit k j c' → ¬ lxC c' (bkF m fit j k c).2 k j := by
  intro j
  induction j with
  | zero => intro k c _; exact ⟨fun i h1 h2 => absurd h2 (by omega), fun c' _ _ ⟨p, p1, p2, _⟩ => by omega⟩
  | succ j ih =>
    intro k c h
    have loop : ∀ t g c, (∀ r', r' < g → ¬ (fit k c r' = true ∧ cmpC m fit (k + 1) j (z_up c k r'))) → (bkL (fit k) (bkF m fit j (k + 1)) k t g c).1 = true → ∃ g' d, g ≤ g' ∧ g' < g + t ∧ fit k c g' = true ∧ (∀ i, i < k → d i = c i) ∧ d k = g' ∧ (bkF m fit j (k + 1) d).1 = true ∧ (bkL (fit k) (bkF m fit j (k + 1)) k t g c).2 = (bkF m fit j (k + 1) d).2 ∧ ∀ r', r' < g' → ¬ (fit k c r' = true ∧ cmpC m fit (k + 1) j (z_up c k r')) := by
      intro t
      induction t with
      | zero => intro g c _ h; exact absurd h Bool.false_ne_true
      | succ t it =>
        intro g c hno h
        rw [bkL_s] at h ⊢
        have nxt : ∀ d : Nat → Nat, (∀ i, i < k → d i = c i) → ¬ (fit k c g = true ∧ cmpC m fit (k + 1) j (z_up c k g)) → (bkL (fit k) (bkF m fit j (k + 1)) k t (g + 1) d).1 = true → ∃ g' d', g ≤ g' ∧ g' < g + (t + 1) ∧ fit k c g' = true ∧ (∀ i, i < k → d' i = c i) ∧ d' k = g' ∧ (bkF m fit j (k + 1) d').1 = true ∧ (bkL (fit k) (bkF m fit j (k + 1)) k t (g + 1) d).2 = (bkF m fit j (k + 1) d').2 ∧ ∀ r', r' < g' → ¬ (fit k c r' = true ∧ cmpC m fit (k + 1) j (z_up c k r')) := by
          intro d hd hg h
          have cg : ∀ r', (fit k d r' = true ∧ cmpC m fit (k + 1) j (z_up d k r')) ↔ (fit k c r' = true ∧ cmpC m fit (k + 1) j (z_up c k r')) := by
            intro r'
            have e : ∀ i, i < k + 1 → z_up d k r' i = z_up c k r' i := fun i hi => by
              by_cases q : i = k
              · subst q; rw [zup_eq, zup_eq]
              · rw [zup_ne _ _ q, zup_ne _ _ q]; exact hd i (by omega)
            rw [hf k d c r' hd]
            exact ⟨fun z => ⟨z.1, cmp_cg e z.2⟩, fun z => ⟨z.1, cmp_cg (fun i hi => (e i hi).symm) z.2⟩⟩
          obtain ⟨g', d', a1, a2, a3, a4, a5, a6, a7, a8⟩ := it (g + 1) d (fun r' hr' z => by
            have z := (cg r').mp z
            by_cases q : r' = g
            · subst q; exact hg z
            · exact hno r' (by omega) z) h
          exact ⟨g', d', by omega, by omega, by rw [← hf k d c g' hd]; exact a3, fun i hi => (a4 i hi).trans (hd i hi), a5, a6, a7, fun r' hr' z => a8 r' hr' ((cg r').mpr z)⟩
        by_cases c1 : fit k c g = true
        · rw [if_pos c1] at h ⊢
          by_cases c2 : (bkF m fit j (k + 1) (z_up c k g)).1 = true
          · rw [if_pos c2]
            exact ⟨g, z_up c k g, Nat.le_refl _, by omega, c1, fun i hi => zup_ne _ _ (by omega), zup_eq _ _ _, c2, rfl, hno⟩
          · rw [if_neg c2] at h ⊢
            exact nxt _ (fun i hi => (bkF_keep j (k + 1) _ i (by omega)).trans (zup_ne _ _ (by omega))) (fun z => c2 ((bkF_iff hf j (k + 1) _).mpr z.2)) h
        · rw [if_neg c1] at h ⊢
          exact nxt _ (fun i hi => zup_ne _ _ (by omega)) (fun z => c1 z.1) h
    obtain ⟨g', d, a1, a2, a3, a4, a5, a6, a7, a8⟩ := loop m 0 c (fun r' h => absurd h (Nat.not_lt_zero _)) h
    have e : (bkF m fit (j + 1) k c).2 = (bkF m fit j (k + 1) d).2 := a7
    rw [e]
    obtain ⟨b1, b2⟩ := ih (k + 1) d a6
    have kp : ∀ i, i < k + 1 → (bkF m fit j (k + 1) d).2 i = d i := fun i hi => bkF_keep j (k + 1) d i hi
    generalize (bkF m fit j (k + 1) d).2 = r at *
    refine ⟨fun i h1 h2 => ?_, fun c' h1 h2 h3 => ?_⟩
    · by_cases q : i = k
      · subst q
        rw [kp i (by omega), a5]
        refine ⟨by omega, ?_⟩
        rw [hf i r c g' (fun x hx => (kp x (by omega)).trans (a4 x hx))]
        exact a3
      · exact b1 i (by omega) (by omega)
    · obtain ⟨p, p1, p2, p3, p4⟩ := h3
      by_cases q : p = k
      · subst q
        rw [kp p (by omega), a5] at p4
        obtain ⟨w1, w2⟩ := h2 p (Nat.le_refl _) (by omega)
        refine a8 (c' p) p4 ⟨by rw [hf p c c' _ (fun x hx => (h1 x hx).symm)]; exact w2, c', fun i hi => ?_, fun i hi1 hi2 => h2 i (by omega) (by omega)⟩
        by_cases e2 : i = p
        · subst e2; rw [zup_eq]
        · rw [zup_ne _ _ e2]; exact h1 i (by omega)
      · have e1 : c' k = g' := by rw [p3 k (Nat.le_refl _) (by omega), kp k (by omega), a5]
        refine b2 c' (fun i hi => ?_) (fun i hi1 hi2 => h2 i (by omega) (by omega)) ⟨p, by omega, by omega, fun x hx1 hx2 => p3 x (by omega) hx2, p4⟩
        by_cases e2 : i = k
        · subst e2; rw [e1, a5]
        · rw [h1 i (by omega), a4 i (by omega)]
end N49
/-- the walk round a set: those left, those met by the last; who comes -/
def wkl (mt : Nat → Nat) (x : Nat) : Nat → Nat × Nat
  | 0 => (x, x)
  | i + 1 => ((wkl mt x i).1 &&& (127 - 2 ^ lowB ((wkl mt x i).2 &&& (wkl mt x i).1)), mt (lowB ((wkl mt x i).2 &&& (wkl mt x i).1)))
def wkc (mt : Nat → Nat) (x i : Nat) : Nat := lowB ((wkl mt x i).2 &&& (wkl mt x i).1)
theorem wkR_sp {mt : Nat → Nat} {n x : Nat} : ∀ j i (tu : Nat → Int32), ((wkR mt n i j (wkl mt x i).1 (wkl mt x i).2 tu).1 = true ↔ ∀ t, i ≤ t → t < i + j → wkc mt x t < n) ∧ (∀ t, t < i → (wkR mt n i j (wkl mt x i).1 (wkl mt x i).2 tu).2 t = tu t) ∧ ((wkR mt n i j (wkl mt x i).1 (wkl mt x i).2 tu).1 = true → ∀ t, i ≤ t → t < i + j → (wkR mt n i j (wkl mt x i).1 (wkl mt x i).2 tu).2 t = nI (wkc mt x t)) := by
  intro j
  induction j with
  | zero => exact fun i tu => ⟨⟨fun _ t h1 h2 => absurd h2 (by omega), fun _ => rfl⟩, fun _ _ => rfl, fun _ t h1 h2 => absurd h2 (by omega)⟩
  | succ j ih =>
    intro i tu
    rw [wkR_s]
    by_cases c : wkc mt x i < n
    · have c' : lowB ((wkl mt x i).2 &&& (wkl mt x i).1) < n := c
      rw [if_pos c']
      obtain ⟨a1, a2, a3⟩ := ih (i + 1) (upd tu i (nI (wkc mt x i)))
      refine ⟨⟨fun h t h1 h2 => ?_, fun h => a1.mpr (fun t h1 h2 => h t (by omega) (by omega))⟩, fun t ht => (a2 t (by omega)).trans (upd_o _ _ (by omega)), fun h t h1 h2 => ?_⟩
      · by_cases e : t = i
        · rw [e]; exact c
        · exact a1.mp h t (by omega) (by omega)
      · by_cases e : t = i
        · subst e; exact (a2 t (by omega)).trans (upd_s _ _ _)
        · exact a3 h t (by omega) (by omega)
    · have c' : ¬ lowB ((wkl mt x i).2 &&& (wkl mt x i).1) < n := c
      rw [if_neg c']
      exact ⟨⟨fun h => absurd h Bool.false_ne_true, fun h => absurd (h i (Nat.le_refl _) (by omega)) c⟩, fun _ _ => rfl, fun h => absurd h Bool.false_ne_true⟩
/-- a set that the class takes for a ring -/
def psR (mt nt : Nat → Nat) (n m x : Nat) : Prop := pop x = m ∧ okF (rgB mt nt n x) 0 n = true ∧ ∀ t, t < m → wkc mt x t < n
theorem lsB_iff {tu be : Nat → Int32} {a b : Nat → Nat} : ∀ j i, (∀ t, i ≤ t → t < i + j → tu t = nI (a t) ∧ a t < 7 ∧ be t = nI (b t) ∧ b t < 7) → (lsB tu be i j = true ↔ lxC a b i j) := by
  intro j
  induction j with
  | zero => intro i _; exact ⟨fun h => absurd h Bool.false_ne_true, fun ⟨p, p1, p2, _⟩ => by omega⟩
  | succ j ih =>
    intro i h
    obtain ⟨h1, h2, h3, h4⟩ := h i (Nat.le_refl _) (by omega)
    have ih := ih (i + 1) (fun t h1 h2 => h t (by omega) (by omega))
    rw [lsB_s, h1, h3]
    have e1 : (nI (a i) = nI (b i)) = (a i = b i) := nI_eqI (by omega) (by omega)
    have e2 : (nI (a i) < nI (b i)) = (a i < b i) := nI_ult (by omega) (by omega)
    simp only [e1, e2]
    by_cases c : a i = b i
    · rw [if_pos c, ih]
      constructor
      · rintro ⟨p, p1, p2, p3, p4⟩
        refine ⟨p, by omega, by omega, fun q q1 q2 => ?_, p4⟩
        by_cases e : q = i
        · rw [e]; exact c
        · exact p3 q (by omega) q2
      · rintro ⟨p, p1, p2, p3, p4⟩
        have : p ≠ i := fun e => by rw [e] at p4; omega
        exact ⟨p, by omega, by omega, fun q q1 q2 => p3 q (by omega) q2, p4⟩
    · rw [if_neg c, decide_eq_true_eq]
      constructor
      · intro z
        exact ⟨i, Nat.le_refl _, by omega, fun q q1 q2 => absurd q2 (by omega), z⟩
      · rintro ⟨p, p1, p2, p3, p4⟩
        by_cases e : p = i
        · rw [e] at p4; exact p4
        · exact absurd (p3 i (Nat.le_refl _) (by omega)) c
theorem cpy_at {f g : Nat → Int32} {m t : Nat} : va_cpy f g 0 0 m t = if t < m then f t else g t := by
  unfold va_cpy
  by_cases c : t < m
  · rw [if_pos c, if_pos (by omega)]
    congr 1
    omega
  · rw [if_neg c, if_neg (by omega)]
/-- all sets tried: the least ring -/
theorem rs_all {mt nt : Nat → Nat} {n m : Nat} (hn : n ≤ 7) {ci : cCir} : ∀ k, ((itr (rsF mt nt n m) (false, ci) k).1 = false ∧ ∀ x, x < k → ¬ psR mt nt n m x) ∨ ((itr (rsF mt nt n m) (false, ci) k).1 = true ∧ ∃ x, x < k ∧ psR mt nt n m x ∧ (∀ t, t < m → (itr (rsF mt nt n m) (false, ci) k).2.2 t = nI (wkc mt x t)) ∧ ∀ y, y < k → psR mt nt n m y → ¬ lxC (wkc mt y) (wkc mt x) 0 m) := by
  intro k
  induction k with
  | zero => exact Or.inl ⟨rfl, fun x h => absurd h (Nat.not_lt_zero _)⟩
  | succ k ih =>
    rw [itr_s]
    generalize itr (rsF mt nt n m) (false, ci) k = r at *
    obtain ⟨r1, r2, r3⟩ := r
    have ps : psR mt nt n m k ↔ pop k = m ∧ (rgV mt nt n k m r2).1 = true := by
      unfold psR rgV
      obtain ⟨a1, a2, a3⟩ := wkR_sp (mt := mt) (n := n) (x := k) m 0 r2
      by_cases c : okF (rgB mt nt n k) 0 n = true
      · rw [if_pos c]
        have a1 : (wkR mt n 0 m k k r2).1 = true ↔ ∀ t, 0 ≤ t → t < 0 + m → wkc mt k t < n := a1
        rw [a1]
        exact ⟨fun z => ⟨z.1, fun t _ h => z.2.2 t (by omega)⟩, fun z => ⟨z.1, c, fun t h => z.2 t (Nat.zero_le _) (by omega)⟩⟩
      · rw [if_neg c]
        exact ⟨fun z => absurd z.2.1 c, fun z => absurd z.2 Bool.false_ne_true⟩
    have tv : psR mt nt n m k → ∀ t, t < m → (rgV mt nt n k m r2).2 t = nI (wkc mt k t) := by
      intro h t ht
      have h' := (ps.mp h).2
      unfold rgV at h' ⊢
      rw [if_pos h.2.1] at h' ⊢
      exact (wkR_sp (mt := mt) (n := n) (x := k) m 0 r2).2.2 h' t (Nat.zero_le _) (by omega)
    have lift : ∀ (P : Nat → Prop), (∀ x, x < k → P x) → P k → ∀ x, x < k + 1 → P x := fun P h1 h2 x hx => by
      by_cases e : x = k
      · rw [e]; exact h2
      · exact h1 x (by omega)
    unfold rsF
    dsimp only at ih ⊢
    by_cases c1 : pop k = m
    · rw [if_pos c1]
      by_cases c2 : (rgV mt nt n k m r2).1 = true
      · have hk := ps.mpr ⟨c1, c2⟩
        rw [if_pos c2]
        rcases ih with ⟨i1, i2⟩ | ⟨i1, x, x1, x2, x3, x4⟩
        · rw [i1, if_neg Bool.false_ne_true]
          refine Or.inr ⟨rfl, k, by omega, hk, fun t ht => ?_, lift _ (fun y hy hp => absurd hp (i2 y hy)) (fun _ => lx_ir)⟩
          show va_cpy (rgV mt nt n k m r2).2 r3 0 0 m t = _
          rw [cpy_at, if_pos ht]; exact tv hk t ht
        · rw [i1, if_pos rfl]
          have li := lsB_iff (tu := (rgV mt nt n k m r2).2) (be := r3) (a := wkc mt k) (b := wkc mt x) m 0 (fun t _ ht => ⟨tv hk t (by omega), by have := hk.2.2 t (by omega); omega, x3 t (by omega), by have := x2.2.2 t (by omega); omega⟩)
          by_cases c3 : lsB (rgV mt nt n k m r2).2 r3 0 m = true
          · rw [if_pos c3]
            have l3 := li.mp c3
            refine Or.inr ⟨rfl, k, by omega, hk, fun t ht => ?_, lift _ (fun y hy hp z => x4 y hy hp (lx_tr z l3)) (fun _ => lx_ir)⟩
            show va_cpy (rgV mt nt n k m r2).2 r3 0 0 m t = _
            rw [cpy_at, if_pos ht]; exact tv hk t ht
          · rw [if_neg c3]
            exact Or.inr ⟨rfl, x, by omega, x2, x3, lift _ x4 (fun _ z => c3 (li.mpr z))⟩
      · have hk : ¬ psR mt nt n m k := fun z => c2 (ps.mp z).2
        rw [if_neg c2]
        rcases ih with ⟨i1, i2⟩ | ⟨i1, x, x1, x2, x3, x4⟩
        · exact Or.inl ⟨i1, lift _ i2 hk⟩
        · exact Or.inr ⟨i1, x, by omega, x2, x3, lift _ x4 (fun z => absurd z hk)⟩
    · have hk : ¬ psR mt nt n m k := fun z => c1 z.1
      rw [if_neg c1]
      rcases ih with ⟨i1, i2⟩ | ⟨i1, x, x1, x2, x3, x4⟩
      · exact Or.inl ⟨i1, lift _ i2 hk⟩
      · exact Or.inr ⟨i1, x, by omega, x2, x3, lift _ x4 (fun z => absurd z hk)⟩

