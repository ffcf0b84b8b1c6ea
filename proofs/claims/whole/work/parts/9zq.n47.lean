/-! rooms that are enough, on both sides -/
/-- there is a way on: the first k places as they stand, the next j filled -/
def cmpC (m : Nat) (fit : Nat → (Nat → Nat) → Nat → Bool) (k j : Nat) (c : Nat → Nat) : Prop := ∃ c' : Nat → Nat, (∀ i, i < k → c' i = c i) ∧ ∀ i, k ≤ i → i < k + j → c' i < m ∧ fit i c' (c' i) = true
section N47
variable {m : Nat} {fit : Nat → (Nat → Nat) → Nat → Bool}
theorem cmp_cg {k j : Nat} {c d : Nat → Nat} (h : ∀ i, i < k → c i = d i) : cmpC m fit k j c → cmpC m fit k j d := by
  rintro ⟨c', h1, h2⟩
  exact ⟨c', fun i hi => (h1 i hi).trans (h i hi), h2⟩
theorem bkL_keep {f : (Nat → Nat) → Nat → Bool} {rec : (Nat → Nat) → Bool × (Nat → Nat)} {k : Nat} (hr : ∀ c i, i < k + 1 → (rec c).2 i = c i) : ∀ t g c i, i < k → (bkL f rec k t g c).2 i = c i := by
  intro t
  induction t with
  | zero => intro g c i _; rfl
  | succ t ih =>
    intro g c i hi
    rw [bkL_s]
    have z : z_up c k g i = c i := zup_ne _ _ (by omega)
    split
    · split
      · rw [hr _ i (by omega), z]
      · rw [ih _ _ i hi, hr _ i (by omega), z]
    · rw [ih _ _ i hi, z]
theorem bkF_keep : ∀ j k c i, i < k → (bkF m fit j k c).2 i = c i := by
  intro j
  induction j with
  | zero => intro k c i _; rfl
  | succ j ih => exact fun k c i hi => bkL_keep (fun c i hi => ih (k + 1) c i hi) m 0 c i hi
/-- the search finds a way on just where there is one -/
theorem bkF_iff (hf : ∀ k c c' r, (∀ i, i < k → c i = c' i) → fit k c r = fit k c' r) : ∀ j k c, (bkF m fit j k c).1 = true ↔ cmpC m fit k j c := by
  intro j
  induction j with
  | zero => intro k c; exact ⟨fun _ => ⟨c, fun _ _ => rfl, fun i h1 h2 => absurd h2 (by omega)⟩, fun _ => rfl⟩
  | succ j ih =>
    intro k c
    have hk : ∀ c i, i < k + 1 → (bkF m fit j (k + 1) c).2 i = c i := fun c i hi => bkF_keep j (k + 1) c i hi
    have loop : ∀ t g c, (bkL (fit k) (bkF m fit j (k + 1)) k t g c).1 = true ↔ ∃ r, g ≤ r ∧ r < g + t ∧ fit k c r = true ∧ cmpC m fit (k + 1) j (z_up c k r) := by
      intro t
      induction t with
      | zero => intro g c; exact ⟨fun h => absurd h Bool.false_ne_true, fun ⟨r, h1, h2, _⟩ => absurd h2 (by omega)⟩
      | succ t it =>
        intro g c
        rw [bkL_s]
        have cg : ∀ (d : Nat → Nat), (∀ i, i < k → d i = c i) → ((∃ r, g + 1 ≤ r ∧ r < g + 1 + t ∧ fit k d r = true ∧ cmpC m fit (k + 1) j (z_up d k r)) ↔ ∃ r, g + 1 ≤ r ∧ r < g + 1 + t ∧ fit k c r = true ∧ cmpC m fit (k + 1) j (z_up c k r)) := by
          intro d hd
          have e : ∀ r, (∀ i, i < k + 1 → z_up d k r i = z_up c k r i) := fun r i hi => by
            by_cases q : i = k
            · subst q; rw [zup_eq, zup_eq]
            · rw [zup_ne _ _ q, zup_ne _ _ q]; exact hd i (by omega)
          constructor
          · rintro ⟨r, a1, a2, a3, a4⟩
            exact ⟨r, a1, a2, by rw [← hf k d c r hd]; exact a3, cmp_cg (e r) a4⟩
          · rintro ⟨r, a1, a2, a3, a4⟩
            exact ⟨r, a1, a2, by rw [hf k d c r hd]; exact a3, cmp_cg (fun i hi => (e r i hi).symm) a4⟩
        by_cases c1 : fit k c g = true
        · rw [if_pos c1]
          by_cases c2 : (bkF m fit j (k + 1) (z_up c k g)).1 = true
          · rw [if_pos c2]
            exact ⟨fun _ => ⟨g, Nat.le_refl _, by omega, c1, (ih _ _).mp c2⟩, fun _ => c2⟩
          · rw [if_neg c2, it, cg _ (fun i hi => (hk _ i (by omega)).trans (zup_ne _ _ (by omega)))]
            constructor
            · rintro ⟨r, a1, a2, a3, a4⟩
              exact ⟨r, by omega, by omega, a3, a4⟩
            · rintro ⟨r, a1, a2, a3, a4⟩
              by_cases q : r = g
              · subst q; exact absurd ((ih _ _).mpr a4) c2
              · exact ⟨r, by omega, by omega, a3, a4⟩
        · rw [if_neg c1, it, cg _ (fun i hi => zup_ne _ _ (by omega))]
          constructor
          · rintro ⟨r, a1, a2, a3, a4⟩
            exact ⟨r, by omega, by omega, a3, a4⟩
          · rintro ⟨r, a1, a2, a3, a4⟩
            by_cases q : r = g
            · subst q; exact absurd a3 c1
            · exact ⟨r, by omega, by omega, a3, a4⟩
    show (bkL (fit k) (bkF m fit j (k + 1)) k m 0 c).1 = true ↔ _
    rw [loop]
    constructor
    · rintro ⟨r, -, a2, a3, c', b1, b2⟩
      refine ⟨c', fun i hi => (b1 i (by omega)).trans (zup_ne _ _ (by omega)), fun i h1 h2 => ?_⟩
      by_cases q : i = k
      · subst q
        have e : c' i = r := (b1 i (by omega)).trans (zup_eq _ _ _)
        rw [e]
        refine ⟨by omega, ?_⟩
        rw [hf i c' c r (fun x hx => (b1 x (by omega)).trans (zup_ne _ _ (by omega)))]
        exact a3
      · exact b2 i (by omega) (by omega)
    · rintro ⟨c', b1, b2⟩
      obtain ⟨d1, d2⟩ := b2 k (Nat.le_refl _) (by omega)
      refine ⟨c' k, Nat.zero_le _, by omega, ?_, c', fun i hi => ?_, fun i h1 h2 => b2 i (by omega) (by omega)⟩
      · rw [hf k c c' _ (fun x hx => (b1 x hx).symm)]; exact d2
      · by_cases q : i = k
        · subst q; rw [zup_eq]
        · rw [zup_ne _ _ q]; exact b1 i (by omega)
end N47
theorem rm_iff {now : Nat → Int32} {g : Nat} {c : Nat → Nat} {r : Nat} : rmB now g c r = true ↔ ∀ b, b < g → c b = r → metB now b g = false := by
  unfold rmB
  have key : ∀ k, itr (rfF now c g r) true k = true ↔ ∀ b, b < k → c b = r → metB now b g = false := by
    intro k
    induction k with
    | zero => exact ⟨fun _ b h => absurd h (Nat.not_lt_zero _), fun _ => rfl⟩
    | succ k ih =>
      rw [itr_s]
      show (itr (rfF now c g r) true k && (decide (c k ≠ r) || !metB now k g)) = true ↔ _
      rw [Bool.and_eq_true, ih, Bool.or_eq_true, decide_eq_true_eq, Bool.not_eq_true']
      constructor
      · rintro ⟨h1, h2⟩ b hb hc
        by_cases q : b = k
        · subst q
          rcases h2 with h2 | h2
          · exact absurd hc h2
          · exact h2
        · exact h1 b (by omega) hc
      · intro h
        refine ⟨fun b hb => h b (by omega), ?_⟩
        by_cases q : c k = r
        · exact Or.inr (h k (by omega) q)
        · exact Or.inl q
  exact key g
theorem rm_cg {now : Nat → Int32} {k : Nat} {c c' : Nat → Nat} {r : Nat} (h : ∀ i, i < k → c i = c' i) : rmB now k c r = rmB now k c' r := by
  rw [Bool.eq_iff_iff, rm_iff, rm_iff]
  exact ⟨fun a b hb hc => a b hb ((h b hb).trans hc), fun a b hb hc => a b hb ((h b hb).symm.trans hc)⟩
theorem okF_al {p : Nat → Bool} : ∀ j i, okF p i j = true ↔ ∀ b, i ≤ b → b < i + j → p b = false := by
  intro j
  induction j with
  | zero => intro i; exact ⟨fun _ b h1 h2 => absurd h2 (by omega), fun _ => rfl⟩
  | succ j ih =>
    intro i
    rw [okF_s]
    by_cases c : p i = true
    · rw [if_pos c]
      exact ⟨fun h => absurd h Bool.false_ne_true, fun h => by have := h i (Nat.le_refl _) (by omega); rw [this] at c; exact absurd c (by decide)⟩
    · have c' : p i = false := by cases e : p i <;> simp_all
      rw [if_neg c, ih]
      constructor
      · intro h b h1 h2
        by_cases q : b = i
        · rw [q]; exact c'
        · exact h b (by omega) (by omega)
      · intro h b h1 h2
        exact h b (by omega) (by omega)
section N47b
variable {n : Nat} {rm mt nt : Nat → Nat} {fm : Bool} {now : Nat → Int32} {c0 : Nat → Nat}
theorem met_bit (hg : gdT n mt nt) (hR : nowR n rm mt nt fm now) {a b : Nat} (ha : a < n) (hb : b < n) : metB now a b = (mt a).testBit b := by
  unfold metB
  by_cases c : a = b
  · subst c
    rw [(hg.2.2.2.1 a ha).1]
    simp
  · rw [decide_eq_true c, Bool.true_and, hR.1 a b ha hb c]
    unfold abt
    cases e1 : (mt a).testBit b
    · cases e2 : (nt a).testBit b <;> decide
    · rw [if_pos rfl]; decide
theorem fr_eq (hg : gdT n mt nt) (hR : nowR n rm mt nt fm now) {g : Nat} (hgn : g < n) {tu : Nat → Int32} {c : Nat → Nat} {r : Nat} (hr : r < 7) (hc : ∀ i, i < g → tu i = nI (c i) ∧ c i < 7) : okF (frB tu mt g (nI r)) 0 g = rmB now g c r := by
  rw [Bool.eq_iff_iff, okF_al, rm_iff]
  have e : ∀ b, b < g → (frB tu mt g (nI r) b = true ↔ c b = r ∧ metB now b g = true) := by
    intro b hb
    unfold frB
    obtain ⟨h1, h2⟩ := hc b hb
    rw [Bool.and_eq_true, decide_eq_true_eq, h1, nI_eqI (by omega) (by omega), met_bit hg hR (show b < n by omega) hgn, (hg.2.2.1 b g (by omega) hgn).1]
  constructor
  · intro h b hb hcb
    cases e2 : metB now b g
    · rfl
    · have := (e b hb).mpr ⟨hcb, e2⟩
      rw [h b (Nat.zero_le _) (by omega)] at this
      exact absurd this (by decide)
  · intro h b _ hb
    have hb : b < g := by omega
    cases e2 : frB tu mt g (nI r) b
    · rfl
    · obtain ⟨w1, w2⟩ := (e b hb).mp e2
      rw [h b hb w1] at w2
      exact absurd w2 (by decide)
/-- two rooms change their names -/
def swN (a b x : Nat) : Nat := if x = a then b else if x = b then a else x
theorem swN_inj {a b x y : Nat} (h : swN a b x = swN a b y) : x = y := by
  unfold swN at h
  split at h <;> split at h <;> (try split at h) <;> (try split at h) <;> omega
theorem rm_swap {en g us r : Nat} {c : Nat → Nat} {j : Nat} (hu : us < r) (hr : r < en) (hc : ∀ i, i < g → c i < us) (h1 : rmB now g c r = true) (h : cmpC en (rmB now) (g + 1) j (z_up c g r)) : rmB now g c us = true ∧ cmpC en (rmB now) (g + 1) j (z_up c g us) := by
  refine ⟨rm_iff.mpr (fun b hb e => absurd e (by have := hc b hb; omega)), ?_⟩
  obtain ⟨c', h2, h3⟩ := h
  refine ⟨fun i => swN us r (c' i), fun i hi => ?_, fun i hi1 hi2 => ?_⟩
  · show swN us r (c' i) = _
    rw [h2 i hi]
    by_cases q : i = g
    · subst q
      rw [zup_eq, zup_eq]
      unfold swN
      rw [if_neg (by omega), if_pos rfl]
    · rw [zup_ne _ _ q, zup_ne _ _ q]
      have := hc i (by omega)
      unfold swN
      rw [if_neg (by omega), if_neg (by omega)]
  · obtain ⟨w1, w2⟩ := h3 i hi1 hi2
    refine ⟨?_, ?_⟩
    · show swN us r (c' i) < en
      unfold swN
      split
      · exact hr
      · split
        · omega
        · exact w1
    · rw [rm_iff] at w2 ⊢
      intro b hb e
      exact w2 b hb (swN_inj e)
theorem lodge_eq (hg : gdT n mt nt) (hR : nowR n rm mt nt fm now) {en : Nat} (hen : en ≤ 7) : ∀ f g us (tu : Nat → Int32) (c : Nat → Nat), g + f = n → us ≤ en → (∀ i, i < g → tu i = nI (c i) ∧ c i < us) → (clV mt en f g us tu).1 = (bkF en (rmB now) f g c).1 ∧ (∀ i, i < g → (clV mt en f g us tu).2 i = tu i) ∧ ((bkF en (rmB now) f g c).1 = true → ∀ i, i < n → (clV mt en f g us tu).2 i = nI ((bkF en (rmB now) f g c).2 i) ∧ (bkF en (rmB now) f g c).2 i < en) := by
  intro f
  induction f with
  | zero =>
    intro g us tu c hgf hus hc
    exact ⟨rfl, fun _ _ => rfl, fun _ i hi => ⟨(hc i (by omega)).1, Nat.lt_of_lt_of_le (hc i (by omega)).2 hus⟩⟩
  | succ f ih =>
    intro g us tu c hgf hus hc
    have hgn : g < n := by omega
    have hfit : ∀ k (c c' : Nat → Nat) r, (∀ i, i < k → c i = c' i) → rmB now k c r = rmB now k c' r := fun k c c' r h => rm_cg h
    -- the loop over rooms
    have loop : ∀ K, K = (if us + 1 < en then us + 1 else en) → ∀ j r (tu : Nat → Int32) (c : Nat → Nat), r + j = K → (∀ i, i < g → tu i = nI (c i) ∧ c i < us) → (∀ r', r' < r → ¬ (rmB now g c r' = true ∧ cmpC en (rmB now) (g + 1) f (z_up c g r'))) → (clL (fun us tu => clV mt en f (g + 1) us tu) (fun tu r => okF (frB tu mt g (nI r)) 0 g) g us r j tu).1 = (bkL (rmB now g) (bkF en (rmB now) f (g + 1)) g (j + (en - K)) r c).1 ∧ (∀ i, i < g → (clL (fun us tu => clV mt en f (g + 1) us tu) (fun tu r => okF (frB tu mt g (nI r)) 0 g) g us r j tu).2 i = tu i) ∧ ((bkL (rmB now g) (bkF en (rmB now) f (g + 1)) g (j + (en - K)) r c).1 = true → ∀ i, i < n → (clL (fun us tu => clV mt en f (g + 1) us tu) (fun tu r => okF (frB tu mt g (nI r)) 0 g) g us r j tu).2 i = nI ((bkL (rmB now g) (bkF en (rmB now) f (g + 1)) g (j + (en - K)) r c).2 i) ∧ (bkL (rmB now g) (bkF en (rmB now) f (g + 1)) g (j + (en - K)) r c).2 i < en) := by
      intro K eK j
      have hK1 : K ≤ en ∧ K ≤ us + 1 := by rw [eK]; split <;> omega
      have hK2 : K = en ∨ K = us + 1 := by rw [eK]; split <;> omega
      induction j with
      | zero =>
        intro r tu c hrj hc hno
        have hf' : (bkL (rmB now g) (bkF en (rmB now) f (g + 1)) g (0 + (en - K)) r c).1 = false := by
          cases e : (bkL (rmB now g) (bkF en (rmB now) f (g + 1)) g (0 + (en - K)) r c).1
          · rfl
          · exfalso
            have hl : ∀ t g0 c, (bkL (rmB now g) (bkF en (rmB now) f (g + 1)) g t g0 c).1 = true → ∃ r, g0 ≤ r ∧ r < g0 + t ∧ rmB now g c r = true ∧ cmpC en (rmB now) (g + 1) f (z_up c g r) := by
              intro t
              induction t with
              | zero => intro g0 c h; exact absurd h Bool.false_ne_true
              | succ t it =>
                intro g0 c h
                rw [bkL_s] at h
                have tr : ∀ (d : Nat → Nat), (∀ i, i < g → d i = c i) → (∃ r, g0 + 1 ≤ r ∧ r < g0 + 1 + t ∧ rmB now g d r = true ∧ cmpC en (rmB now) (g + 1) f (z_up d g r)) → ∃ r, g0 ≤ r ∧ r < g0 + (t + 1) ∧ rmB now g c r = true ∧ cmpC en (rmB now) (g + 1) f (z_up c g r) := by
                  rintro d hd ⟨r, a1, a2, a3, a4⟩
                  refine ⟨r, by omega, by omega, by rw [← rm_cg hd]; exact a3, cmp_cg (fun i hi => ?_) a4⟩
                  by_cases q : i = g
                  · subst q; rw [zup_eq, zup_eq]
                  · rw [zup_ne _ _ q, zup_ne _ _ q]; exact hd i (by omega)
                split at h
                · rename_i c1
                  split at h
                  · rename_i c2
                    exact ⟨g0, Nat.le_refl _, by omega, c1, (bkF_iff hfit f (g + 1) _).mp c2⟩
                  · exact tr _ (fun i hi => (bkF_keep f (g + 1) _ i (by omega)).trans (zup_ne _ _ (by omega))) (it _ _ h)
                · exact tr _ (fun i hi => zup_ne _ _ (by omega)) (it _ _ h)
            obtain ⟨r2, a1, a2, a3, a4⟩ := hl _ _ _ e
            rcases hK2 with q | q
            · omega
            · exact hno us (by omega) (rm_swap (by omega) (by omega) (fun i hi => (hc i hi).2) a3 a4)
        rw [hf']
        exact ⟨rfl, fun _ _ => rfl, fun h => absurd h Bool.false_ne_true⟩
      | succ j ij =>
        intro r tu c hrj hc hno
        rw [clL_s, show j + 1 + (en - K) = j + (en - K) + 1 by omega, bkL_s]
        have ef : okF (frB tu mt g (nI r)) 0 g = rmB now g c r := fr_eq hg hR hgn (by omega) (fun i hi => ⟨(hc i hi).1, by have := (hc i hi).2; omega⟩)
        rw [ef]
        by_cases c1 : rmB now g c r = true
        · rw [if_pos c1, if_pos c1]
          have hpre : ∀ i, i < g + 1 → upd tu g (nI r) i = nI (z_up c g r i) ∧ z_up c g r i < (if us < r + 1 then r + 1 else us) := by
            intro i hi
            by_cases q : i = g
            · subst q
              rw [upd_s, zup_eq]
              exact ⟨rfl, by split <;> omega⟩
            · rw [upd_o _ _ q, zup_ne _ _ q]
              have := hc i (by omega)
              exact ⟨this.1, by split <;> omega⟩
          obtain ⟨i1, i2, i3⟩ := ih (g + 1) (if us < r + 1 then r + 1 else us) (upd tu g (nI r)) (z_up c g r) (by omega) (by split <;> omega) hpre
          rw [i1]
          by_cases c2 : (bkF en (rmB now) f (g + 1) (z_up c g r)).1 = true
          · rw [if_pos c2, if_pos c2]
            exact ⟨c2.symm, fun i hi => (i2 i (by omega)).trans (upd_o _ _ (by omega)), fun _ i hi => i3 c2 i hi⟩
          · rw [if_neg c2, if_neg c2]
            have kp : ∀ i, i < g → (bkF en (rmB now) f (g + 1) (z_up c g r)).2 i = c i := fun i hi => (bkF_keep f (g + 1) _ i (by omega)).trans (zup_ne _ _ (by omega))
            have kq : ∀ i, i < g → (clV mt en f (g + 1) (if us < r + 1 then r + 1 else us) (upd tu g (nI r))).2 i = tu i := fun i hi => (i2 i (by omega)).trans (upd_o _ _ (by omega))
            obtain ⟨w1, w2, w3⟩ := ij (r + 1) (clV mt en f (g + 1) (if us < r + 1 then r + 1 else us) (upd tu g (nI r))).2 (bkF en (rmB now) f (g + 1) (z_up c g r)).2 (by omega) (fun i hi => by rw [kp i hi, kq i hi]; exact hc i hi) (fun r' hr' => by
              rintro ⟨z1, z2⟩
              rw [rm_cg kp] at z1
              have z3 : cmpC en (rmB now) (g + 1) f (z_up c g r') := cmp_cg (fun i hi => by
                by_cases q : i = g
                · subst q; rw [zup_eq, zup_eq]
                · rw [zup_ne _ _ q, zup_ne _ _ q]; exact kp i (by omega)) z2
              by_cases q : r' = r
              · subst q; exact c2 ((bkF_iff hfit f (g + 1) _).mpr z3)
              · exact hno r' (by omega) ⟨z1, z3⟩)
            exact ⟨w1, fun i hi => (w2 i hi).trans (kq i hi), w3⟩
        · rw [if_neg c1, if_neg c1]
          have kp : ∀ i, i < g → z_up c g r i = c i := fun i hi => zup_ne _ _ (by omega)
          obtain ⟨w1, w2, w3⟩ := ij (r + 1) tu (z_up c g r) (by omega) (fun i hi => by rw [kp i hi]; exact hc i hi) (fun r' hr' => by
            rintro ⟨z1, z2⟩
            rw [rm_cg kp] at z1
            have z3 : cmpC en (rmB now) (g + 1) f (z_up c g r') := cmp_cg (fun i hi => by
              by_cases q : i = g
              · subst q; rw [zup_eq, zup_eq]
              · rw [zup_ne _ r' q, zup_ne _ r' q]; exact kp i (by omega)) z2
            by_cases q : r' = r
            · subst q; exact c1 z1
            · exact hno r' (by omega) ⟨z1, z3⟩)
          exact ⟨w1, w2, w3⟩
    have hK1 : (if us + 1 < en then us + 1 else en) ≤ en := by split <;> omega
    have := loop _ rfl (if us + 1 < en then us + 1 else en) 0 tu c (by omega) hc (fun r' h => absurd h (Nat.not_lt_zero _))
    rw [show (if us + 1 < en then us + 1 else en) + (en - (if us + 1 < en then us + 1 else en)) = en by omega] at this
    exact this
theorem room_n : cmpC n (rmB now) 0 n c0 := ⟨fun i => i, fun i hi => absurd hi (Nat.not_lt_zero _), fun i _ hi => ⟨by show i < n; omega, rm_iff.mpr (fun b hb e => absurd (show b = i from e) (by omega))⟩⟩
theorem rms_s (j many : Nat) (c : Nat → Nat) : rmsV now n (j + 1) many c = if (bkF many (rmB now) n 0 c).1 = true then (many, (bkF many (rmB now) n 0 c).2) else rmsV now n j (many + 1) (bkF many (rmB now) n 0 c).2 := rfl
theorem rooms_eq (hg : gdT n mt nt) (hR : nowR n rm mt nt fm now) (tu : Nat → Int32) (c : Nat → Nat) : (fwV mt n tu).1 = (rmsV now n 7 0 c).1 ∧ (∀ i, i < n → (fwV mt n tu).2 i = nI ((rmsV now n 7 0 c).2 i) ∧ (rmsV now n 7 0 c).2 i < 7) ∧ rmG now n 7 0 c ∧ (rmsV now n 7 0 c).1 ≤ 7 := by
  have hn := hg.1
  have hfit : ∀ k (c c' : Nat → Nat) r, (∀ i, i < k → c i = c' i) → rmB now k c r = rmB now k c' r := fun k c c' r h => rm_cg h
  have lo : ∀ en, en ≤ n → ∀ (tu : Nat → Int32) (c : Nat → Nat), (clV mt en n 0 0 tu).1 = (bkF en (rmB now) n 0 c).1 ∧ ((bkF en (rmB now) n 0 c).1 = true → ∀ i, i < n → (clV mt en n 0 0 tu).2 i = nI ((bkF en (rmB now) n 0 c).2 i) ∧ (bkF en (rmB now) n 0 c).2 i < en) := fun en he tu c => by
    obtain ⟨a1, a2, a3⟩ := lodge_eq hg hR (en := en) (by omega) n 0 0 tu c (Nat.zero_add _) (Nat.zero_le _) (fun i hi => absurd hi (Nat.not_lt_zero _))
    exact ⟨a1, a3⟩
  have okn : ∀ c, (bkF n (rmB now) n 0 c).1 = true := fun c => (bkF_iff hfit n 0 c).mpr room_n
  have key : ∀ j e (tu : Nat → Int32) (c : Nat → Nat), e + j = n → (if (fwR mt n e j tu).1 = n then (n, (clV mt n n 0 0 (fwR mt n e j tu).2).2) else fwR mt n e j tu).1 = (rmsV now n (j + (7 - n)) e c).1 ∧ (∀ i, i < n → (if (fwR mt n e j tu).1 = n then (n, (clV mt n n 0 0 (fwR mt n e j tu).2).2) else fwR mt n e j tu).2 i = nI ((rmsV now n (j + (7 - n)) e c).2 i) ∧ (rmsV now n (j + (7 - n)) e c).2 i < 7) ∧ rmG now n (j + (7 - n)) e c ∧ (rmsV now n (j + (7 - n)) e c).1 ≤ 7 := by
    intro j
    induction j with
    | zero =>
      intro e tu c he
      have en : e = n := by omega
      subst en
      have a := lo e (Nat.le_refl _) tu c
      have e1 : rmsV now e (0 + (7 - e)) e c = (e, (bkF e (rmB now) e 0 c).2) := by
        cases 0 + (7 - e) with
        | zero => rfl
        | succ j => rw [rms_s, if_pos (okn c)]
      have e2 : rmG now e (0 + (7 - e)) e c := by
        cases 0 + (7 - e) with
        | zero => exact okn c
        | succ j => exact Or.inl (okn c)
      rw [e1]
      have e0 : fwR mt e e 0 tu = (e, tu) := rfl
      rw [e0, if_pos rfl]
      exact ⟨rfl, fun i hi => ⟨(a.2 (okn c) i hi).1, by have := (a.2 (okn c) i hi).2; show (bkF e (rmB now) e 0 c).2 i < 7; omega⟩, e2, hn⟩
    | succ j ih =>
      intro e tu c he
      obtain ⟨a1, a2⟩ := lo e (by omega) tu c
      rw [show j + 1 + (7 - n) = j + (7 - n) + 1 by omega, rms_s, fwR_s, a1]
      by_cases c1 : (bkF e (rmB now) n 0 c).1 = true
      · rw [if_pos c1, if_pos c1, if_neg (show ¬ e = n by omega)]
        exact ⟨rfl, fun i hi => ⟨(a2 c1 i hi).1, by have := (a2 c1 i hi).2; show (bkF e (rmB now) n 0 c).2 i < 7; omega⟩, Or.inl c1, by show e ≤ 7; omega⟩
      · rw [if_neg c1, if_neg c1]
        obtain ⟨b1, b2, b3, b4⟩ := ih (e + 1) (clV mt e n 0 0 tu).2 (bkF e (rmB now) n 0 c).2 (by omega)
        exact ⟨b1, b2, Or.inr b3, b4⟩
  have := key n 0 tu c (Nat.zero_add _)
  rw [show n + (7 - n) = 7 by omega] at this
  exact this
end N47b
theorem row_fill {f : Nat → Int64} {g : Nat → Int64} : ∀ k i, i < k → itr (fun i g => vp_updL g i (f i)) g k i = f i := by
  intro k
  induction k with
  | zero => exact fun i h => absurd h (Nat.not_lt_zero _)
  | succ k ih =>
    intro i hi
    rw [itr_s]
    show vp_updL (itr (fun i g => vp_updL g i (f i)) g k) k (f k) i = f i
    rw [updL_z]
    by_cases c : i = k
    · subst c; rw [zup_eq]
    · rw [zup_ne _ _ c]; exact ih i (by omega)

