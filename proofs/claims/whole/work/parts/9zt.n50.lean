/-! rings: the class's sets and the model's turns -/
theorem low_in : ∀ x, x < 128 → lowB x < 7 → x.testBit (lowB x) = true ∧ ∀ j, j < lowB x → x.testBit j = false := by decide +kernel
theorem pop_2 : ∀ a, a < 7 → ∀ b, b < 7 → a ≠ b → pop (2 ^ a ||| 2 ^ b) = 2 := by decide +kernel
theorem pop_up : ∀ x, x < 128 → ∀ b, b < 7 → x.testBit b = false → pop (x ||| 2 ^ b) = pop x + 1 := by decide +kernel
theorem pop_ex2 : ∀ x, x < 128 → pop x = 2 → ∀ a, a < 7 → ∃ y, y < 7 ∧ y ≠ a ∧ x.testBit y = true := by decide +kernel
/-- the set of the first k -/
def stC (c : Nat → Nat) (k : Nat) : Nat := itr (fun i r => r ||| 2 ^ c i) 0 k
theorem st_bit {c : Nat → Nat} : ∀ k b, (stC c k).testBit b = true ↔ ∃ i, i < k ∧ c i = b := by
  intro k
  induction k with
  | zero => intro b; exact ⟨fun h => absurd h (by show ¬ (0 : Nat).testBit b = true; rw [Nat.zero_testBit]; decide), fun ⟨i, h, _⟩ => absurd h (Nat.not_lt_zero _)⟩
  | succ k ih =>
    intro b
    show (stC c k ||| 2 ^ c k).testBit b = true ↔ _
    rw [Nat.testBit_or, Bool.or_eq_true, ih, Nat.testBit_two_pow, decide_eq_true_eq]
    constructor
    · rintro (⟨i, h1, h2⟩ | h)
      · exact ⟨i, by omega, h2⟩
      · exact ⟨k, by omega, h⟩
    · rintro ⟨i, h1, h2⟩
      by_cases e : i = k
      · subst e; exact Or.inr h2
      · exact Or.inl ⟨i, by omega, h2⟩
theorem st_lt {c : Nat → Nat} {n : Nat} : ∀ k, (∀ i, i < k → c i < n) → stC c k < 2 ^ n := by
  intro k h
  apply Nat.lt_pow_two_of_testBit
  intro b hb
  cases e : (stC c k).testBit b
  · rfl
  · obtain ⟨i, h1, h2⟩ := (st_bit k b).mp e
    have := h i h1
    omega
theorem st_pop {c : Nat → Nat} {n : Nat} (hn : n ≤ 7) : ∀ k, (∀ i, i < k → c i < n) → (∀ i j, i < k → j < i → c j ≠ c i) → pop (stC c k) = k := by
  intro k
  induction k with
  | zero => exact fun _ _ => (by decide : pop 0 = 0)
  | succ k ih =>
    intro h1 h2
    have l := st_lt (c := c) k (fun i hi => h1 i (by omega))
    have h7 := two7 hn
    show pop (stC c k ||| 2 ^ c k) = k + 1
    rw [pop_up _ (by omega) _ (by have := h1 k (by omega); omega), ih (fun i hi => h1 i (by omega)) (fun i j hi hj => h2 i j (by omega) hj)]
    cases e : (stC c k).testBit (c k)
    · rfl
    · obtain ⟨i, e1, e2⟩ := (st_bit k _).mp e
      exact absurd e2 (h2 k i (by omega) e1)
section N50
variable {n m : Nat} {rm mt nt : Nat → Nat} {fm : Bool} {now : Nat → Int32} {c : Nat → Nat}
theorem not_bit (hg : gdT n mt nt) (hR : nowR n rm mt nt fm now) {a b : Nat} (ha : a < n) (hb : b < n) : notB now a b = (nt a).testBit b := by
  unfold notB
  by_cases c : a = b
  · subst c
    rw [(hg.2.2.2.1 a ha).2]
    simp
  · rw [decide_eq_true c, Bool.true_and, hR.1 a b ha hb c]
    unfold abt
    cases e1 : (mt a).testBit b
    · cases e2 : (nt a).testBit b <;> decide
    · have e2 : (nt a).testBit b = false := by
        cases e : (nt a).testBit b
        · rfl
        · exact absurd ⟨e1, e⟩ (hg.2.2.2.2 a b ha)
      rw [if_pos rfl, e2]; decide
/-- a turn that is a ring -/
def rgT (mt nt : Nat → Nat) (n m : Nat) (c : Nat → Nat) : Prop := c 0 < n ∧ ∀ k, 1 ≤ k → k < m → c k < n ∧ (mt (c (k - 1))).testBit (c k) = true ∧ c 0 < c k ∧ ∀ j, j < k - 1 → (if j = 0 ∧ k = m - 1 then (mt (c 0)).testBit (c k) = true ∧ c 1 < c k else (nt (c j)).testBit (c k) = true)
theorem rg_fit (hg : gdT n mt nt) (hR : nowR n rm mt nt fm now) (hm : 4 ≤ m) : okC n (mrgB now m) 0 m c ↔ rgT mt nt n m c := by
  have loop : ∀ k g b0, (∀ j, j ≤ k → c j < n) → g < n → ∀ i, i ≤ k → (itr (frF now c m k g) b0 i = true ↔ b0 = true ∧ ∀ j, j < i → (if j = 0 ∧ k = m - 1 then (mt (c 0)).testBit g = true ∧ c 1 < g else (nt (c j)).testBit g = true)) := by
    intro k g b0 hc hgn i
    induction i with
    | zero => intro _; exact ⟨fun h => ⟨h, fun j h => absurd h (Nat.not_lt_zero _)⟩, fun h => h.1⟩
    | succ i ih =>
      intro hi
      rw [itr_s]
      show (itr (frF now c m k g) b0 i && (if i = 0 ∧ k = m - 1 then metB now (c i) g && decide (c 1 < g) else notB now (c i) g)) = true ↔ _
      rw [Bool.and_eq_true, ih (by omega)]
      have e : ((if i = 0 ∧ k = m - 1 then metB now (c i) g && decide (c 1 < g) else notB now (c i) g) = true) ↔ (if i = 0 ∧ k = m - 1 then (mt (c 0)).testBit g = true ∧ c 1 < g else (nt (c i)).testBit g = true) := by
        by_cases q : i = 0 ∧ k = m - 1
        · rw [if_pos q, if_pos q, Bool.and_eq_true, decide_eq_true_eq, met_bit hg hR (hc i (by omega)) hgn, q.1]
        · rw [if_neg q, if_neg q, not_bit hg hR (hc i (by omega)) hgn]
      rw [e]
      constructor
      · rintro ⟨⟨h1, h2⟩, h3⟩
        refine ⟨h1, fun j hj => ?_⟩
        by_cases q : j = i
        · rw [q]; exact h3
        · exact h2 j (by omega)
      · rintro ⟨h1, h2⟩
        exact ⟨⟨h1, fun j hj => h2 j (by omega)⟩, h2 i (by omega)⟩
  have fit : ∀ k, 1 ≤ k → (∀ j, j ≤ k → c j < n) → (mrgB now m k c (c k) = true ↔ (mt (c (k - 1))).testBit (c k) = true ∧ c 0 < c k ∧ ∀ j, j < k - 1 → (if j = 0 ∧ k = m - 1 then (mt (c 0)).testBit (c k) = true ∧ c 1 < c k else (nt (c j)).testBit (c k) = true)) := by
    intro k hk hc
    unfold mrgB frgB
    rw [if_neg (by omega), loop k (c k) _ hc (hc k (Nat.le_refl _)) (k - 1) (by omega), Bool.and_eq_true, decide_eq_true_eq, met_bit hg hR (hc (k - 1) (by omega)) (hc k (Nat.le_refl _))]
    exact ⟨fun z => ⟨z.1.1, z.1.2, z.2⟩, fun z => ⟨⟨z.1, z.2.1⟩, z.2.2⟩⟩
  constructor
  · intro h
    have hc : ∀ j, j < m → c j < n := fun j hj => (h j (Nat.zero_le _) (by omega)).1
    refine ⟨hc 0 (by omega), fun k h1 h2 => ?_⟩
    have := (fit k h1 (fun j hj => hc j (by omega))).mp (h k (Nat.zero_le _) (by omega)).2
    exact ⟨hc k h2, this⟩
  · intro h k _ hk
    have hc : ∀ j, j < m → c j < n := fun j hj => by
      by_cases q : j = 0
      · rw [q]; exact h.1
      · exact (h.2 j (by omega) hj).1
    refine ⟨hc k (by omega), ?_⟩
    by_cases q : k = 0
    · unfold mrgB; rw [if_pos q]
    · exact (fit k (by omega) (fun j hj => hc j (by omega))).mpr (h.2 k (by omega) (by omega)).2
/-- who is left on the walk -/
theorem wkl_bit {x : Nat} (hx : x < 128) : ∀ i, (∀ t, t < i → wkc mt x t < 7) → (wkl mt x i).1 < 128 ∧ ∀ b, (wkl mt x i).1.testBit b = true ↔ x.testBit b = true ∧ ∀ t, t < i → wkc mt x t ≠ b := by
  intro i
  induction i with
  | zero => exact fun _ => ⟨hx, fun b => ⟨fun h => ⟨h, fun t h => absurd h (Nat.not_lt_zero _)⟩, fun h => h.1⟩⟩
  | succ i ih =>
    intro h
    obtain ⟨l, ih⟩ := ih (fun t ht => h t (by omega))
    have hi := h i (by omega)
    refine ⟨q_and_lt l, fun b => ?_⟩
    show ((wkl mt x i).1 &&& (127 - 2 ^ wkc mt x i)).testBit b = true ↔ _
    rw [and_bit, ih, cpl_bit (q_pow_lt hi), Nat.testBit_two_pow]
    constructor
    · rintro ⟨⟨h1, h2⟩, h3⟩
      refine ⟨h1, fun t ht => ?_⟩
      by_cases e : t = i
      · subst e
        rintro rfl
        simp at h3
      · exact h2 t (by omega)
    · rintro ⟨h1, h2⟩
      refine ⟨⟨h1, fun t ht => h2 t (by omega)⟩, ?_⟩
      have hb : b < 7 := by
        rcases Nat.lt_or_ge b 7 with q | q
        · exact q
        · rw [bit_out hx q] at h1; exact absurd h1 (by decide)
      have := h2 i (by omega)
      simp [hb, this]
/-- a ring's turn: its neighbours -/
theorem rg_inj (hg : gdT n mt nt) (h : rgT mt nt n m c) (hm : 4 ≤ m) : (∀ j, j < m → c j < n) ∧ ∀ i j, i < m → j < i → c j ≠ c i := by
  have hc : ∀ j, j < m → c j < n := fun j hj => by
    by_cases q : j = 0
    · rw [q]; exact h.1
    · exact (h.2 j (by omega) hj).1
  refine ⟨hc, fun i j hi hj e => ?_⟩
  obtain ⟨-, a2, a3, a4⟩ := h.2 i (by omega) hi
  by_cases q : j = i - 1
  · subst q
    rw [e, (hg.2.2.2.1 (c i) (hc i hi)).1] at a2
    exact absurd a2 (by decide)
  · by_cases q0 : j = 0
    · rw [q0] at e; omega
    · have := a4 j (by omega)
      rw [if_neg (fun z => q0 z.1), e, (hg.2.2.2.1 (c i) (hc i hi)).2] at this
      exact absurd this (by decide)
theorem rg_adj (hg : gdT n mt nt) (h : rgT mt nt n m c) (hm : 4 ≤ m) {k s : Nat} (hk : k < m) (hs : s < m) (hks : k < s) : ((mt (c k)).testBit (c s) = true ↔ s = k + 1 ∨ (k = 0 ∧ s = m - 1)) ∧ (¬ (s = k + 1 ∨ (k = 0 ∧ s = m - 1)) → (nt (c k)).testBit (c s) = true) := by
  obtain ⟨hc, -⟩ := rg_inj hg h hm
  obtain ⟨-, a2, a3, a4⟩ := h.2 s (by omega) hs
  by_cases q : s = k + 1
  · subst q
    rw [Nat.add_sub_cancel] at a2
    exact ⟨⟨fun _ => Or.inl rfl, fun _ => a2⟩, fun z => absurd (Or.inl rfl) z⟩
  · have a5 := a4 k (by omega)
    by_cases q2 : k = 0 ∧ s = m - 1
    · rw [if_pos q2] at a5
      obtain ⟨q3, q4⟩ := q2
      subst q3
      exact ⟨⟨fun _ => Or.inr ⟨rfl, q4⟩, fun _ => a5.1⟩, fun z => absurd (Or.inr ⟨rfl, q4⟩) z⟩
    · rw [if_neg q2] at a5
      refine ⟨⟨fun z => absurd ⟨z, a5⟩ (hg.2.2.2.2 (c k) (c s) (hc k hk)), fun z => ?_⟩, fun _ => a5⟩
      rcases z with z | z
      · exact absurd z q
      · exact absurd z q2
/-- every ring's turn is the walk round its set -/
theorem rg_ps (hg : gdT n mt nt) (h : rgT mt nt n m c) (hm : 4 ≤ m) : stC c m < 2 ^ n ∧ psR mt nt n m (stC c m) ∧ ∀ t, t < m → wkc mt (stC c m) t = c t := by
  have hn := hg.1
  have h7 := two7 hn
  obtain ⟨hc, hi⟩ := rg_inj hg h hm
  have hx := st_lt (c := c) m hc
  have walk : ∀ i, i ≤ m → ∀ t, t < i → wkc mt (stC c m) t = c t := by
    intro i
    induction i with
    | zero => exact fun _ t h => absurd h (Nat.not_lt_zero _)
    | succ i ih =>
      intro him t ht
      by_cases e : t = i
      · subst e
        have ih := ih (by omega)
        obtain ⟨l1, l2⟩ := wkl_bit (mt := mt) (x := stC c m) (by omega) t (fun s hs => by rw [ih s hs]; have := hc s (by omega); omega)
        refine lowB_eq _ (Nat.lt_of_le_of_lt Nat.and_le_right l1) _ (by have := hc t (by omega); omega) ?_ (fun j hj => ?_)
        · rw [and_bit, l2]
          refine ⟨?_, (st_bit m _).mpr ⟨t, by omega, rfl⟩, fun s hs => by rw [ih s hs]; exact hi t s (by omega) hs⟩
          cases t with
          | zero => exact (st_bit m _).mpr ⟨0, by omega, rfl⟩
          | succ t =>
            show (mt (wkc mt (stC c m) t)).testBit (c (t + 1)) = true
            rw [ih t (by omega)]
            exact ((rg_adj hg h hm (by omega) (by omega) (Nat.lt_succ_self t)).1).mpr (Or.inl rfl)
        · cases e2 : ((wkl mt (stC c m) t).2 &&& (wkl mt (stC c m) t).1).testBit j
          · rfl
          · exfalso
            rw [and_bit, l2] at e2
            obtain ⟨f1, f2, f3⟩ := e2
            obtain ⟨s, s1, s2⟩ := (st_bit m _).mp f2
            subst s2
            have st : t ≤ s := by
              rcases Nat.lt_or_ge s t with q | q
              · exact absurd (ih s q) (f3 s q)
              · exact q
            have sne : s ≠ t := fun z => by subst z; omega
            cases t with
            | zero => have := (h.2 s (by omega) s1).2.2.1; omega
            | succ t =>
              have f1 : (mt (wkc mt (stC c m) t)).testBit (c s) = true := f1
              rw [ih t (by omega)] at f1
              rcases ((rg_adj hg h hm (by omega) s1 (show t < s by omega)).1).mp f1 with q | ⟨q1, q2⟩
              · exact sne q
              · subst q1
                have a4 := (h.2 s (by omega) s1).2.2.2 0 (by omega)
                rw [if_pos ⟨rfl, q2⟩] at a4
                have := a4.2
                rw [show 0 + 1 = 1 from rfl] at hj
                omega
      · exact ih (by omega) t (by omega)
  have walk := walk m (Nat.le_refl _)
  have adj : ∀ k s, k < m → s < m → ((mt (c k)).testBit (c s) = true ↔ (s = k + 1 ∨ k = s + 1 ∨ (k = 0 ∧ s = m - 1) ∨ (s = 0 ∧ k = m - 1))) ∧ (k ≠ s → (mt (c k)).testBit (c s) = false → (nt (c k)).testBit (c s) = true) := by
    intro k s hk hs
    rcases Nat.lt_trichotomy k s with q | q | q
    · obtain ⟨b1, b2⟩ := rg_adj hg h hm hk hs q
      refine ⟨⟨fun z => ?_, fun z => b1.mpr (by omega)⟩, fun _ z => b2 (fun w => by rw [b1.mpr w] at z; exact absurd z (by decide))⟩
      have := b1.mp z
      omega
    · subst q
      rw [(hg.2.2.2.1 (c k) (hc k hk)).1]
      exact ⟨⟨fun z => absurd z (by decide), fun z => by omega⟩, fun z => absurd rfl z⟩
    · obtain ⟨b1, b2⟩ := rg_adj hg h hm hs hk q
      rw [(hg.2.2.1 (c k) (c s) (hc k hk) (hc s hs)).1, (hg.2.2.1 (c k) (c s) (hc k hk) (hc s hs)).2]
      refine ⟨⟨fun z => ?_, fun z => b1.mpr (by omega)⟩, fun _ z => b2 (fun w => by rw [b1.mpr w] at z; exact absurd z (by decide))⟩
      have := b1.mp z
      omega
  refine ⟨hx, ⟨st_pop hn m hc hi, ?_, fun t ht => by rw [walk t ht]; exact hc t ht⟩, walk⟩
  rw [okF_al]
  intro g _ _
  unfold rgB
  cases eg : (stC c m).testBit g
  · rfl
  · obtain ⟨k, k1, k2⟩ := (st_bit m _).mp eg
    subst k2
    obtain ⟨a, ha, b, hb, hab, hN⟩ : ∃ a, a < m ∧ ∃ b, b < m ∧ a ≠ b ∧ ∀ s, s < m → ((mt (c k)).testBit (c s) = true ↔ s = a ∨ s = b) := by
      by_cases q0 : k = 0
      · exact ⟨1, by omega, m - 1, by omega, by omega, fun s hs => by rw [(adj k s k1 hs).1]; omega⟩
      · by_cases q1 : k = m - 1
        · exact ⟨k - 1, by omega, 0, by omega, by omega, fun s hs => by rw [(adj k s k1 hs).1]; omega⟩
        · exact ⟨k - 1, by omega, k + 1, by omega, by omega, fun s hs => by rw [(adj k s k1 hs).1]; omega⟩
    have em : mt (c k) &&& stC c m = 2 ^ c a ||| 2 ^ c b := by
      apply Nat.eq_of_testBit_eq
      intro y
      rw [Bool.eq_iff_iff, and_bit, st_bit, Nat.testBit_or, Bool.or_eq_true, Nat.testBit_two_pow, Nat.testBit_two_pow, decide_eq_true_eq, decide_eq_true_eq]
      constructor
      · rintro ⟨z1, s, s1, rfl⟩
        rcases (hN s s1).mp z1 with e | e
        · rw [e]; exact Or.inl rfl
        · rw [e]; exact Or.inr rfl
      · rintro (e | e)
        · subst e; exact ⟨(hN a ha).mpr (Or.inl rfl), a, ha, rfl⟩
        · subst e; exact ⟨(hN b hb).mpr (Or.inr rfl), b, hb, rfl⟩
    have cab : c a ≠ c b := by
      rcases Nat.lt_or_ge a b with q | q
      · exact hi b a hb q
      · exact fun e => hi a b ha (by omega) e.symm
    have p2 : pop (mt (c k) &&& stC c m) = 2 := by
      rw [em]
      exact pop_2 _ (by have := hc a ha; omega) _ (by have := hc b hb; omega) cab
    have op : ((2 ^ n - 1) &&& (127 - (mt (c k) ||| nt (c k) ||| 2 ^ c k))) &&& stC c m = 0 := by
      rw [and0]
      rintro y ⟨y1, y2⟩
      obtain ⟨s, s1, rfl⟩ := (st_bit m _).mp y2
      have l1 := (hg.2.1 (c k) (hc k k1)).1
      have l2 := (hg.2.1 (c k) (hc k k1)).2
      rw [and_bit, cpl_bit (q_or_lt (q_or_lt (by omega) (by omega)) (q_pow_lt (by have := hc k k1; omega))), Nat.testBit_or, Nat.testBit_or, Nat.testBit_two_pow] at y1
      have y1 := y1.2
      by_cases q : k = s
      · subst q; simp at y1
      · cases e1 : (mt (c k)).testBit (c s)
        · have e2 := (adj k s k1 s1).2 q e1
          rw [e2] at y1; simp at y1
        · rw [e1] at y1; simp at y1
    rw [p2, op]
    rfl
end N50

