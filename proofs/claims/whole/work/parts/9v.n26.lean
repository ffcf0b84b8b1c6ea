/-! the game: both sides alike -/
theorem itr_ge {α : Type} {f : Nat → (Nat → α) → Nat → α} {b : Nat → Nat} (hl : ∀ t x j, b j ≠ t → f t x j = x j) : ∀ N x j, N ≤ b j → itr f x N j = x j := by
  intro N
  induction N with
  | zero => intro x j _; rfl
  | succ N ih => intro x j hj; rw [itr_s, hl N _ j (by omega), ih x j (by omega)]
theorem itr_blk {α : Type} {f : Nat → (Nat → α) → Nat → α} {b : Nat → Nat} (hl : ∀ t x j, b j ≠ t → f t x j = x j) (hd : ∀ t x y, (∀ j, b j < t → x j = y j) → ∀ j, b j = t → f t x j = f t y j) : ∀ N x j, b j < N → itr f x N j = f (b j) (itr f x N) j := by
  intro N
  induction N with
  | zero => intro x j h; exact absurd h (Nat.not_lt_zero _)
  | succ N ih =>
    intro x j hj
    have keep : ∀ i, b i < N → itr f x (N + 1) i = itr f x N i := fun i hi => by rw [itr_s, hl N _ i (by omega)]
    by_cases c : b j = N
    · rw [itr_s, c]
      refine hd N _ _ (fun i hi => ?_) j c
      rw [hl N _ i (by omega)]
    · rw [keep j (by omega), ih x j (by omega)]
      refine hd (b j) _ _ (fun i hi => ?_) j rfl
      rw [keep i (by omega)]
theorem ask_and : ∀ x, x < 1024 → ∀ a, a < 10 → (nI x &&& (nI (2 ^ a) ^^^ (-1)) = 0) = (x &&& (1023 - 2 ^ a) = 0) := by decide +kernel
theorem ask_bit : ∀ a, a < 10 → ∀ j, j < 10 → (1023 - 2 ^ a).testBit j = !decide (j = a) := by decide +kernel
theorem askB_iff {x a : Nat} (hx : x < 1024) (ha : a < 10) : askB x a = true ↔ ∀ j, j < 10 → j ≠ a → x.testBit j = false := by
  unfold askB
  rw [decide_eq_true_iff, ask_and x hx a ha, and0]
  constructor
  · intro h j hj hja
    cases e : x.testBit j
    · rfl
    · exact absurd ⟨e, by rw [ask_bit a ha j hj]; simp [hja]⟩ (h j)
  · intro h k ⟨h1, h2⟩
    by_cases c : k < 10
    · rw [ask_bit a ha k c] at h2
      have : k ≠ a := by
        intro e
        rw [e] at h2
        simp at h2
      rw [h k c this] at h1
      exact absurd h1 (by decide)
    · rw [Nat.testBit_lt_two_pow (Nat.lt_of_lt_of_le hx (Nat.pow_le_pow_right (n := 2) (by decide) (show 10 ≤ k by omega)))] at h1
      exact absurd h1 (by decide)
/-- the least of the numbers 1 .. m of which p holds, or 0 -/
theorem gmT_is {w : Nat → Nat} {l was : Nat} : ∀ m r, (dtr (gmT w l was) m r = r ∧ (∀ t, 1 ≤ t → t ≤ m → ¬ (t ≠ was ∧ w (10 * (l - t) + t) = 0))) ∨ (1 ≤ dtr (gmT w l was) m r ∧ dtr (gmT w l was) m r ≤ m ∧ (dtr (gmT w l was) m r ≠ was ∧ w (10 * (l - dtr (gmT w l was) m r) + dtr (gmT w l was) m r) = 0) ∧ ∀ t, 1 ≤ t → t < dtr (gmT w l was) m r → ¬ (t ≠ was ∧ w (10 * (l - t) + t) = 0)) := by
  intro m
  induction m with
  | zero => intro r; exact Or.inl ⟨rfl, fun t h1 h2 => by omega⟩
  | succ m ih =>
    intro r
    rw [dtr_s]
    have e : gmT w l was m r = if m + 1 ≠ was ∧ w (10 * (l - (m + 1)) + (m + 1)) = 0 then m + 1 else r := rfl
    rw [e]
    by_cases c : m + 1 ≠ was ∧ w (10 * (l - (m + 1)) + (m + 1)) = 0
    · rw [if_pos c]
      rcases ih (m + 1) with ⟨h1, h2⟩ | ⟨h1, h2, h3, h4⟩
      · right
        rw [h1]
        exact ⟨by omega, Nat.le_refl _, c, fun t a b => h2 t a (by omega)⟩
      · exact Or.inr ⟨h1, by omega, h3, h4⟩
    · rw [if_neg c]
      rcases ih r with ⟨h1, h2⟩ | ⟨h1, h2, h3, h4⟩
      · left
        refine ⟨h1, fun t a b => ?_⟩
        by_cases q : t = m + 1
        · rw [q]; exact c
        · exact h2 t a (by omega)
      · exact Or.inr ⟨h1, by omega, h3, h4⟩
theorem gmT_cg {w w' : Nat → Nat} {l was : Nat} : ∀ m r, m ≤ l → m < 10 → (∀ j, j / 10 < l → w j = w' j) → dtr (gmT w l was) m r = dtr (gmT w' l was) m r := by
  intro m
  induction m with
  | zero => intro r _ _ _; rfl
  | succ m ih =>
    intro r h1 h2 h
    rw [dtr_s, dtr_s]
    have e : gmT w l was m r = gmT w' l was m r := by
      unfold gmT
      rw [h (10 * (l - (m + 1)) + (m + 1)) (by omega)]
    rw [e]
    exact ih _ (by omega) (by omega) h
theorem gmL_at {k l : Nat} (hk : k < 10) {w : Nat → Nat} : ∀ c, c ≤ 10 → ∀ j, itr (gmW k l) w c j = if j / 10 = l ∧ j % 10 < c then dtr (gmT w l (j % 10)) (if l < k then l else k) 0 else w j := by
  intro c
  induction c with
  | zero => intro _ j; rw [if_neg (fun q => Nat.not_lt_zero _ q.2)]; rfl
  | succ c ih =>
    intro hc j
    have ih := ih (by omega)
    rw [itr_s]
    show z_up (itr (gmW k l) w c) (10 * l + c) (dtr (gmT (itr (gmW k l) w c) l c) (if l < k then l else k) 0) j = _
    have hm : (if l < k then l else k) ≤ l ∧ (if l < k then l else k) < 10 := by split <;> omega
    generalize (if l < k then l else k) = m at *
    by_cases e : j = 10 * l + c
    · rw [e, zup_eq, if_pos ⟨by omega, by omega⟩, show (10 * l + c) % 10 = c by omega]
      refine gmT_cg m 0 hm.1 hm.2 (fun i hi => ?_)
      rw [ih i, if_neg (fun q => by omega)]
    · rw [zup_ne _ _ e, ih j]
      by_cases q : j / 10 = l ∧ j % 10 < c
      · rw [if_pos q, if_pos ⟨q.1, by omega⟩]
      · rw [if_neg q, if_neg (fun z => q ⟨z.1, by have := z.1; have := z.2; omega⟩)]
theorem gm_rec {k N : Nat} (hk : k < 10) (w : Nat → Nat) {l was : Nat} (hl : l < N) (hw : was < 10) : itr (gmL k) w N (10 * l + was) = dtr (gmT (itr (gmL k) w N) l was) (if l < k then l else k) 0 := by
  have key := itr_blk (f := gmL k) (b := fun j => j / 10) (fun t x j h => by
    show itr (gmW k t) x 10 j = x j
    rw [gmL_at hk 10 (Nat.le_refl _), if_neg (fun q => h q.1)]) (fun t x y h j hj => by
    show itr (gmW k t) x 10 j = itr (gmW k t) y 10 j
    have hm : (if t < k then t else k) ≤ t ∧ (if t < k then t else k) < 10 := by split <;> omega
    have hc : j / 10 = t ∧ j % 10 < 10 := ⟨hj, by omega⟩
    rw [gmL_at hk 10 (Nat.le_refl _), gmL_at hk 10 (Nat.le_refl _), if_pos hc, if_pos hc]
    exact gmT_cg _ 0 hm.1 hm.2 h) N w (10 * l + was) (by show (10 * l + was) / 10 < N; omega)
  rw [key]
  show itr (gmW k ((10 * l + was) / 10)) (itr (gmL k) w N) 10 (10 * l + was) = _
  rw [gmL_at hk 10 (Nat.le_refl _), show (10 * l + was) / 10 = l by omega, show (10 * l + was) % 10 = was by omega, if_pos ⟨rfl, hw⟩]
theorem wiF_at {l : Nat} {w : Nat → Nat} : ∀ c, c ≤ l → (∀ i, i ≠ l → itr (wiF l) w c i = w i) ∧ ∀ t, (itr (wiF l) w c l).testBit t = ((w l).testBit t || decide (1 ≤ t ∧ t ≤ c ∧ askB (w (l - t)) t = true)) := by
  intro c
  induction c with
  | zero =>
    intro _
    refine ⟨fun i _ => rfl, fun t => ?_⟩
    rw [decide_eq_false (fun q => by omega), Bool.or_false]
    rfl
  | succ c ih =>
    intro hc
    obtain ⟨i1, i2⟩ := ih (by omega)
    rw [itr_s]
    generalize itr (wiF l) w c = x at *
    unfold wiF
    rw [i1 (l - (1 + c)) (by omega)]
    by_cases q : askB (w (l - (1 + c))) (1 + c) = true
    · rw [if_pos q]
      refine ⟨fun i hi => by rw [zup_ne _ _ hi, i1 i hi], fun t => ?_⟩
      rw [zup_eq, Nat.testBit_or, i2, Nat.testBit_two_pow, Bool.or_assoc]
      congr 1
      by_cases e : 1 + c = t
      · subst e
        simp [q]
        omega
      · simp only [e, decide_false, Bool.or_false]
        congr 1
        apply propext
        constructor
        · exact fun z => ⟨z.1, by omega, z.2.2⟩
        · exact fun z => ⟨z.1, by have := z.2.1; omega, z.2.2⟩
    · rw [if_neg q]
      refine ⟨i1, fun t => ?_⟩
      rw [i2]
      congr 2
      apply propext
      constructor
      · exact fun z => ⟨z.1, by omega, z.2.2⟩
      · refine fun z => ⟨z.1, ?_, z.2.2⟩
        have h1 : t ≠ 1 + c := fun e => q (e ▸ z.2.2)
        have := z.2.1
        omega
theorem wi_rec {k N : Nat} (w : Nat → Nat) {l : Nat} (hl : l < N) (t : Nat) : (itr (wiG k) w N l).testBit t = decide (1 ≤ t ∧ t ≤ (if k < l then k else l) ∧ askB (itr (wiG k) w N (l - t)) t = true) := by
  have hle : ∀ l, (if k < l then k else l) ≤ l := fun l => by split <;> omega
  have key := itr_blk (f := wiG k) (b := fun j => j) (fun t x j h => by
    show itr (wiF t) (z_up x t 0) (if k < t then k else t) j = x j
    rw [(wiF_at _ (hle t)).1 j h, zup_ne _ _ h]) (fun t x y h j hj => by
    show itr (wiF t) (z_up x t 0) (if k < t then k else t) j = itr (wiF t) (z_up y t 0) (if k < t then k else t) j
    have hj : j = t := hj
    subst hj
    apply Nat.eq_of_testBit_eq
    intro i
    rw [(wiF_at _ (hle j)).2, (wiF_at _ (hle j)).2, zup_eq, zup_eq]
    congr 2
    apply propext
    constructor
    · intro ⟨a, b, c⟩
      have := hle j
      rw [zup_ne _ _ (show j - i ≠ j by omega), h (j - i) (by show j - i < j; omega)] at c
      exact ⟨a, b, by rw [zup_ne _ _ (show j - i ≠ j by omega)]; exact c⟩
    · intro ⟨a, b, c⟩
      have := hle j
      rw [zup_ne _ _ (show j - i ≠ j by omega), ← h (j - i) (by show j - i < j; omega)] at c
      exact ⟨a, b, by rw [zup_ne _ _ (show j - i ≠ j by omega)]; exact c⟩) N w l hl
  rw [key]
  show (itr (wiF l) (z_up (itr (wiG k) w N) l 0) (if k < l then k else l) l).testBit t = _
  rw [(wiF_at _ (hle l)).2, zup_eq, Nat.zero_testBit, Bool.false_or]
  congr 1
  apply propext
  have := hle l
  constructor
  · intro ⟨a, b, c⟩
    rw [zup_ne _ _ (show l - t ≠ l by omega)] at c
    exact ⟨a, b, c⟩
  · intro ⟨a, b, c⟩
    exact ⟨a, b, by rw [zup_ne _ _ (show l - t ≠ l by omega)]; exact c⟩
theorem lowT_eq : ∀ x, x < 1024 → ∀ k, k < 10 → x.testBit k = true → (∀ j, j < k → x.testBit j = false) → lowT x = k := by decide +kernel
theorem game_eq {n k : Nat} (hk : k < 10) (w v : Nat → Nat) (hw : ∀ l, l < n + 1 → itr (wiG k) w (n + 1) l < 1024) : winV n k w = gmV n k v (10 * n) := by
  have hM := fun l (hl : l < n + 1) t => wi_rec (k := k) (N := n + 1) w hl t
  have hV := fun l was (hl : l < n + 1) (h : was < 10) => gm_rec (k := k) (N := n + 1) hk v (l := l) (was := was) hl h
  unfold winV gmV
  generalize itr (wiG k) w (n + 1) = M at *
  generalize itr (gmL k) v (n + 1) = V at *
  have hmin : ∀ l, (if k < l then k else l) = (if l < k then l else k) := fun l => by split <;> split <;> omega
  have rel : ∀ l, l < n + 1 → ∀ t, (M l).testBit t = decide (1 ≤ t ∧ t ≤ (if l < k then l else k) ∧ V (10 * (l - t) + t) = 0) := by
    intro l
    induction l using Nat.strongRecOn with
    | _ l ih =>
      intro hl t
      rw [hM l hl t, hmin l]
      have hm : (if l < k then l else k) ≤ l ∧ (if l < k then l else k) < 10 := by split <;> omega
      generalize hmm : (if l < k then l else k) = m at *
      congr 1
      apply propext
      constructor
      · intro ⟨a, b, c⟩
        refine ⟨a, b, ?_⟩
        rw [askB_iff (hw (l - t) (by omega)) (by omega)] at c
        rw [hV (l - t) t (by omega) (by omega)]
        rcases gmT_is (w := V) (l := l - t) (was := t) (if l - t < k then l - t else k) 0 with ⟨h1, -⟩ | ⟨h1, h2, h3, -⟩
        · exact h1
        · exfalso
          have hm2 : (if l - t < k then l - t else k) < 10 := by split <;> omega
          generalize dtr (gmT V (l - t) t) (if l - t < k then l - t else k) 0 = z at *
          have := c z (by omega) h3.1
          rw [ih (l - t) (by omega) (by omega) z, decide_eq_false_iff_not] at this
          exact this ⟨h1, h2, h3.2⟩
      · intro ⟨a, b, c⟩
        refine ⟨a, b, ?_⟩
        rw [askB_iff (hw (l - t) (by omega)) (by omega)]
        intro j hj hjt
        rw [ih (l - t) (by omega) (by omega) j]
        apply decide_eq_false
        intro ⟨d1, d2, d3⟩
        rw [hV (l - t) t (by omega) (by omega)] at c
        rcases gmT_is (w := V) (l := l - t) (was := t) (if l - t < k then l - t else k) 0 with ⟨-, h2⟩ | ⟨h1, -⟩
        · exact h2 j d1 d2 ⟨hjt, d3⟩
        · omega
  have hVn := hV n 0 (by omega) (by decide)
  rw [Nat.add_zero] at hVn
  rw [hVn]
  have hm : (if n < k then n else k) < 10 := by split <;> omega
  rcases gmT_is (w := V) (l := n) (was := 0) (if n < k then n else k) 0 with ⟨h1, h2⟩ | ⟨h1, h2, h3, h4⟩
  · rw [h1, if_pos]
    apply Nat.eq_of_testBit_eq
    intro t
    rw [rel n (by omega) t, Nat.zero_testBit]
    apply decide_eq_false
    intro ⟨a, b, c⟩
    exact h2 t a b ⟨by omega, c⟩
  · generalize dtr (gmT V n 0) (if n < k then n else k) 0 = z at *
    have hz : (M n).testBit z = true := by
      rw [rel n (by omega) z]
      exact decide_eq_true ⟨h1, h2, h3.2⟩
    rw [if_neg]
    · refine lowT_eq _ (hw n (by omega)) z (by omega) hz (fun j hj => ?_)
      rw [rel n (by omega) j]
      apply decide_eq_false
      intro ⟨a, b, c⟩
      exact h4 j a hj ⟨by omega, c⟩
    · intro e
      rw [e, Nat.zero_testBit] at hz
      exact absurd hz (by decide)

