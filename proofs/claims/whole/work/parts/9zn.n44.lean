/-! rows, and the loops over pairs, on both sides -/
/-- rows alike: as long, and alike as far -/
def rowR (a : cRow) (b : cRow) : Prop := a.1 = b.1 ∧ ∀ i, i < a.1 → a.2 i = b.2 i
theorem itr_two {α β : Type} {f : Nat → α → α} {g : Nat → β → β} {R : Nat → α → β → Prop} {x : α} {y : β} (h0 : R 0 x y) : ∀ k, (∀ i a b, i < k → R i a b → R (i + 1) (f i a) (g i b)) → R k (itr f x k) (itr g y k) := by
  intro k
  induction k with
  | zero => exact fun _ => h0
  | succ k ih => exact fun h => h k _ _ (Nat.lt_succ_self _) (ih (fun i a b hi => h i a b (by omega)))
theorem row_2 {f g : Nat → Int64} {x y : Int64} : rowR (2, vp_updL (vp_updL f 0 x) 1 y) (2, vp_updL (vp_updL g 0 x) 1 y) := by
  refine ⟨rfl, fun i hi => ?_⟩
  match i, hi with
  | 0, _ => rfl
  | 1, _ => rfl
theorem row_3 {f g : Nat → Int64} {x y z : Int64} : rowR (3, vp_updL (vp_updL (vp_updL f 0 x) 1 y) 2 z) (3, vp_updL (vp_updL (vp_updL g 0 x) 1 y) 2 z) := by
  refine ⟨rfl, fun i hi => ?_⟩
  match i, hi with
  | 0, _ => rfl
  | 1, _ => rfl
  | 2, _ => rfl
theorem row_1 {f g : Nat → Int64} {x : Int64} : rowR (1, vp_updL f 0 x) (1, vp_updL g 0 x) := by
  refine ⟨rfl, fun i hi => ?_⟩
  match i, hi with
  | 0, _ => rfl
theorem row_0 {f g : Nat → Int64} : rowR (0, f) (0, g) := ⟨rfl, fun i hi => absurd hi (Nat.not_lt_zero _)⟩
theorem t2F_R {p p' : Nat → Nat → Bool} {a b : Nat} {r r' : Int32 × cRow} (hp : p a b = p' a b) (h1 : r.1 = r'.1) (h2 : rowR r.2 r'.2) : (t2F p a b r).1 = (t2F p' a b r').1 ∧ rowR (t2F p a b r).2 (t2F p' a b r').2 := by
  unfold t2F
  rw [hp, h1]
  split
  · split
    · exact ⟨rfl, row_2⟩
    · exact ⟨rfl, h2⟩
  · exact ⟨h1, h2⟩
theorem sure_R {p p' : Nat → Nat → Bool} {n : Nat} {rf row : Nat → Int64} (hp : ∀ a b, a < n → b < n → a ≠ b → p a b = p' a b) : (itr (suG p n) ((0, 0, rf), false) n).1.1 = (itr (suN p' n) (0, 0, row) n).1 ∧ rowR (itr (suG p n) ((0, 0, rf), false) n).1.2 (itr (suN p' n) (0, 0, row) n).2 := by
  refine itr_two (R := fun _ (r : suT) (r' : Int32 × cRow) => r.1.1 = r'.1 ∧ rowR r.1.2 r'.2) (x := ((0, 0, rf), false)) (y := (0, 0, row)) ⟨rfl, row_0⟩ n (fun a r r' ha h => ?_)
  refine itr_two (R := fun _ (r : suT) (r' : Int32 × cRow) => r.1.1 = r'.1 ∧ rowR r.1.2 r'.2) h n (fun b r r' hb h => ?_)
  unfold suF suM
  by_cases c : a = b
  · rw [if_pos c, if_pos c]; exact h
  · rw [if_neg c, if_neg c]; exact t2F_R (hp a b ha hb c) h.1 h.2
theorem kn_R {v v' all all' : Int64} {a b : Nat} {r r' : Int32 × cRow} {x : Nat} (hv : v = lN x) (hx : x < 2147483648) (hv' : v' = v) (ha : all' = all) (h1 : r.1 = r'.1) (h2 : rowR r.2 r'.2) : (knR v all a b r).1 = (kmR v' all' a b r').1 ∧ rowR (knR v all a b r).2 (kmR v' all' a b r').2 := by
  unfold knR kmR
  rw [hv', ha, h1]
  have e : (if v = 0 then (0 : Int64) else 1) = (if 0 < v then 1 else 0) := by
    rw [hv]
    simp only [lN_z hx, lN_pos hx]
    by_cases c : x = 0
    · rw [if_pos c, if_neg (by omega)]
    · rw [if_neg c, if_pos (by omega)]
  rw [e]
  split
  · split
    · exact ⟨rfl, row_3⟩
    · exact ⟨rfl, h2⟩
  · exact ⟨h1, h2⟩
theorem known_R {opn : Nat → Nat → Bool} {now : Nat → Int32} {V V' : Nat → Nat → Int64} {X : Nat → Nat → Nat} {all all' : Int64} {n : Nat} {rf row : Nat → Int64} (ho : ∀ a b, a < b → b < n → (opn a b = true ↔ now (7 * a + b) = 2)) (hV : ∀ a b, a < b → b < n → V a b = lN (X a b) ∧ V' a b = lN (X a b) ∧ X a b < 2147483648) (ha : all' = all) : (itr (knG opn V all n) ((0, 0, rf), false) n).1.1 = (itr (kmG now V' all' n) (0, 0, row) n).1 ∧ rowR (itr (knG opn V all n) ((0, 0, rf), false) n).1.2 (itr (kmG now V' all' n) (0, 0, row) n).2 := by
  refine itr_two (R := fun _ (r : suT) (r' : Int32 × cRow) => r.1.1 = r'.1 ∧ rowR r.1.2 r'.2) (x := ((0, 0, rf), false)) (y := (0, 0, row)) ⟨rfl, row_0⟩ n (fun a r r' ha' h => ?_)
  refine itr_two (R := fun _ (r : suT) (r' : Int32 × cRow) => r.1.1 = r'.1 ∧ rowR r.1.2 r'.2) h (n - (a + 1)) (fun i r r' hi h => ?_)
  have o := ho a (a + 1 + i) (by omega) (by omega)
  obtain ⟨v1, v2, v3⟩ := hV a (a + 1 + i) (by omega) (by omega)
  unfold knF kmF
  by_cases c : opn a (a + 1 + i) = true
  · rw [if_pos c, if_pos (o.mp c)]
    exact kn_R v1 v3 (v2.trans v1.symm) ha h.1 h.2
  · rw [if_neg c, if_neg (fun z => c (o.mpr z))]; exact h
/-! in how many orders two met: at most in all -/
theorem sumN_gap {f g : Nat → Nat} {k : Nat} : ∀ n, k < n → (∀ i, i < n → f i ≤ g i) → sumN f n + g k ≤ sumN g n + f k := by
  intro n
  induction n with
  | zero => exact fun h => absurd h (Nat.not_lt_zero _)
  | succ n ih =>
    intro hk h
    rw [sumN_s, sumN_s]
    have h1 := h n (Nat.lt_succ_self _)
    by_cases c : k = n
    · subst c
      have := sumN_le k (fun i hi => h i (by omega))
      omega
    · have := ih (by omega) (fun i hi => h i (by omega))
      omega
theorem metN_le {n : Nat} {q : Nat → Nat → Bool} {T : Nat → Nat} (hq : pOK n q) (hT : cntT n q T) {a b : Nat} (ha : a < n) (hb : b < n) : gatN q T n a (fun s => decide (dg s b = 1)) + gatN q T n b (fun s => decide (dg s a = 1)) ≤ T 0 := by
  have h3 := p3_pos n
  have hr : ∀ s i, s < 3 ^ n → i < n → q s i = true → s + 3 ^ i < 3 ^ n := fun s i hs hi c => dg_add hi hs (hq s i hs hi c)
  let w : Nat → Nat := fun s => (if dg s b = 1 ∧ q s a = true ∧ dg s a = 0 then T (s + 3 ^ a) else 0) + (if dg s a = 1 ∧ q s b = true ∧ dg s b = 0 then T (s + 3 ^ b) else 0)
  have e : gatN q T n a (fun s => decide (dg s b = 1)) + gatN q T n b (fun s => decide (dg s a = 1)) = sumN (fun s => aN q n (3 ^ n) s * w s) (3 ^ n) := by
    unfold gatN
    rw [← sumN_add]
    refine sumN_cg _ (fun s _ => ?_)
    rw [← Nat.mul_add]
    simp only [decide_eq_true_eq]
    rfl
  rw [e, dual (r := q) (n := n) (N := 3 ^ n) (V := tabW n q w) (w := w) h3 hr (fun s hs => tabW_at n q _ s hs)]
  have z0 := W_0 (w := w) hr (z := fun s => ¬ dg s a = 0 ∧ ¬ dg s b = 0) (fun s i hs hi hz c => by
      obtain ⟨e1, e2⟩ := dg_step (hq s i hs hi c)
      constructor
      · by_cases e : a = i
        · rw [e, e1]; omega
        · rw [e2 a e]; exact hz.1
      · by_cases e : b = i
        · rw [e, e1]; omega
        · rw [e2 b e]; exact hz.2) (fun s _ hz => by
      show (if dg s b = 1 ∧ q s a = true ∧ dg s a = 0 then T (s + 3 ^ a) else 0) + (if dg s a = 1 ∧ q s b = true ∧ dg s b = 0 then T (s + 3 ^ b) else 0) = 0
      rw [if_neg (fun z => hz.1 z.2.2), if_neg (fun z => hz.2 z.2.2)])
  refine W_le hr (fun s hs => ?_) 0 h3
  by_cases c : s = 3 ^ n - 1
  · have hd := dg_last ha
    have hd' := dg_last hb
    have ew : w s = 0 := by
      show (if dg s b = 1 ∧ q s a = true ∧ dg s a = 0 then T (s + 3 ^ a) else 0) + (if dg s a = 1 ∧ q s b = true ∧ dg s b = 0 then T (s + 3 ^ b) else 0) = 0
      rw [c, if_neg (fun z => by rw [hd] at z; exact absurd z.2.2 (by decide)), if_neg (fun z => by rw [hd'] at z; exact absurd z.2.2 (by decide))]
    rw [ew, Nat.zero_add, c, hT.1]
    rw [sumN_0 n (fun i hi => ?_)]
    · decide
    · rw [if_neg]
      intro z
      have := hq (3 ^ n - 1) i (by omega) hi z.1
      have := dg_last hi
      omega
  · rw [hT.2 s (by omega)]
    have hle : ∀ i, i < n → (if q s i = true ∧ ¬ tabW n q w (s + 3 ^ i) = 0 then T (s + 3 ^ i) else 0) ≤ (if q s i = true then T (s + 3 ^ i) else 0) := by
      intro i _
      by_cases c1 : q s i = true
      · rw [if_pos c1]
        split
        · exact Nat.le_refl _
        · exact Nat.zero_le _
      · rw [if_neg c1, if_neg (fun z => c1 z.1)]
        exact Nat.le_refl _
    by_cases c1 : dg s b = 1 ∧ q s a = true ∧ dg s a = 0
    · have ew : w s = T (s + 3 ^ a) := by
        show (if dg s b = 1 ∧ q s a = true ∧ dg s a = 0 then T (s + 3 ^ a) else 0) + (if dg s a = 1 ∧ q s b = true ∧ dg s b = 0 then T (s + 3 ^ b) else 0) = _
        rw [if_pos c1, if_neg (fun z => by omega), Nat.add_zero]
      obtain ⟨e1, e2⟩ := dg_step (hq s a hs ha c1.2.1)
      have ht := z0 (s + 3 ^ a) (hr s a hs ha c1.2.1) ⟨by omega, by rw [e2 b (fun z => by subst z; omega)]; omega⟩
      have g := sumN_gap (k := a) n ha hle
      rw [if_pos c1.2.1, if_neg (fun z => z.2 ht)] at g
      omega
    · by_cases c2 : dg s a = 1 ∧ q s b = true ∧ dg s b = 0
      · have ew : w s = T (s + 3 ^ b) := by
          show (if dg s b = 1 ∧ q s a = true ∧ dg s a = 0 then T (s + 3 ^ a) else 0) + (if dg s a = 1 ∧ q s b = true ∧ dg s b = 0 then T (s + 3 ^ b) else 0) = _
          rw [if_neg c1, if_pos c2, Nat.zero_add]
        obtain ⟨e1, e2⟩ := dg_step (hq s b hs hb c2.2.1)
        have ht := z0 (s + 3 ^ b) (hr s b hs hb c2.2.1) ⟨by rw [e2 a (fun z => by subst z; omega)]; omega, by omega⟩
        have g := sumN_gap (k := b) n hb hle
        rw [if_pos c2.2.1, if_neg (fun z => z.2 ht)] at g
        omega
      · have ew : w s = 0 := by
          show (if dg s b = 1 ∧ q s a = true ∧ dg s a = 0 then T (s + 3 ^ a) else 0) + (if dg s a = 1 ∧ q s b = true ∧ dg s b = 0 then T (s + 3 ^ b) else 0) = _
          rw [if_neg c1, if_neg c2]
        have := sumN_le n hle
        omega
/-! what to ask next -/
theorem lN_sub' {x y : Nat} (h : x ≤ y) : lN y - lN x = lN (y - x) := by
  have e : lN y = lN (y - x) + lN x := by rw [lN_add, Nat.sub_add_cancel h]
  rw [e, Int64.add_sub_cancel]
theorem lN_lt' {x y : Nat} (hx : x < 2147483648) (hy : y < 2147483648) : (lN x < lN y) = (x < y) := propext (pk_lLT (Nat.lt_trans hx (by decide)) (Nat.lt_trans hy (by decide)))
theorem lN_n0 {x : Nat} (hx : x < 2147483648) : ¬ lN x < 0 := by
  have e : (lN x < 0) = (x < 0) := lN_lt' (y := 0) hx (by decide)
  rw [e]
  exact Nat.not_lt_zero _
/-- what is asked for is worth: the greater half -/
def hfN (y x : Nat) : Nat := if y - x < x then x else y - x
theorem hf_v {x y : Nat} (h : x ≤ y) (hy : y < 2147483648) : (if lN y - lN x < lN x then lN x else lN y - lN x) = lN (hfN y x) ∧ hfN y x ≤ y := by
  unfold hfN
  simp only [lN_sub' h, lN_lt' (show y - x < 2147483648 by omega) (show x < 2147483648 by omega)]
  by_cases c : y - x < x
  · rw [if_pos c, if_pos c]; exact ⟨rfl, h⟩
  · rw [if_neg c, if_neg c]; exact ⟨rfl, by omega⟩
/-- rows of the model: how long, as it stands in the cell -/
def rowM (a : cRow) (k : Int32) (f : Nat → Int64) : Prop := nI a.1 = k ∧ ∀ i, i < a.1 → a.2 i = f i
theorem asks_R {opn : Nat → Nat → Bool} {now : Nat → Int32} {V V' : Nat → Nat → Int64} {X : Nat → Nat → Nat} {y n : Nat} {ro : cRow} {to : Int32} {row : Nat → Int64} (hy : y < 2147483647) (ho : ∀ a b, a < b → b < n → (opn a b = true ↔ now (7 * a + b) = 2)) (hV : ∀ a b, a < b → b < n → V a b = lN (X a b) ∧ V' a b = lN (X a b) ∧ X a b ≤ y) (hr : rowM ro to row) : (∃ z, (itr (asG opn V (lN y) n) ((lN y + 1, ro), false) n).1.1 = lN z ∧ (itr (akN now V' (lN y) n) (-2, to, row) n).1 = lN z ∧ rowM (itr (asG opn V (lN y) n) ((lN y + 1, ro), false) n).1.2 (itr (akN now V' (lN y) n) (-2, to, row) n).2.1 (itr (akN now V' (lN y) n) (-2, to, row) n).2.2) ∨ ((itr (akN now V' (lN y) n) (-2, to, row) n) = (-2, to, row) ∧ ∀ a b, a < b → b < n → opn a b = false) := by
  have hy1 : lN y + 1 = lN (y + 1) := by rw [← lN_add]; rfl
  let S : asT → akT → Prop := fun r s => ∃ z, z ≤ y ∧ r.1.1 = lN z ∧ s.1 = lN z ∧ rowM r.1.2 s.2.1 s.2.2
  let F : asT → akT → Prop := fun r s => r.1.1 = lN (y + 1) ∧ r.1.2 = ro ∧ s = (-2, to, row)
  have step : ∀ a b (r : asT) (s : akT), a < b → b < n → opn a b = true → S r s ∨ F r s → S (asR (V a b) (lN y) a b r.1, true) (if now (7 * a + b) = 2 ∧ (s.1 < 0 ∨ akW (lN y) (V' a b) < s.1) then (akW (lN y) (V' a b), 3, vp_updL (vp_updL (vp_updL s.2.2 0 (lN a)) 1 (lN b)) 2 (V' a b)) else s) := by
    intro a b r s hab hb hop h
    obtain ⟨v1, v2, v3⟩ := hV a b hab hb
    have hn := (ho a b hab hb).mp hop
    obtain ⟨f1, f2⟩ := hf_v v3 (by omega)
    have e1 : asR (V a b) (lN y) a b r.1 = if lN (hfN y (X a b)) < r.1.1 then (lN (hfN y (X a b)), 3, vp_updL (vp_updL (vp_updL r.1.2.2 0 (lN a)) 1 (lN b)) 2 (lN (X a b))) else r.1 := by
      unfold asR
      rw [v1, f1]
    have e2 : akW (lN y) (V' a b) = lN (hfN y (X a b)) := by
      unfold akW
      rw [v2, f1]
    rw [e1, e2, v2]
    have row3 : ∀ (f g : Nat → Int64), rowM (3, vp_updL (vp_updL (vp_updL f 0 (lN a)) 1 (lN b)) 2 (lN (X a b))) 3 (vp_updL (vp_updL (vp_updL g 0 (lN a)) 1 (lN b)) 2 (lN (X a b))) := fun f g => ⟨rfl, (row_3 (f := f) (g := g)).2⟩
    rcases h with ⟨z, z1, z2, z3, z4⟩ | ⟨z1, z2, z3⟩
    · rw [z2, z3]
      simp only [lN_lt' (show hfN y (X a b) < 2147483648 by omega) (show z < 2147483648 by omega)]
      by_cases c : hfN y (X a b) < z
      · rw [if_pos c, if_pos ⟨hn, Or.inr c⟩]
        exact ⟨_, f2, rfl, rfl, row3 _ _⟩
      · rw [if_neg c, if_neg (by rintro ⟨-, w | w⟩; exact lN_n0 (by omega) w; exact c w)]
        exact ⟨z, z1, z2, z3, z4⟩
    · subst z3
      rw [z1]
      simp only [lN_lt' (show hfN y (X a b) < 2147483648 by omega) (show y + 1 < 2147483648 by omega)]
      rw [if_pos (by omega), if_pos ⟨hn, Or.inl (by decide)⟩]
      exact ⟨_, f2, rfl, rfl, row3 _ _⟩
  have key := itr_two (f := asG opn V (lN y) n) (g := akN now V' (lN y) n) (R := fun a r s => S r s ∨ (F r s ∧ ∀ a' b, a' < a → a' < b → b < n → opn a' b = false)) (x := ((lN y + 1, ro), false)) (y := (-2, to, row)) (Or.inr ⟨⟨hy1, rfl, rfl⟩, fun a' b h => absurd h (Nat.not_lt_zero _)⟩) n (fun a r s ha h => by
    show S (itr (asF opn V (lN y) a) r (n - (a + 1))) (itr (akF now V' (lN y) a) s (n - 1 - a)) ∨ (F (itr (asF opn V (lN y) a) r (n - (a + 1))) (itr (akF now V' (lN y) a) s (n - 1 - a)) ∧ ∀ a' b, a' < a + 1 → a' < b → b < n → opn a' b = false)
    rw [show n - (a + 1) = n - 1 - a by omega]
    have inner := itr_two (f := asF opn V (lN y) a) (g := akF now V' (lN y) a) (R := fun i r s => S r s ∨ (F r s ∧ (∀ a' b, a' < a → a' < b → b < n → opn a' b = false) ∧ ∀ j, j < i → opn a (a + 1 + j) = false)) (x := r) (y := s) (by
      rcases h with w | ⟨w1, w2⟩
      · exact Or.inl w
      · exact Or.inr ⟨w1, w2, fun j h => absurd h (Nat.not_lt_zero _)⟩) (n - 1 - a) (fun i r s hi h => by
      unfold asF akF
      by_cases c : opn a (a + 1 + i) = true
      · rw [if_pos c]
        refine Or.inl (step a (a + 1 + i) r s (by omega) (by omega) c ?_)
        rcases h with w | ⟨w, -⟩
        · exact Or.inl w
        · exact Or.inr w
      · rw [if_neg c, if_neg (fun z => c ((ho a (a + 1 + i) (by omega) (by omega)).mpr z.1))]
        rcases h with w | ⟨w1, w2, w3⟩
        · exact Or.inl w
        · refine Or.inr ⟨w1, w2, fun j hj => ?_⟩
          by_cases e : j = i
          · subst e; cases q : opn a (a + 1 + j) <;> simp_all
          · exact w3 j (by omega))
    rcases inner with w | ⟨w1, w2, w3⟩
    · exact Or.inl w
    · refine Or.inr ⟨w1, fun a' b h1 h2 h3 => ?_⟩
      by_cases e : a' = a
      · subst e
        have := w3 (b - (a' + 1)) (by omega)
        rw [show a' + 1 + (b - (a' + 1)) = b by omega] at this
        exact this
      · exact w2 a' b (by omega) h2 h3)
  rcases key with ⟨z, z1, z2, z3, z4⟩ | ⟨⟨w1, w2, w3⟩, w4⟩
  · exact Or.inl ⟨z, z2, z3, z4⟩
  · exact Or.inr ⟨w3, fun a b h1 h2 => w4 a b (by omega) h1 h2⟩

