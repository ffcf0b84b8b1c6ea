/-! how likely: the model's tables and both sums -/
/-- what is told, and the open pairs as x says -/
def isP (m : Nat) (O W : Nat → Nat) (x : Nat) (now t : Nat → Int32) : Prop := (∀ i, i < m → t (7 * O i + W i) = (if x.testBit i = true then 1 else 0) ∧ t (7 * W i + O i) = (if x.testBit i = true then 1 else 0)) ∧ ∀ c, (∀ i, i < m → c ≠ 7 * O i + W i ∧ c ≠ 7 * W i + O i) → t c = now c
section N57
variable {n m : Nat} {O W : Nat → Nat} {op : Nat → Int32} {mt nt rm : Nat → Nat} {fm : Bool} {now : Nat → Int32} {opn : Nat → Nat → Bool}
theorem num_inj (hP : numP opn n m O W op (fun _ _ => True)) (hm : m ≤ 6) {i j : Nat} (hi : i < m) (hj : j < m) (h : O i = O j ∧ W i = W j) : i = j := by
  have a := (hP.2 i hi).2.2.2.2.1
  have b := (hP.2 j hj).2.2.2.2.1
  rw [h.1, h.2, b, nI_eqI (by omega) (by omega)] at a
  exact a.symm
theorem ly_P (hn : n ≤ 7) (hP : numP opn n m O W op (fun _ _ => True)) (hm : m ≤ 6) {x : Nat} {f : Nat → Int32} (hf : ∀ c, (∀ i, i < m → c ≠ 7 * O i + W i ∧ c ≠ 7 * W i + O i) → f c = now c) : isP m O W x now (itr (lyF O W x) f m) := by
  have key : ∀ k, k ≤ m → (∀ i, i < k → itr (lyF O W x) f k (7 * O i + W i) = (if x.testBit i = true then 1 else 0) ∧ itr (lyF O W x) f k (7 * W i + O i) = (if x.testBit i = true then 1 else 0)) ∧ ∀ c, (∀ i, i < k → c ≠ 7 * O i + W i ∧ c ≠ 7 * W i + O i) → itr (lyF O W x) f k c = f c := by
    intro k
    induction k with
    | zero => intro _; exact ⟨fun i hi => absurd hi (Nat.not_lt_zero _), fun c _ => rfl⟩
    | succ k ih =>
      intro hk
      obtain ⟨i1, i2⟩ := ih (by omega)
      rw [itr_s]
      generalize itr (lyF O W x) f k = r at *
      have hk1 := (hP.2 k (by omega)).1
      have hk2 := (hP.2 k (by omega)).2.1
      show (∀ i, i < k + 1 → upd (upd r (7 * O k + W k) (if x.testBit k then 1 else 0)) (7 * W k + O k) (if x.testBit k then 1 else 0) (7 * O i + W i) = _ ∧ upd (upd r (7 * O k + W k) (if x.testBit k then 1 else 0)) (7 * W k + O k) (if x.testBit k then 1 else 0) (7 * W i + O i) = _) ∧ ∀ c, _ → upd (upd r (7 * O k + W k) (if x.testBit k then 1 else 0)) (7 * W k + O k) (if x.testBit k then 1 else 0) c = f c
      refine ⟨fun i hi => ?_, fun c hc => ?_⟩
      · by_cases e : i = k
        · subst e
          exact ⟨by rw [upd_o _ _ (by omega), upd_s], upd_s _ _ _⟩
        · have hi1 := (hP.2 i (by omega)).1
          have hi2 := (hP.2 i (by omega)).2.1
          have ne : ¬ (O i = O k ∧ W i = W k) := fun z => e (num_inj hP hm (by omega) (by omega) z)
          obtain ⟨b1, b2⟩ := i1 i (by omega)
          exact ⟨by rw [upd_o _ _ (by omega), upd_o _ _ (by omega)]; exact b1, by rw [upd_o _ _ (by omega), upd_o _ _ (by omega)]; exact b2⟩
      · obtain ⟨c1, c2⟩ := hc k (by omega)
        rw [upd_o _ _ c2, upd_o _ _ c1]
        exact i2 c (fun i hi => hc i (by omega))
  obtain ⟨k1, k2⟩ := key m (Nat.le_refl _)
  exact ⟨k1, fun c hc => (k2 c hc).trans (hf c hc)⟩
theorem q_iff (hn : n ≤ 7) {nN mN rN : Nat → Nat} {s g : Nat} (hs : s < 3 ^ n) (hg : g < n) : qOf (ldB iV gV nN mN rN) s g = true ↔ dg s g = 1 ∨ (dg s g = 0 ∧ iV s &&& (nN g ||| rN g) = 0 ∧ gV s &&& mN g = 0) := by
  unfold qOf
  rw [ld_c (tb_dig hn) hn hs hg, ld_g (tb_dig hn) hn hs hg, Bool.or_eq_true, Bool.and_eq_true]
  unfold mcB
  rw [Bool.and_eq_true, decide_eq_true_iff, decide_eq_true_iff, decide_eq_true_iff, decide_eq_true_iff]
  constructor
  · rintro (h | h)
    · exact Or.inr h
    · exact Or.inl h
  · rintro (h | h)
    · exact Or.inr h
    · exact Or.inl h
theorem qM_iff (hn : n ≤ 7) {t : Nat → Int32} {s g : Nat} (hs : s < 3 ^ n) (hg : g < n) : qM t n s g = true ↔ dg s g = 1 ∨ (dg s g = 0 ∧ ∀ b, b < n → b ≠ g → (dg s b = 1 → ¬ t (7 * g + b) = 0 ∧ (rmV t n g).testBit b = false) ∧ (dg s b = 2 → ¬ t (7 * g + b) = 1)) := by
  unfold qM
  rw [q_iff hn hs hg]
  have hD := tb_dig hn
  have bi : ∀ b, (iV s).testBit b = true ↔ b < n ∧ dg s b = 1 := fun b => by
    rcases Nat.lt_or_ge b n with c | c
    · rw [(hD s hs b (by omega)).1, decide_eq_true_eq]
      exact ⟨fun z => ⟨c, z⟩, fun z => z.2⟩
    · rcases Nat.lt_or_ge b 7 with c2 | c2
      · rw [(hD s hs b c2).1, decide_eq_true_eq, dg_hi hs c]
        exact ⟨fun z => absurd z (by decide), fun z => absurd z.2 (by decide)⟩
      · rw [bit_out (iV_lt s) c2]
        exact ⟨fun z => absurd z (by decide), fun z => by omega⟩
  have bg : ∀ b, (gV s).testBit b = true ↔ b < n ∧ dg s b = 2 := fun b => by
    rcases Nat.lt_or_ge b n with c | c
    · rw [(hD s hs b (by omega)).2, decide_eq_true_eq]
      exact ⟨fun z => ⟨c, z⟩, fun z => z.2⟩
    · rcases Nat.lt_or_ge b 7 with c2 | c2
      · rw [(hD s hs b c2).2, decide_eq_true_eq, dg_hi hs c]
        exact ⟨fun z => absurd z (by decide), fun z => absurd z.2 (by decide)⟩
      · rw [bit_out (gV_lt s) c2]
        exact ⟨fun z => absurd z (by decide), fun z => by omega⟩
  have th : ∀ v b, (thoV t n g v).testBit b = true ↔ b < n ∧ b ≠ g ∧ t (7 * g + b) = v := fun v b => by
    unfold thoV
    rw [tho_bit, decide_eq_true_eq]
  constructor
  · rintro (h | ⟨h0, h1, h2⟩)
    · exact Or.inl h
    · refine Or.inr ⟨h0, fun b hb hbg => ⟨fun d => ⟨fun z => ?_, ?_⟩, fun d z => ?_⟩⟩
      · exact and0.mp h1 b ⟨(bi b).mpr ⟨hb, d⟩, by rw [Nat.testBit_or, (th 0 b).mpr ⟨hb, hbg, z⟩]; rfl⟩
      · cases e : (rmV t n g).testBit b
        · rfl
        · exact absurd ⟨(bi b).mpr ⟨hb, d⟩, by rw [Nat.testBit_or, e, Bool.or_true]⟩ (and0.mp h1 b)
      · exact and0.mp h2 b ⟨(bg b).mpr ⟨hb, d⟩, (th 1 b).mpr ⟨hb, hbg, z⟩⟩
  · rintro (h | ⟨h0, h1⟩)
    · exact Or.inl h
    · refine Or.inr ⟨h0, and0.mpr (fun b ⟨z1, z2⟩ => ?_), and0.mpr (fun b ⟨z1, z2⟩ => ?_)⟩
      · obtain ⟨y1, y2⟩ := (bi b).mp z1
        have hbg : b ≠ g := fun e => by rw [e] at y2; omega
        obtain ⟨w1, w2⟩ := (h1 b y1 hbg).1 y2
        rw [Nat.testBit_or, w2, Bool.or_false] at z2
        exact w1 ((th 0 b).mp z2).2.2
      · obtain ⟨y1, y2⟩ := (bg b).mp z1
        have hbg : b ≠ g := fun e => by rw [e] at y2; omega
        exact (h1 b y1 hbg).2 y2 ((th 1 b).mp z2).2.2
/-- the model's events with an outcome told -/
theorem qX_ok (hg : gdT n mt nt) (hR : nowR n rm mt nt fm now) (hP : numP (opnB mt nt) n m O W op (fun _ _ => True)) {x : Nat} {t : Nat → Int32} (hI : isP m O W x now t) : qX (qM now n) m n O W x (qM t n) := by
  have hn := hg.1
  have hsy : ∀ a b, a < n → b < n → opnB mt nt a b = opnB mt nt b a := fun a b ha hb => opn_sym hg ha hb
  have hi49 : ∀ c, 49 ≤ c → t c = now c := fun c hc => hI.2 c (fun i hi => by
    have := (hP.2 i hi).1
    have := (hP.2 i hi).2.1
    omega)
  have rmE : ∀ g, rmV t n g = rmV now n g := fun g => by
    unfold rmV
    have e : rmF t g = rmF now g := by
      funext b r
      unfold rmF
      rw [hi49 56 (by decide), hi49 (49 + b) (by omega), hi49 (49 + g) (by omega)]
    rw [e]
  have cell : ∀ g b i, nuP m O W g b i → t (7 * g + b) = (if x.testBit i = true then 1 else 0) ∧ now (7 * g + b) = 2 := by
    rintro g b i ⟨h1, h2⟩
    obtain ⟨v1, v2⟩ := hI.1 i h1
    obtain ⟨a1, a2, -, a4, -⟩ := hP.2 i h1
    rcases h2 with ⟨rfl, rfl⟩ | ⟨rfl, rfl⟩
    · exact ⟨v1, (opn_now hg hR (by omega) a2 (by omega)).mp a4⟩
    · exact ⟨v2, (opn_now hg hR a2 (by omega) (by omega)).mp (by rw [← hsy _ _ (by omega) a2]; exact a4)⟩
  have same : ∀ g b, g < n → b < n → b ≠ g → (∀ i, ¬ nuP m O W g b i) → t (7 * g + b) = now (7 * g + b) := by
    intro g b hgn hb hbg hno
    refine hI.2 _ (fun i hi => ?_)
    have := (hP.2 i hi).1
    have := (hP.2 i hi).2.1
    exact ⟨fun z => hno i ⟨hi, Or.inl ⟨by omega, by omega⟩⟩, fun z => hno i ⟨hi, Or.inr ⟨by omega, by omega⟩⟩⟩
  intro s g hs hgn
  rw [qM_iff hn hs hgn, qM_iff hn hs hgn, rmE g]
  constructor
  · rintro (h | ⟨h0, h1⟩)
    · exact ⟨Or.inl h, fun z => by omega⟩
    · refine ⟨Or.inr ⟨h0, fun b hb hbg => ?_⟩, fun _ b i hb hnu => ?_⟩
      · obtain ⟨w1, w2⟩ := h1 b hb hbg
        by_cases c : ∃ i, nuP m O W g b i
        · obtain ⟨i, hi⟩ := c
          rw [(cell g b i hi).2]
          exact ⟨fun d => ⟨by decide, (w1 d).2⟩, fun _ => by decide⟩
        · rw [← same g b hgn hb hbg (fun i hi => c ⟨i, hi⟩)]
          exact ⟨w1, w2⟩
      · have hbg : b ≠ g := fun e => (nu_op hP hnu).2.2.2 e.symm
        obtain ⟨w1, w2⟩ := h1 b hb hbg
        rw [(cell g b i hnu).1] at w1 w2
        constructor
        · intro d
          cases e : x.testBit i
          · rw [e] at w1; exact absurd rfl (w1 d).1
          · rfl
        · intro d
          cases e : x.testBit i
          · rfl
          · rw [e] at w2; exact absurd rfl (w2 d)
  · rintro ⟨h, hc⟩
    rcases h with h | ⟨h0, h1⟩
    · exact Or.inl h
    · refine Or.inr ⟨h0, fun b hb hbg => ?_⟩
      obtain ⟨w1, w2⟩ := h1 b hb hbg
      by_cases c : ∃ i, nuP m O W g b i
      · obtain ⟨i, hi⟩ := c
        obtain ⟨c1, c2⟩ := hc h0 b i hb hi
        rw [(cell g b i hi).1]
        exact ⟨fun d => ⟨by rw [c1 d]; decide, (w1 d).2⟩, fun d => by rw [c2 d]; decide⟩
      · rw [same g b hgn hb hbg (fun i hi => c ⟨i, hi⟩)]
        exact ⟨w1, w2⟩
end N57
theorem pw_N (b : Nat) (hb : b ≤ 10) : ∀ k, itr (pwF (nI b)) 1 k = lN (b ^ k) := by
  intro k
  induction k with
  | zero => rfl
  | succ k ih =>
    rw [itr_s, ih]
    show lN (b ^ k) * (nI b).toInt64 = lN (b ^ (k + 1))
    rw [nI_l (by omega), lN_mul, Nat.pow_succ]
theorem pr_N : ∀ m, m < 7 → ∀ p, p < 11 → ∀ x, x < 2 ^ m → itr (prF p x) 1 m = p ^ pop x * (10 - p) ^ (m - pop x) ∧ itr (prF p x) 1 m ≤ 1000000 := by decide +kernel
theorem ten_N : ∀ m, itr (fun (_ : Nat) (x : Nat) => x * 10) 1 m = 10 ^ m := by
  intro m
  induction m with
  | zero => rfl
  | succ m ih => rw [itr_s, ih, Nat.pow_succ]
section N57b
variable {n m : Nat} {O W : Nat → Nat} {op : Nat → Int32} {mt nt rm : Nat → Nat} {fm : Bool} {now : Nat → Int32} {A : Nat → Nat → Nat} {pc : Nat → Nat → Bool} {TC : Nat → Nat} {gd : Nat → Prop} {w : Nat → Int64}
theorem like_R (H : twoH n A pc (qM now n) TC (mTab now n) gd) (hA : digA n A) (hg : gdT n mt nt) (hR : nowR n rm mt nt fm now) (hP : numP (opnB mt nt) n m O W op (fun _ _ => True)) (hm : m ≤ 6) (hw : ∀ t p, t < 3 ^ n → btM (w t) p = true → t = 0 ∧ p = 0) (hw0 : ¬ TC 0 = 0 → btM (w 0) 0 = true) {p : Nat} (hp : p ≤ 10) : ∀ k, k ≤ 2 ^ m → (∀ c, (∀ i, i < m → c ≠ 7 * O i + W i ∧ c ≠ 7 * W i + O i) → (itr (lkS O W p m (cAll n)) (now, 0) k).1 c = now c) ∧ itr (chF (ooS A op n w (3 ^ n - 1) (3 ^ n - 1)) m p) 0 k = lN (itr (lkS O W p m (cAll n)) (now, 0) k).2 ∧ (itr (lkS O W p m (cAll n)) (now, 0) k).2 ≤ 1000000 * k := by
  have hn := hg.1
  have hsy : ∀ a b, a < n → b < n → opnB mt nt a b = opnB mt nt b a := fun a b ha hb => opn_sym hg ha hb
  intro k
  induction k with
  | zero => intro _; exact ⟨fun _ _ => rfl, rfl, Nat.le_refl _⟩
  | succ k ih =>
    intro hk
    obtain ⟨i1, i2, i3⟩ := ih (by omega)
    rw [itr_s, itr_s, i2]
    generalize itr (lkS O W p m (cAll n)) (now, 0) k = r at *
    have hI := ly_P (x := k) hn hP hm i1
    have hX := qX_ok hg hR hP hI
    have hqx : pOK n (qM (itr (lyF O W k) r.1 m) n) := q_ok (tb_dig hn) hn
    have hT : cntT n (qM (itr (lyF O W k) r.1 m) n) (mTab (itr (lyF O W k) r.1 m) n) := tab_cnt _ _
    have oe := out_eq H hA hP hsy hm hw hw0 hX hqx hT (show k < 2 ^ m by omega)
    have k64 : k < 64 := Nat.lt_of_lt_of_le (show k < 2 ^ m by omega) (Nat.pow_le_pow_right (n := 2) (j := 6) (by decide) hm)
    have hb : mTab (itr (lyF O W k) r.1 m) n 0 ≤ 681080400 := cnt_le hn hqx hT (p3_pos n)
    have ce : (0 < cAll n (itr (lyF O W k) r.1 m)) ↔ lbit (ooS A op n w (3 ^ n - 1) (3 ^ n - 1)) k = 1 := by
      rw [bt_lbit k64, oe]
      unfold cAll
      rw [lN_pos' hb]
    obtain ⟨p1, p2⟩ := pr_N m (by omega) p (by omega) k (by omega)
    show (∀ c, _ → itr (lyF O W k) r.1 m c = now c) ∧ (if lbit (ooS A op n w (3 ^ n - 1) (3 ^ n - 1)) k = 1 then lN r.2 + itr (pwF (nI p)) 1 (pop k) * itr (pwF (nI (10 - p))) 1 (m - pop k) else lN r.2) = lN (r.2 + (if 0 < cAll n (itr (lyF O W k) r.1 m) then itr (prF p k) 1 m else 0)) ∧ r.2 + (if 0 < cAll n (itr (lyF O W k) r.1 m) then itr (prF p k) 1 m else 0) ≤ 1000000 * (k + 1)
    refine ⟨hI.2, ?_, ?_⟩
    · by_cases c : lbit (ooS A op n w (3 ^ n - 1) (3 ^ n - 1)) k = 1
      · rw [if_pos c, if_pos (ce.mpr c), pw_N p hp, pw_N (10 - p) (by omega), lN_mul, lN_add, p1]
      · rw [if_neg c, if_neg (fun z => c (ce.mp z)), Nat.add_zero]
    · split <;> omega
theorem lz_now (hn : n ≤ 7) (hg : gdT n mt nt) (hR : nowR n rm mt nt fm now) (hP : numP (opnB mt nt) n m O W op (fun _ _ => True)) {f : Nat → Int32} (hf : ∀ c, (∀ i, i < m → c ≠ 7 * O i + W i ∧ c ≠ 7 * W i + O i) → f c = now c) : ∀ c, itr (lzO O W) f m c = now c := by
  have hsy : ∀ a b, a < n → b < n → opnB mt nt a b = opnB mt nt b a := fun a b ha hb => opn_sym hg ha hb
  have key : ∀ k, k ≤ m → ∀ c, (itr (lzO O W) f k c = now c) ∨ ((∃ i, i < m ∧ k ≤ i ∧ (c = 7 * O i + W i ∨ c = 7 * W i + O i)) ∧ itr (lzO O W) f k c = f c) := by
    intro k
    induction k with
    | zero =>
      intro _ c
      by_cases e : ∃ i, i < m ∧ 0 ≤ i ∧ (c = 7 * O i + W i ∨ c = 7 * W i + O i)
      · exact Or.inr ⟨e, rfl⟩
      · refine Or.inl (hf c (fun i hi => ⟨fun z => e ⟨i, hi, Nat.zero_le _, Or.inl z⟩, fun z => e ⟨i, hi, Nat.zero_le _, Or.inr z⟩⟩))
    | succ k ih =>
      intro hk c
      have ih := ih (by omega) c
      rw [itr_s]
      obtain ⟨a1, a2, -, a4, -⟩ := hP.2 k (by omega)
      have n1 : now (7 * O k + W k) = 2 := (opn_now hg hR (by omega) a2 (by omega)).mp a4
      have n2 : now (7 * W k + O k) = 2 := (opn_now hg hR a2 (by omega) (by omega)).mp (by rw [← hsy _ _ (by omega) a2]; exact a4)
      generalize itr (lzO O W) f k = r at *
      show upd (upd r (7 * O k + W k) 2) (7 * W k + O k) 2 c = now c ∨ _
      by_cases c1 : c = 7 * W k + O k
      · subst c1; exact Or.inl (by rw [upd_s, n2])
      · by_cases c2 : c = 7 * O k + W k
        · subst c2; exact Or.inl (by rw [upd_o _ _ c1, upd_s, n1])
        · have eu : upd (upd r (7 * O k + W k) 2) (7 * W k + O k) 2 c = r c := by rw [upd_o _ _ c1, upd_o _ _ c2]
          rcases ih with h | ⟨⟨i, i1, i2, i3⟩, h⟩
          · exact Or.inl (eu.trans h)
          · refine Or.inr ⟨⟨i, i1, ?_, i3⟩, eu.trans h⟩
            rcases Nat.lt_or_ge k i with q | q
            · exact q
            · have : i = k := by omega
              subst this
              rcases i3 with z | z
              · exact absurd z c2
              · exact absurd z c1
  intro c
  rcases key m (Nat.le_refl _) c with h | ⟨⟨i, i1, i2, -⟩, -⟩
  · exact h
  · omega
end N57b

