/-! what is told: sheets, new guests, counts, what is put by -/
section N30
variable {n : Nat} {rm mt nt : Nat → Nat} {fm : Bool} {vr : Int32} {now : Nat → Int32}
theorem now_cg {now' : Nat → Int32} (hn : n ≤ 7) (hR : nowR n rm mt nt fm now) (h : ∀ i, i < 57 → now' i = now i) : nowR n rm mt nt fm now' := by
  refine ⟨fun a b ha hb hab => ?_, fun x hx => ?_, ?_⟩
  · rw [h _ (by omega)]; exact hR.1 a b ha hb hab
  · rw [h _ (by omega)]; exact hR.2.1 x hx
  · rw [h _ (by omega)]; exact hR.2.2
theorem gd_cg {mt' nt' : Nat → Nat} (hg : gdT n mt nt) (h1 : ∀ i, i < n → mt' i = mt i) (h2 : ∀ i, i < n → nt' i = nt i) : gdT n mt' nt' := by
  obtain ⟨g1, g2, g3, g4, g5⟩ := hg
  refine ⟨g1, fun a ha => ?_, fun a b ha hb => ?_, fun a ha => ?_, fun a t ha h => ?_⟩
  · rw [h1 a ha, h2 a ha]; exact g2 a ha
  · rw [h1 a ha, h2 a ha, h1 b hb, h2 b hb]; exact g3 a b ha hb
  · rw [h1 a ha, h2 a ha]; exact g4 a ha
  · rw [h1 a ha, h2 a ha] at h; exact g5 a t ha h
theorem now_cg2 {rm' mt' nt' : Nat → Nat} (hR : nowR n rm mt nt fm now) (h0 : ∀ i, i < n → rm' i = rm i) (h1 : ∀ i, i < n → mt' i = mt i) (h2 : ∀ i, i < n → nt' i = nt i) : nowR n rm' mt' nt' fm now := by
  refine ⟨fun a b ha hb hab => ?_, fun x hx => ?_, hR.2.2⟩
  · rw [hR.1 a b ha hb hab]
    unfold abt
    rw [h1 a ha, h2 a ha]
  · rw [h0 x hx]; exact hR.2.1 x hx
theorem sh_rel (hn : n ≤ 7) (hR : nowR n rm mt nt fm now) {kind nn f s c : Int32} (hc : c = if kind = 3 then 0 else nn) : ∀ k, k ≤ n → nowR n (shF kind c f s rm k) mt nt fm (itr (shM kind nn f s) now k) := by
  intro k
  induction k with
  | zero => exact fun _ => hR
  | succ k ih =>
    intro hk
    rw [itr_s]
    show nowR n (z_up (shF kind c f s rm k) k (if nI k < c then clamp9 (shNum kind (f + nI k * s)) else 0)) mt nt fm (upd (itr (shM kind nn f s) now k) (49 + k) (nI (if kind = 3 then 0 else if nI k < nn then clamp9 (shNum kind (f + nI k * s)) else 0)))
    have e : (if nI k < c then clamp9 (shNum kind (f + nI k * s)) else 0) = (if kind = 3 then 0 else if nI k < nn then clamp9 (shNum kind (f + nI k * s)) else 0) := by
      subst hc
      by_cases c3 : kind = 3
      · rw [if_pos c3, if_pos c3, if_neg (nI_pos (by omega))]
      · rw [if_neg c3, if_neg c3]
    rw [e]
    exact (mv_now (ih (by omega)) hn).resolve_right (fun z => z (by omega))
theorem rs_eq (hR : nowR n rm mt nt fm now) : ∀ k, k ≤ n → itr (srF now) 0 k = nI (rsum rm k) := by
  intro k
  induction k with
  | zero => exact fun _ => rfl
  | succ k ih =>
    intro hk
    rw [itr_s, ih (by omega)]
    show nI (rsum rm k) + now (49 + k) = nI (rsum rm k + rm k)
    rw [hR.2.1 k (by omega), nI_add]
theorem sel_eq (hg : gdT n mt nt) (hR : nowR n rm mt nt fm now) {v i : Nat} (hv : v ≤ 2) (hi : i < n) : selM n mt nt v i = thoV now n i (nI v) := by
  have hn := hg.1
  unfold selM
  rcases (show v = 0 ∨ v = 1 ∨ v = 2 by omega) with e | e | e
  · subst e
    rw [if_neg (by decide), if_pos rfl]
    exact (tho_0 hg hR hi).symm
  · subst e
    rw [if_pos rfl]
    exact (tho_1 hg hR hi).symm
  · subst e
    rw [if_neg (by decide), if_neg (by decide)]
    apply Nat.eq_of_testBit_eq
    intro b
    rw [show thoV now n i (nI 2) = thoV now n i 2 from rfl, tho_2 hR hi]
    have h1 := Nat.lt_of_lt_of_le (hg.2.1 i hi).1 (Nat.pow_le_pow_right (n := 2) (by decide) hn)
    have h2 := Nat.lt_of_lt_of_le (hg.2.1 i hi).2 (Nat.pow_le_pow_right (n := 2) (by decide) hn)
    have h3 : 2 ^ i < 2 ^ 7 := Nat.pow_lt_pow_right (by decide) (by omega)
    have hx : mt i ||| nt i ||| 2 ^ i < 128 := Nat.or_lt_two_pow (n := 7) (Nat.or_lt_two_pow (n := 7) h1 h2) h3
    rw [Nat.testBit_and, Nat.testBit_two_pow_sub_one, cpl_bit hx, Nat.testBit_or, Nat.testBit_or, Nat.testBit_two_pow]
    by_cases c1 : b < n
    · have c7 : b < 7 := by omega
      by_cases c2 : b = i
      · subst c2; simp
      · have c3 : ¬ i = b := fun e => c2 e.symm
        cases (mt i).testBit b <;> cases (nt i).testBit b <;> simp [c1, c2, c3, c7]
    · simp [c1]
theorem ps_eq (hg : gdT n mt nt) (hR : nowR n rm mt nt fm now) {v : Nat} (hv : v ≤ 2) : ∀ k, k ≤ n → itr (ptF now n (nI v)) 0 k = psum n mt nt v k := by
  intro k
  induction k with
  | zero => exact fun _ => rfl
  | succ k ih =>
    intro hk
    rw [itr_s, ih (by omega)]
    show psum n mt nt v k + pop (thoV now n k (nI v)) = psum n mt nt v k + pop (selM n mt nt v k)
    rw [sel_eq hg hR hv (by omega)]
/-- counts: alike -/
theorem cnt_eq2 {t : cTold} (h : relT t now) {x : Int32} {k rk len : Nat} : cntO x t k rk len = ctV now t.1 (nI k) (nI rk) (nI len) x := by
  obtain ⟨n, rm, mt, nt, fm, vr⟩ := t
  obtain ⟨hO, hg, hR⟩ := h
  simp only at hg hR
  have e0 : itr (ptF now n 0) 0 n = psum n mt nt 0 n := ps_eq (v := 0) hg hR (by decide) n (Nat.le_refl n)
  have e1 : itr (ptF now n 1) 0 n = psum n mt nt 1 n := ps_eq (v := 1) hg hR (by decide) n (Nat.le_refl n)
  have e2 : itr (ptF now n 2) 0 n = psum n mt nt 2 n := ps_eq (v := 2) hg hR (by decide) n (Nat.le_refl n)
  unfold cntO ctV
  simp only
  rw [e0, e1, e2, hR.2.2, rs_eq hR n (Nat.le_refl n)]
/-- what is told of a guest: alike -/
theorem gst_eq {t : cTold} (h : relT t now) {a w : Nat} (ha : a < t.1) (hw : w ≤ 3) : nI (gstV t.1 t.2.1 t.2.2.1 t.2.2.2.1 a w) = gsW now t.1 a w := by
  obtain ⟨n, rm, mt, nt, fm, vr⟩ := t
  obtain ⟨hO, hg, hR⟩ := h
  simp only at hg hR ha ⊢
  unfold gstV gsW
  rcases (show w = 0 ∨ w = 1 ∨ w = 2 ∨ w = 3 by omega) with e | e | e | e
  · subst e
    rw [if_pos rfl, if_pos rfl, hR.2.1 a ha]
  · subst e
    simp only [if_true, if_neg (show ¬ (1 : Nat) = 0 by decide)]
    rw [tho_1 hg hR ha]
  · subst e
    simp only [if_true, if_neg (show ¬ (2 : Nat) = 0 by decide), if_neg (show ¬ (2 : Nat) = 1 by decide)]
    rw [tho_0 hg hR ha]
  · subst e
    simp only [if_neg (show ¬ (3 : Nat) = 0 by decide), if_neg (show ¬ (3 : Nat) = 1 by decide), if_neg (show ¬ (3 : Nat) = 2 by decide)]
    have := sel_eq (v := 2) hg hR (by decide) ha
    unfold selM at this
    rw [if_neg (by decide), if_neg (by decide)] at this
    rw [this]
    rfl
/-- new guests -/
theorem la_at (G : Nat) (f : Nat → Int32) : ∀ k, (∀ i b, 7 * i + b ≠ 7 * 0 + 0 ∨ True) → k ≤ 7 → G < 7 → ∀ j, itr (laF G) f k j = if ∃ b, b < k ∧ (j = 7 * G + b ∨ j = 7 * b + G) then 2 else f j := by
  intro k _
  induction k with
  | zero => intro _ _ j; rw [itr_0, if_neg (fun ⟨b, hb, _⟩ => Nat.not_lt_zero _ hb)]
  | succ k ih =>
    intro hk hG j
    rw [itr_s]
    show upd (upd (itr (laF G) f k) (7 * G + k) 2) (7 * k + G) 2 j = _
    unfold upd
    by_cases c1 : j = 7 * k + G
    · rw [if_pos c1, if_pos ⟨k, by omega, Or.inr c1⟩]
    · rw [if_neg c1]
      by_cases c2 : j = 7 * G + k
      · rw [if_pos c2, if_pos ⟨k, by omega, Or.inl c2⟩]
      · rw [if_neg c2, ih (by omega) hG j]
        by_cases c3 : ∃ b, b < k ∧ (j = 7 * G + b ∨ j = 7 * b + G)
        · obtain ⟨b, hb, h⟩ := c3
          rw [if_pos ⟨b, hb, h⟩, if_pos ⟨b, by omega, h⟩]
        · rw [if_neg c3, if_neg]
          rintro ⟨b, hb, h⟩
          by_cases e : b = k
          · subst e; rcases h with h | h
            · exact c2 h
            · exact c1 h
          · exact c3 ⟨b, by omega, h⟩
theorem add_rel {t : cTold} (h : relT t now) (h7 : t.1 < 7) {c : Nat → Nat} {rd : Nat → Int32} {g j : Nat} (hgj : g + j = t.1) (hc : c (2 * j) - 48 ≤ 9) (hrd : rd j = nI (c (2 * j) - 48)) : relT (gaF c j t) (gaM rd g j now) := by
  obtain ⟨n, rm, mt, nt, fm, vr⟩ := t
  obtain ⟨hO, hg, hR⟩ := h
  simp only at hg hR h7 hgj
  obtain ⟨g1, g2, g3, g4, g5⟩ := hg
  have p2 : 2 ^ n < 2 ^ (n + 1) := Nat.pow_lt_pow_right (by decide) (by omega)
  have z0 : ∀ (f : Nat → Nat) (a : Nat), a < n → z_up f n 0 a = f a := fun f a ha => zup_ne f 0 (by omega)
  have zb : ∀ (f : Nat → Nat), z_up f n 0 n = 0 := fun f => zup_eq f n 0
  refine ⟨⟨by show n + 1 ≤ 7; omega, ?_, ?_, ?_⟩, ⟨by show n + 1 ≤ 7; omega, fun a ha => ?_, fun a b ha hb => ?_, fun a ha => ?_, fun a b ha hab => ?_⟩, ?_⟩
  · intro i
    show z_up rm n _ i ≤ 9
    unfold z_up
    split
    · exact hc
    · exact hO.2.1 i
  · intro i
    show z_up mt n 0 i < 128
    exact zup_lt hO.2.2.1 (by decide) i
  · intro i
    show z_up nt n 0 i < 128
    exact zup_lt hO.2.2.2 (by decide) i
  · show z_up mt n 0 a < 2 ^ (n + 1) ∧ z_up nt n 0 a < 2 ^ (n + 1)
    have ha' : a < n + 1 := ha
    by_cases e : a = n
    · subst e; rw [zb, zb]; exact ⟨Nat.two_pow_pos _, Nat.two_pow_pos _⟩
    · rw [z0 _ a (by omega), z0 _ a (by omega)]
      exact ⟨Nat.lt_trans (g2 a (by omega)).1 p2, Nat.lt_trans (g2 a (by omega)).2 p2⟩
  · show (z_up mt n 0 a).testBit b = (z_up mt n 0 b).testBit a ∧ (z_up nt n 0 a).testBit b = (z_up nt n 0 b).testBit a
    have ha' : a < n + 1 := ha
    have hb' : b < n + 1 := hb
    by_cases e : a = n
    · subst e
      by_cases e2 : b = a
      · subst e2; exact ⟨rfl, rfl⟩
      · rw [zb, zb, z0 _ b (by omega), z0 _ b (by omega), bit_n (g2 b (by omega)).1 (Nat.le_refl a), bit_n (g2 b (by omega)).2 (Nat.le_refl a)]
        exact ⟨Nat.zero_testBit _, Nat.zero_testBit _⟩
    · by_cases e2 : b = n
      · subst e2
        rw [zb, zb, z0 _ a (by omega), z0 _ a (by omega), bit_n (g2 a (by omega)).1 (Nat.le_refl b), bit_n (g2 a (by omega)).2 (Nat.le_refl b)]
        exact ⟨(Nat.zero_testBit _).symm, (Nat.zero_testBit _).symm⟩
      · rw [z0 _ a (by omega), z0 _ a (by omega), z0 _ b (by omega), z0 _ b (by omega)]
        exact g3 a b (by omega) (by omega)
  · show (z_up mt n 0 a).testBit a = false ∧ (z_up nt n 0 a).testBit a = false
    have ha' : a < n + 1 := ha
    by_cases e : a = n
    · subst e; rw [zb, zb]; exact ⟨Nat.zero_testBit _, Nat.zero_testBit _⟩
    · rw [z0 _ a (by omega), z0 _ a (by omega)]; exact g4 a (by omega)
  · have ha' : a < n + 1 := ha
    have hab' : (z_up mt n 0 a).testBit b = true ∧ (z_up nt n 0 a).testBit b = true := hab
    by_cases e : a = n
    · subst e; rw [zb, Nat.zero_testBit] at hab'; exact absurd hab'.1 (by decide)
    · rw [z0 _ a (by omega), z0 _ a (by omega)] at hab'; exact g5 a b (by omega) hab'
  · show nowR (n + 1) (z_up rm n (c (2 * j) - 48)) (z_up mt n 0) (z_up nt n 0) fm (upd (itr (laF (g + j)) now (g + j)) (49 + (g + j)) (rd j))
    rw [hgj, hrd]
    have la := la_at n now n (fun _ _ => Or.inr trivial) (by omega) h7
    refine ⟨fun a b ha hb hab => ?_, fun x hx => ?_, ?_⟩
    · unfold upd
      rw [if_neg (by omega), la]
      by_cases e : a = n
      · subst e
        rw [if_pos ⟨b, by omega, Or.inl rfl⟩]
        unfold abt
        rw [zb, zb, Nat.zero_testBit]
        rfl
      · by_cases e2 : b = n
        · subst e2
          rw [if_pos ⟨a, by omega, Or.inr rfl⟩]
          unfold abt
          rw [z0 _ a (by omega), z0 _ a (by omega), bit_n (g2 a (by omega)).1 (Nat.le_refl b), bit_n (g2 a (by omega)).2 (Nat.le_refl b)]
          rfl
        · rw [if_neg (by rintro ⟨y, hy, hz | hz⟩ <;> omega), hR.1 a b (by omega) (by omega) hab]
          unfold abt
          rw [z0 _ a (by omega), z0 _ a (by omega)]
    · unfold upd z_up
      by_cases e : x = n
      · rw [if_pos (by omega), if_pos e]
      · rw [if_neg (by omega), if_neg e, la, if_neg (by rintro ⟨y, hy, hz | hz⟩ <;> omega)]
        exact hR.2.1 x (by omega)
    · unfold upd
      rw [if_neg (by omega), la, if_neg (by rintro ⟨y, hy, hz | hz⟩ <;> omega)]
      exact hR.2.2
end N30

