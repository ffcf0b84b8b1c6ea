/-! texts of meetings, on both sides -/
theorem toS_v (sg : Nat → Nat) (p t : Nat) : toI wdS 3 sg p t = if p < t then (if sg p = 45 then 0 else if sg p = 43 then 1 else if sg p = 63 then 2 else 3) else 3 := by
  unfold toI
  by_cases c : p < t
  · rw [if_pos c, if_pos c, srch_s, srch_s, srch_s, srch_0]
    simp only [decide_eq_true_iff, show wdS 0 = 45 from rfl, show wdS (0 + 1) = 43 from rfl, show wdS (0 + 1 + 1) = 63 from rfl, show ((45 : Nat) = sg p) = (sg p = 45) from propext eq_comm, show ((43 : Nat) = sg p) = (sg p = 43) from propext eq_comm, show ((63 : Nat) = sg p) = (sg p = 63) from propext eq_comm]
  · rw [if_neg c, if_neg c]
theorem ni_m1 {x : Nat} (hx : x < 1000) : ¬ nI x = -1 := by
  revert x
  have : ∀ x, x < 1000 → ¬ nI x = -1 := by decide +kernel
  exact fun {x} hx => this x hx
section N33
variable {n g len : Nat} {c : Nat → Nat} {rd : Nat → Int32}
theorem dg_n (hn : n ≤ 7) {p : Nat} (hp : p < len) : (decide (¬ dgV len c p < 0) && decide (dgV len c p < nI n)) = decide (48 ≤ c p ∧ c p - 48 < n) := by
  unfold dgV
  by_cases q : 48 ≤ c p ∧ c p ≤ 57
  · rw [if_pos ⟨hp, q⟩]
    have e1 : (¬ nI (c p - 48) < 0) = True := eq_true (nI_pos (by omega))
    have e2 : (nI (c p - 48) < nI n) = (c p - 48 < n) := nI_ult (by omega) (by omega)
    simp only [e1, e2, decide_true, Bool.true_and, q.1, true_and]
  · rw [if_neg (fun z => q z.2), decide_eq_false (show ¬ ¬ (-1 : Int32) < 0 by decide), Bool.false_and, decide_eq_false]
    rintro ⟨z1, z2⟩
    exact q ⟨z1, by omega⟩
theorem gm_0 (hn : n ≤ 7) {p : Nat} (hp : p < len) (e : p % 4 = 0) : gmB len c p n = decide (48 ≤ c p ∧ c p - 48 < n) := by
  unfold gmB
  rw [if_pos e]
  exact dg_n hn hp
theorem gm_1 (hn : n ≤ 7) {p : Nat} (hp : p + 1 < len) (e : p % 4 = 0) (hg : 48 ≤ c p ∧ c p - 48 < n) : gmB len c (p + 1) n = decide ((48 ≤ c (p + 1) ∧ c (p + 1) - 48 < n) ∧ ¬ c (p + 1) - 48 = c p - 48) := by
  unfold gmB
  rw [if_neg (by omega), if_pos (by omega), dg_n hn hp, ← Bool.decide_and]
  congr 1
  apply propext
  refine ⟨fun z => ⟨z.1, fun w => z.2 ?_⟩, fun z => ⟨z.1, fun w => z.2 ?_⟩⟩
  · unfold dgV
    rw [if_pos ⟨hp, z.1.1, by omega⟩, Nat.add_sub_cancel, if_pos ⟨by omega, hg.1, by omega⟩, w]
  · unfold dgV at w
    rw [if_pos ⟨hp, z.1.1, by omega⟩, Nat.add_sub_cancel, if_pos ⟨by omega, hg.1, by omega⟩] at w
    have e2 : (nI (c (p + 1) - 48) = nI (c p - 48)) = (c (p + 1) - 48 = c p - 48) := nI_eqI (by omega) (by omega)
    rw [e2] at w
    exact w
theorem tb_v {p T : Nat} (hp : p < len) (hT : p < T) : tbV len c p = if toI wdS 3 c p T < 3 then nI (toI wdS 3 c p T) else -1 := by
  unfold tbV
  rw [toS_v, if_pos hT]
  by_cases c1 : c p = 45
  · rw [if_neg (by omega), if_pos ⟨hp, c1⟩]
    simp only [if_pos c1]; rfl
  · by_cases c2 : c p = 43
    · rw [if_pos ⟨hp, c2⟩]
      simp only [if_neg c1, if_pos c2]; rfl
    · by_cases c3 : c p = 63
      · rw [if_neg (fun z => c2 z.2), if_neg (fun z => c1 z.2), if_pos ⟨hp, c3⟩]
        simp only [if_neg c1, if_neg c2, if_pos c3]; rfl
      · rw [if_neg (fun z => c2 z.2), if_neg (fun z => c1 z.2), if_neg (fun z => c3 z.2)]
        simp only [if_neg c1, if_neg c2, if_neg c3]; rfl
theorem tb_pos {p T : Nat} (hp : p < len) (hT : p < T) : (¬ tbV len c p < 0) = (toI wdS 3 c p T < 3) := by
  rw [tb_v hp hT]
  by_cases q : toI wdS 3 c p T < 3
  · rw [if_pos q]; exact propext ⟨fun _ => q, fun _ => nI_pos (by omega)⟩
  · rw [if_neg q]; exact propext ⟨fun z => absurd (by decide) z, fun z => absurd z q⟩
theorem gm_2 {p T : Nat} (hp : p < len) (hT : p < T) (e : p % 4 = 2) : gmB len c p n = decide (toI wdS 3 c p T < 3) := by
  unfold gmB
  rw [if_neg (by omega), if_neg (by omega), if_pos e]
  simp only [tb_pos hp hT]
theorem gm_3 (hc : ∀ i, c i < 256) {p : Nat} (hp : p < len) (e : p % 4 = 3) : gmB len c p n = decide (c p = 59) := by
  unfold gmB
  rw [if_neg (by omega), if_neg (by omega), if_neg (by omega)]
  congr 1
  exact at_v (x := 59) hc hp (by decide)
theorem di_v (hc : ∀ i, c i < 256) {T m p : Nat} : diB c T m (-1) p = decide (p < T ∧ 48 ≤ c p ∧ c p - 48 < m) := by
  unfold diB
  congr 1
  apply propext
  exact ⟨fun z => ⟨z.1, z.2.1, z.2.2.1⟩, fun z => ⟨z.1, z.2.1, z.2.2, ni_m1 (by have := hc p; omega)⟩⟩
theorem di_w (hc : ∀ i, c i < 256) {T m p x : Nat} (hx : x < 256) : diB c T m (nI x) p = decide (p < T ∧ (48 ≤ c p ∧ c p - 48 < m) ∧ ¬ c p - 48 = x) := by
  unfold diB
  congr 1
  apply propext
  have e2 : (nI (c p - 48) = nI x) = (c p - 48 = x) := nI_eqI (by have := hc p; omega) (by omega)
  rw [e2]
  exact ⟨fun z => ⟨z.1, ⟨z.2.1, z.2.2.1⟩, z.2.2.2⟩, fun z => ⟨z.1, z.2.1.1, z.2.1.2, z.2.2⟩⟩
/-- what the model reads -/
theorem me_spec (hc : ∀ i, c i < 256) (hn : n ≤ 7) {T : Nat} (hT : T ≤ len) : ∀ f p m rd P, p = 4 * m → p ≤ T → T + 1 ≤ p + f → fbD (fun p => gmB len c p n) (T - p) p = P → (meR c T n f p m rd).2.1 = P ∧ (meR c T n f p m rd).1 = decide (P % 4 = 3) ∧ (meR c T n f p m rd).2.2.1 = (P + 1) / 4 := by
  intro f
  induction f with
  | zero => intro p m rd P _ hp h; omega
  | succ f ih =>
    intro p m rd P e hp hf hP
    rw [meR_s]
    have eF : ∀ o k, fbD (fun p => gmB len c p n) (k + 1) o = if gmB len c o n then fbD (fun p => gmB len c p n) k (o + 1) else o := fun _ _ => rfl
    have fin : ∀ (b : Bool) (q x : Nat) (r : Nat → Int32), q = P → b = decide (q % 4 = 3) → x = (q + 1) / 4 → (b, q, x, r).2.1 = P ∧ (b, q, x, r).1 = decide (P % 4 = 3) ∧ (b, q, x, r).2.2.1 = (P + 1) / 4 := by
      intro b q x r h1 h2 h3
      subst h1
      exact ⟨rfl, h2, h3⟩
    rw [di_v hc]
    by_cases c0 : p < T
    · rw [show T - p = (T - p - 1) + 1 by omega, eF, gm_0 hn (show p < len by omega) (by omega)] at hP
      by_cases c1 : 48 ≤ c p ∧ c p - 48 < n
      · rw [decide_eq_true c1, if_pos rfl] at hP
        rw [decide_eq_true ⟨c0, c1⟩, if_pos rfl, di_w hc (by omega)]
        by_cases d0 : p + 1 < T
        · rw [show T - p - 1 = (T - p - 2) + 1 by omega, eF, gm_1 hn (by omega) (by omega) c1] at hP
          by_cases d1 : (48 ≤ c (p + 1) ∧ c (p + 1) - 48 < n) ∧ ¬ c (p + 1) - 48 = c p - 48
          · rw [decide_eq_true d1, if_pos rfl] at hP
            rw [decide_eq_true ⟨d0, d1⟩, if_pos rfl]
            by_cases f0 : p + 2 < T
            · rw [show T - p - 2 = (T - p - 3) + 1 by omega, eF, gm_2 (T := T) (by omega) f0 (by omega)] at hP
              by_cases f1 : toI wdS 3 c (p + 2) T < 3
              · rw [decide_eq_true f1, if_pos rfl] at hP
                rw [if_pos f1]
                by_cases g0 : p + 3 < T
                · rw [show T - p - 3 = (T - (p + 4)) + 1 by omega, eF, gm_3 hc (by omega) (by omega)] at hP
                  by_cases g1 : c (p + 3) = 59
                  · rw [if_pos (by unfold tkN; exact decide_eq_true ⟨g0, g1⟩)]
                    rw [decide_eq_true g1, if_pos rfl] at hP
                    exact ih (p + 4) (m + 1) _ P (by omega) (by omega) (by omega) hP
                  · rw [if_neg (by unfold tkN; exact fun z => g1 (of_decide_eq_true z).2)]
                    rw [decide_eq_false g1, if_neg (by decide)] at hP
                    exact fin _ _ _ _ hP (by rw [decide_eq_true (by omega)]) (by omega)
                · rw [if_neg (by unfold tkN; exact fun z => g0 (of_decide_eq_true z).1)]
                  rw [show T - p - 3 = 0 by omega] at hP
                  exact fin _ _ _ _ hP (by rw [decide_eq_true (by omega)]) (by omega)
              · rw [decide_eq_false f1, if_neg (by decide)] at hP
                rw [if_neg f1]
                exact fin _ _ _ _ hP (by rw [decide_eq_false (by omega)]) (by omega)
            · rw [show T - p - 2 = 0 by omega] at hP
              rw [if_neg (fun z => f0 (toI_lt z))]
              exact fin _ _ _ _ hP (by rw [decide_eq_false (by omega)]) (by omega)
          · rw [decide_eq_false d1, if_neg (by decide)] at hP
            rw [decide_eq_false (fun z => d1 z.2), if_neg (by decide)]
            exact fin _ _ _ _ hP (by rw [decide_eq_false (by omega)]) (by omega)
        · rw [show T - p - 1 = 0 by omega] at hP
          rw [decide_eq_false (fun z => d0 z.1), if_neg (by decide)]
          exact fin _ _ _ _ hP (by rw [decide_eq_false (by omega)]) (by omega)
      · rw [decide_eq_false c1, if_neg (by decide)] at hP
        rw [decide_eq_false (fun z => c1 z.2), if_neg (by decide)]
        exact fin _ _ _ _ hP (by rw [decide_eq_false (by omega)]) (by omega)
    · rw [show T - p = 0 by omega] at hP
      rw [decide_eq_false (fun z => c0 z.1), if_neg (by decide)]
      exact fin _ _ _ _ hP (by rw [decide_eq_false (by omega)]) (by omega)
/-- a text of meetings: the fault, or how many -/
theorem me_eq (hc : ∀ i, c i < 256) (hl : len ≤ 80) (hn : n ≤ 7) {r : Bool × Nat × Nat × (Nat → Int32)} (hr : meS c len n rd = r) : (fmV len c n = -1 → ¬ ftV len 79 r.1 r.2.1 (min len 79) < 0 ∧ r.2.2.1 = (len + 3) / 4 ∧ len ≤ 79 ∧ 4 * ((len + 3) / 4) ≤ len + 1 ∧ ∀ j, j < (len + 3) / 4 → 48 ≤ c (4 * j) ∧ c (4 * j) - 48 < n ∧ 48 ≤ c (4 * j + 1) ∧ c (4 * j + 1) - 48 < n ∧ ¬ c (4 * j) - 48 = c (4 * j + 1) - 48 ∧ toI wdS 3 c (4 * j + 2) (min len 79) < 3) ∧ (¬ fmV len c n = -1 → ftV len 79 r.1 r.2.1 (min len 79) < 0 ∧ ftV len 79 r.1 r.2.1 (min len 79) = -1 - fmV len c n) := by
  have f1 := flt_1 (g := fun p => gmB len c p n) (T := min len 79) (by omega) (fine := decide ((len = 0 ∨ len % 4 = 3) ∧ len ≤ 79))
  have fD := flt_D (fun p => gmB len c p n) (min len 79) (decide ((len = 0 ∨ len % 4 = 3) ∧ len ≤ 79))
  rw [show fltV (firstBad (fun p => gmB len c p n) (min len 79) 0) (min len 79) (decide ((len = 0 ∨ len % 4 = 3) ∧ len ≤ 79)) = fmV len c n from rfl] at f1 fD
  by_cases c0 : len = 0
  · subst c0
    have e0 : r = (true, 0, 0, rd) := by rw [← hr]; rfl
    subst e0
    have : fmV 0 c n = -1 := by rw [f1]; exact ⟨rfl, by decide⟩
    refine ⟨fun _ => ⟨?_, rfl, by omega, by omega, fun j hj => by omega⟩, fun z => absurd this z⟩
    unfold ftV
    rw [if_neg (by omega), if_pos ⟨rfl, rfl⟩]
    decide
  · have er : r = meR c (min len 79) n (min len 79 + 1) 0 0 rd := by rw [← hr]; unfold meS; rw [if_neg c0]
    obtain ⟨s1, s2, s3⟩ := me_spec (len := len) hc hn (T := min len 79) (by omega) (min len 79 + 1) 0 0 rd _ rfl (by omega) (by omega) rfl
    rw [← er] at s1 s2 s3
    rw [Nat.sub_zero] at s1 s2 s3
    have gl := (fbD_le (fun p => gmB len c p n) (min len 79) 0).2
    have gd := fbD_good (fun p => gmB len c p n) (min len 79) 0
    generalize fbD (fun p => gmB len c p n) (min len 79) 0 = P at *
    rw [f1]
    constructor
    · rintro ⟨a1, a2⟩
      have a3 := of_decide_eq_true a2
      have eP : P = len := by omega
      have e2 : r.1 = true := by rw [s2]; exact decide_eq_true (by omega)
      refine ⟨?_, by rw [s3, eP]; omega, a3.2, by omega, fun j hj => ?_⟩
      · unfold ftV
        rw [if_neg (by omega), if_pos ⟨e2, by omega⟩]
        decide
      · have g0 := gd (4 * j) (Nat.zero_le _) (by omega)
        have g1 := gd (4 * j + 1) (Nat.zero_le _) (by omega)
        have g2 := gd (4 * j + 2) (Nat.zero_le _) (by omega)
        rw [gm_0 hn (by omega) (by omega)] at g0
        have h0 := of_decide_eq_true g0
        rw [gm_1 hn (by omega) (by omega) h0] at g1
        have h1 := of_decide_eq_true g1
        rw [gm_2 (T := min len 79) (by omega) (by omega) (by omega)] at g2
        have h2 := of_decide_eq_true g2
        exact ⟨h0.1, h0.2, h1.1.1, h1.1.2, fun z => h1.2 z.symm, h2⟩
    · intro hno
      have hno' : ¬ (P = min len 79 ∧ decide ((len = 0 ∨ len % 4 = 3) ∧ len ≤ 79) = true) := hno
      rw [if_neg hno'] at fD
      rw [fD]
      have hv : ftV len 79 r.1 r.2.1 (min len 79) = -1 - nI P := by
        unfold ftV
        rw [s1, s2]
        by_cases q : P = min len 79
        · have q2 : ¬ ((len = 0 ∨ len % 4 = 3) ∧ len ≤ 79) := fun z => hno' ⟨q, decide_eq_true z⟩
          by_cases q3 : 79 < len
          · rw [if_pos ⟨q3, Or.inr (by omega)⟩, show P = 79 by omega]
          · rw [if_neg (fun z => q3 z.1), if_neg (fun z => q2 ⟨Or.inr (by have := of_decide_eq_true z.1; omega), by omega⟩)]
        · rw [if_neg (fun z => by rcases z.2 with w | w <;> omega), if_neg (fun z => q z.2)]
      rw [hv]
      exact ⟨ft_neg (by omega), rfl⟩
/-- the meetings told: alike -/
theorem me_rel {now : Nat → Int32} {t : cTold} (hr : relT t now) {T : Nat} (hT : T ≤ len) (hl : len ≤ 80) : ∀ M, (∀ j, j < M → 4 * j + 2 < T ∧ 48 ≤ c (4 * j) ∧ c (4 * j) - 48 < t.1 ∧ 48 ≤ c (4 * j + 1) ∧ c (4 * j + 1) - 48 < t.1 ∧ ¬ c (4 * j) - 48 = c (4 * j + 1) - 48 ∧ toI wdS 3 c (4 * j + 2) T < 3) → relT (itr (mtF (len, c)) t M) (itr (meF c T) now M) ∧ (itr (mtF (len, c)) t M).1 = t.1 := by
  intro M
  induction M with
  | zero => exact fun _ => ⟨hr, rfl⟩
  | succ M ih =>
    intro h
    obtain ⟨i1, i2⟩ := ih (fun j hj => h j (by omega))
    obtain ⟨h0, h1, h2, h3, h4, h5, h6⟩ := h M (by omega)
    rw [itr_s, itr_s]
    generalize itr (mtF (len, c)) t M = t' at *
    generalize itr (meF c T) now M = now' at *
    have hn : t.1 ≤ 7 := hr.1.1
    have d1 : dgV len c (4 * M) = nI (c (4 * M) - 48) := if_pos ⟨by omega, h1, by omega⟩
    have d2 : dgV len c (4 * M + 1) = nI (c (4 * M + 1) - 48) := if_pos ⟨by omega, h3, by omega⟩
    have d3 : tbV len c (4 * M + 2) = nI (toI wdS 3 c (4 * M + 2) T) := by rw [tb_v (T := T) (by omega) h0, if_pos h6]
    have e1 : mtF (len, c) M t' = (tellO t' (nI (c (4 * M) - 48)) (nI (c (4 * M + 1) - 48)) (nI (toI wdS 3 c (4 * M + 2) T))).2 := by
      unfold mtF
      simp only
      rw [d1, d2, d3]
    obtain ⟨-, q2⟩ := tell_eq i1 (i := c (4 * M) - 48) (j := c (4 * M + 1) - 48) (v := toI wdS 3 c (4 * M + 2) T) (by omega) (by omega) (by omega)
    rw [e1]
    have e2 : (tlN now' t'.1 (c (4 * M) - 48) (c (4 * M + 1) - 48) (toI wdS 3 c (4 * M + 2) T)).2 = meF c T M now' := by
      unfold tlN meF
      rw [i2, if_pos ⟨h2, h4, h5, by omega⟩]
    rw [e2] at q2
    refine ⟨q2, ?_⟩
    rw [← i2]
    unfold tellO
    split
    · split <;> rfl
    · rfl
end N33

