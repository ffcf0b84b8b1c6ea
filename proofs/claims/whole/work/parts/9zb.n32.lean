/-! texts of guests, on both sides -/
/-- the first place that can't stand there, or the end -/
def fbD (g : Nat → Bool) : Nat → Nat → Nat
  | 0, o => o
  | k + 1, o => if g o then fbD g k (o + 1) else o
theorem fbD_le (g : Nat → Bool) : ∀ k o, o ≤ fbD g k o ∧ fbD g k o ≤ o + k := by
  intro k
  induction k with
  | zero => intro o; exact ⟨Nat.le_refl _, Nat.le_refl _⟩
  | succ k ih =>
    intro o
    show o ≤ (if g o then fbD g k (o + 1) else o) ∧ (if g o then fbD g k (o + 1) else o) ≤ o + (k + 1)
    split
    · have := ih (o + 1); omega
    · omega
theorem fbD_fb (g : Nat → Bool) : ∀ k o, firstBad g k o = if fbD g k o = o + k then none else some (fbD g k o) := by
  intro k
  induction k with
  | zero => intro o; exact (if_pos rfl).symm
  | succ k ih =>
    intro o
    show (if g o then firstBad g k (o + 1) else some o) = if (if g o then fbD g k (o + 1) else o) = o + (k + 1) then none else some (if g o then fbD g k (o + 1) else o)
    by_cases c : g o = true
    · rw [if_pos c, if_pos c, ih, show o + 1 + k = o + (k + 1) by omega]
    · rw [if_neg c, if_neg c, if_neg (by omega)]
theorem fbD_good (g : Nat → Bool) : ∀ k o j, o ≤ j → j < fbD g k o → g j = true := by
  intro k
  induction k with
  | zero => intro o j h1 h2; exact absurd h2 (by show ¬ j < o; omega)
  | succ k ih =>
    intro o j h1 h2
    have e : fbD g (k + 1) o = if g o then fbD g k (o + 1) else o := rfl
    rw [e] at h2
    by_cases c : g o = true
    · rw [if_pos c] at h2
      by_cases e2 : j = o
      · rw [e2]; exact c
      · exact ih (o + 1) j (by omega) h2
    · rw [if_neg c] at h2; omega
/-- a fault as the class tells it -/
theorem flt_D (g : Nat → Bool) (T : Nat) (fine : Bool) : fltV (firstBad g T 0) T fine = if fbD g T 0 = T ∧ fine = true then -1 else nI (fbD g T 0) := by
  rw [fbD_fb, Nat.zero_add]
  by_cases c : fbD g T 0 = T
  · rw [if_pos c]
    show (if fine = true then (-1 : Int32) else nI T) = _
    by_cases c2 : fine = true
    · rw [if_pos c2, if_pos ⟨c, c2⟩]
    · rw [if_neg c2, if_neg (fun z => c2 z.2), c]
  · rw [if_neg c, if_neg (fun z => c z.1)]
    rfl
theorem flt_1 {g : Nat → Bool} {T : Nat} (hT : T ≤ 80) {fine : Bool} : (fltV (firstBad g T 0) T fine = -1) = (fbD g T 0 = T ∧ fine = true) := by
  rw [flt_D]
  have := (fbD_le g T 0).2
  by_cases c : fbD g T 0 = T ∧ fine = true
  · rw [if_pos c]; exact propext ⟨fun _ => c, fun _ => rfl⟩
  · rw [if_neg c]
    have hz : ∀ x, x < 81 → ¬ nI x = -1 := by decide +kernel
    exact propext ⟨fun q => absurd q (hz _ (by omega)), fun q => absurd q c⟩
section N32
variable {n g len : Nat} {c : Nat → Nat} {rd : Nat → Int32}
theorem at_v {len : Nat} {c : Nat → Nat} {p x : Nat} (hc : ∀ i, c i < 256) (hp : p < len) (hx : x < 1000) : (atV len c p = nI x) = (c p = x) := by
  unfold atV
  rw [if_pos hp]
  exact nI_eqI (by have := hc p; omega) (by omega)
theorem dg_v {len : Nat} {c : Nat → Nat} {p : Nat} (hc : ∀ i, c i < 256) (hp : p < len) : (¬ dgV len c p < 0) = (48 ≤ c p ∧ c p ≤ 57) := by
  unfold dgV
  by_cases q : 48 ≤ c p ∧ c p ≤ 57
  · rw [if_pos ⟨hp, q⟩]
    exact propext ⟨fun _ => q, fun _ => nI_pos (by omega)⟩
  · rw [if_neg (fun z => q z.2)]
    exact propext ⟨fun z => absurd (by decide) z, fun z => absurd z q⟩
theorem gg_0 (hc : ∀ i, c i < 256) {p m : Nat} (hp : p < len) (e : p = 2 * m) (hg : g ≤ 7) : ggB len c (7 - g) p = decide (g + m < 7 ∧ 48 ≤ c p ∧ c p ≤ 57) := by
  unfold ggB
  rw [if_neg (by omega)]
  simp only [dg_v hc hp]
  rw [← Bool.decide_and]
  congr 1
  apply propext
  rw [show p / 2 = m by omega]
  constructor
  · rintro ⟨a, b⟩; exact ⟨by omega, b⟩
  · rintro ⟨a, b⟩; exact ⟨by omega, b⟩
theorem gg_1 (hc : ∀ i, c i < 256) {p m : Nat} (hp : p < len) (e : p = 2 * m + 1) {fr : Nat} : ggB len c fr p = decide (c p = 59) := by
  unfold ggB
  rw [if_pos (by omega)]
  congr 1
  exact at_v (x := 59) hc hp (by decide)
/-- what the model reads -/
theorem gs_spec (hc : ∀ i, c i < 256) (hg : g ≤ 7) {T : Nat} (hT : T ≤ len) : ∀ f p m rd P, p = 2 * m → p ≤ T → T + 1 ≤ p + f → g + m ≤ 7 → fbD (ggB len c (7 - g)) (T - p) p = P → (gsR c T g f p m rd).2.1 = P ∧ (gsR c T g f p m rd).1 = decide (P % 2 = 1) ∧ (gsR c T g f p m rd).2.2.1 = (P + 1) / 2 ∧ (∀ j, j < m → (gsR c T g f p m rd).2.2.2 j = rd j) ∧ ∀ j, m ≤ j → j < (P + 1) / 2 → (gsR c T g f p m rd).2.2.2 j = nI (c (2 * j) - 48) := by
  intro f
  induction f with
  | zero => intro p m rd P _ hp h; omega
  | succ f ih =>
    intro p m rd P e hp hf hm hP
    have eR : gsR c T g (f + 1) p m rd = if g + m < 7 ∧ dgN c p T = true then (if tkN c (p + 1) T 59 = true then gsR c T g f (p + 2) (m + 1) (upd rd m (nI (c p - 48))) else (true, p + 1, m + 1, upd rd m (nI (c p - 48)))) else (false, p, m, upd rd m (-1)) := rfl
    rw [eR]
    have eF : ∀ o k, fbD (ggB len c (7 - g)) (k + 1) o = if ggB len c (7 - g) o then fbD (ggB len c (7 - g)) k (o + 1) else o := fun _ _ => rfl
    by_cases c0 : p < T
    · have gp := gg_0 (g := g) hc (p := p) (m := m) (show p < len by omega) e hg
      rw [show T - p = (T - p - 1) + 1 by omega, eF] at hP
      by_cases c1 : g + m < 7 ∧ 48 ≤ c p ∧ c p ≤ 57
      · rw [if_pos (⟨c1.1, by unfold dgN; exact decide_eq_true ⟨c0, c1.2⟩⟩ : g + m < 7 ∧ dgN c p T = true)]
        rw [gp, decide_eq_true c1, if_pos rfl] at hP
        by_cases c2 : p + 1 < T
        · have gq := gg_1 (len := len) hc (p := p + 1) (m := m) (show p + 1 < len by omega) (by omega) (fr := 7 - g)
          rw [show T - p - 1 = (T - (p + 2)) + 1 by omega, eF, gq] at hP
          by_cases c3 : c (p + 1) = 59
          · rw [if_pos (by unfold tkN; exact decide_eq_true ⟨c2, c3⟩)]
            rw [decide_eq_true c3, if_pos rfl] at hP
            obtain ⟨a1, a2, a3, a4, a5⟩ := ih (p + 2) (m + 1) (upd rd m (nI (c p - 48))) P (by omega) (by omega) (by omega) (by omega) hP
            refine ⟨a1, a2, a3, fun j hj => ?_, fun j h1 h2 => ?_⟩
            · rw [a4 j (by omega)]
              exact if_neg (by omega)
            · by_cases ej : j = m
              · subst ej
                rw [a4 j (by omega), upd_s, e]
              · exact a5 j (by omega) h2
          · rw [if_neg (by unfold tkN; exact fun z => c3 (of_decide_eq_true z).2)]
            rw [decide_eq_false c3, if_neg (by decide)] at hP
            subst hP
            refine ⟨rfl, by rw [decide_eq_true (by omega)], by show m + 1 = _; omega, fun j hj => if_neg (by omega), fun j h1 h2 => ?_⟩
            have ej : j = m := by omega
            subst ej
            show upd rd j _ j = _
            rw [upd_s, e]
        · rw [if_neg (by unfold tkN; exact fun z => c2 (of_decide_eq_true z).1)]
          rw [show T - p - 1 = 0 by omega] at hP
          have hP' : p + 1 = P := hP
          subst hP'
          refine ⟨rfl, by rw [decide_eq_true (by omega)], by show m + 1 = _; omega, fun j hj => if_neg (by omega), fun j h1 h2 => ?_⟩
          have ej : j = m := by omega
          subst ej
          show upd rd j _ j = _
          rw [upd_s, e]
      · rw [if_neg (fun z => c1 ⟨z.1, by have := z.2; unfold dgN at this; exact (of_decide_eq_true this).2⟩)]
        rw [gp, decide_eq_false c1, if_neg (by decide)] at hP
        subst hP
        refine ⟨rfl, by rw [decide_eq_false (by omega)], by show m = _; omega, fun j hj => if_neg (by omega), fun j h1 h2 => by omega⟩
    · rw [if_neg (fun z => c0 (by have := z.2; unfold dgN at this; exact (of_decide_eq_true this).1))]
      rw [show T - p = 0 by omega] at hP
      have hP' : p = P := hP
      subst hP'
      refine ⟨rfl, by rw [decide_eq_false (by omega)], by show m = _; omega, fun j hj => if_neg (by omega), fun j h1 h2 => by omega⟩
theorem ft_neg {x : Nat} (hx : x ≤ 80) : (-1 - nI x : Int32) < 0 := by
  revert x
  have : ∀ x, x < 81 → (-1 - nI x : Int32) < 0 := by decide +kernel
  exact fun {x} hx => this x (by omega)
/-- a text of guests: the fault, or how many and which rooms -/
theorem gs_eq (hc : ∀ i, c i < 256) (hl : len ≤ 80) (hg : g ≤ 7) {r : Bool × Nat × Nat × (Nat → Int32)} (hr : gsS c len g rd = r) : (fgV len c (7 - g) = -1 → ¬ ftV len 13 r.1 r.2.1 (min len 13) < 0 ∧ r.2.2.1 = (len + 1) / 2 ∧ g + (len + 1) / 2 ≤ 7 ∧ ∀ j, j < (len + 1) / 2 → r.2.2.2 j = nI (c (2 * j) - 48) ∧ c (2 * j) - 48 ≤ 9) ∧ (¬ fgV len c (7 - g) = -1 → ftV len 13 r.1 r.2.1 (min len 13) < 0 ∧ ftV len 13 r.1 r.2.1 (min len 13) = -1 - fgV len c (7 - g)) := by
  have hb := gsS_b (sg := c) (len := len) (rd := rd) hg
  rw [hr] at hb
  have f1 := flt_1 (g := ggB len c (7 - g)) (T := min len 13) (by omega) (fine := decide ((len = 0 ∨ len % 2 = 1) ∧ len ≤ 13))
  have fD := flt_D (ggB len c (7 - g)) (min len 13) (decide ((len = 0 ∨ len % 2 = 1) ∧ len ≤ 13))
  rw [show fltV (firstBad (ggB len c (7 - g)) (min len 13) 0) (min len 13) (decide ((len = 0 ∨ len % 2 = 1) ∧ len ≤ 13)) = fgV len c (7 - g) from rfl] at f1 fD
  by_cases c0 : len = 0
  · subst c0
    have e0 : r = (true, 0, 0, rd) := by rw [← hr]; rfl
    subst e0
    have : fgV 0 c (7 - g) = -1 := by rw [f1]; exact ⟨rfl, by decide⟩
    refine ⟨fun _ => ⟨?_, rfl, by omega, fun j hj => by omega⟩, fun z => absurd this z⟩
    unfold ftV
    rw [if_neg (by omega), if_pos ⟨rfl, rfl⟩]
    decide
  · have er : r = gsR c (min len 13) g (min len 13 + 1) 0 0 rd := by rw [← hr]; unfold gsS; rw [if_neg c0]
    obtain ⟨s1, s2, s3, s4, s5⟩ := gs_spec (len := len) hc hg (T := min len 13) (by omega) (min len 13 + 1) 0 0 rd _ rfl (by omega) (by omega) (by omega) rfl
    rw [← er] at s1 s2 s3 s4 s5
    rw [Nat.sub_zero] at s1 s2 s3 s5
    have gl := (fbD_le (ggB len c (7 - g)) (min len 13) 0).2
    have gd := fbD_good (ggB len c (7 - g)) (min len 13) 0
    generalize fbD (ggB len c (7 - g)) (min len 13) 0 = P at *
    rw [f1]
    constructor
    · rintro ⟨a1, a2⟩
      have a3 := of_decide_eq_true a2
      have eP : P = len := by omega
      have e2 : r.1 = true := by rw [s2]; exact decide_eq_true (by omega)
      refine ⟨?_, by rw [s3, eP], by rw [s3, eP] at hb; exact hb.2, fun j hj => ⟨by exact s5 j (Nat.zero_le j) (by omega), ?_⟩⟩
      · unfold ftV
        rw [if_neg (by omega), if_pos ⟨e2, by omega⟩]
        decide
      · have := gd (2 * j) (Nat.zero_le _) (by omega)
        rw [gg_0 (g := g) hc (m := j) (show 2 * j < len by omega) rfl hg] at this
        have := of_decide_eq_true this
        omega
    · intro hno
      have hno' : ¬ (P = min len 13 ∧ decide ((len = 0 ∨ len % 2 = 1) ∧ len ≤ 13) = true) := hno
      rw [if_neg hno'] at fD
      rw [fD]
      have hv : ftV len 13 r.1 r.2.1 (min len 13) = -1 - nI P := by
        unfold ftV
        rw [s1, s2]
        by_cases q : P = min len 13
        · have q2 : ¬ ((len = 0 ∨ len % 2 = 1) ∧ len ≤ 13) := fun z => hno' ⟨q, decide_eq_true z⟩
          by_cases q3 : 13 < len
          · rw [if_pos ⟨q3, Or.inr (by omega)⟩, show P = 13 by omega]
          · rw [if_neg (fun z => q3 z.1), if_neg (fun z => q2 ⟨Or.inr (by have := of_decide_eq_true z.1; omega), by omega⟩)]
        · rw [if_neg (fun z => by rcases z.2 with w | w <;> omega), if_neg (fun z => q z.2)]
      rw [hv]
      exact ⟨ft_neg (by omega), rfl⟩
end N32

