/-! the abstract machine: cells by name; a reference is a name, tr says where it lies; names from 1000 on are the static cells -/
abbrev zE : Type := (Nat × vp_A) ⊕ (Nat × List Value)
abbrev zU : Type := Nat × Nat × Nat
abbrev zH : Type := (Nat → zE) × zU
abbrev zS : Type := List Value × List Value × zH
abbrev zX : Type := Nat × Nat × Nat × Value × List (Int × Nat)
abbrev zM : Type := MethodName × Nat × ByteArray × Nat × Option FieldType × List (Nat × Instr × Nat × zX)
abbrev zI (t N : Nat) (f : Nat → Int32) : zE := .inl (t, N, .inl f)
abbrev zJ (N : Nat) (f : Nat → Int64) : zE := .inl (1, N, .inr (.inl f))
abbrev zO (c : Nat) (fs : List Value) : zE := .inr (c, fs)
def z_v (tr : Nat → Nat) (v : Value) : Value := match v with
  | .ref k => .ref (tr k)
  | w => w
def z_e (cA : Nat → ClassId) (tr : Nat → Nat) (e : zE) : va_E := match e with
  | .inl a => .inl (cA a.1, a.2)
  | .inr o => .inr (o.1, o.2.map (z_v tr))
def zw (cA : Nat → ClassId) (tr : Nat → Nat) (h : Nat → zE) (n : Nat) : va_W := (List.range n).map (fun k => (tr k, z_e cA tr (h k)))
def z_up {α : Type} (f : Nat → α) (k : Nat) (v : α) : Nat → α := fun j => if j = k then v else f j
theorem z_up_s {α : Type} (f : Nat → α) (k : Nat) (v : α) : z_up f k v k = v := if_pos rfl
theorem z_up_n {α : Type} (f : Nat → α) {k j : Nat} (v : α) (h : j ≠ k) : z_up f k v j = f j := if_neg h
def z_ty (t : Nat) : FieldType := match t with
  | 0 => .int
  | 1 => .long
  | 2 => .byte
  | 3 => .char
  | _ => .boolean
def z_tys (cA : Nat → ClassId) : List (ClassId × FieldType) := [(cA 0, .int), (cA 1, .long), (cA 2, .byte), (cA 3, .char), (cA 4, .boolean)]
def zT : List Cond := lw_tbl.filter goodWord
theorem z_T_in {w : Cond} {i : Nat} (h : lw_tbl[i]? = some w) (hg : goodWord w = true) : w ∈ zT := List.mem_filter.mpr ⟨List.mem_of_getElem? h, hg⟩
theorem z_T_good {ws : List Cond} (hs : ∀ w ∈ ws, w ∈ zT) : GoodIn zT ws := fun w hw => ⟨hs w hw, good_of_word (List.mem_filter.mp (hs w hw)).2⟩
/-! the words of nest mates' links, which are kept apart (they are no good words) -/
def zNq (w : Cond) : Bool := match w with
  | .fieldLinkNest .. => true
  | .methodLinkNest .. => true
  | _ => false
def zN : List Cond := lw_tbl.filter zNq
theorem z_N_in {w : Cond} {i : Nat} (h : lw_tbl[i]? = some w) (hg : zNq w = true) : w ∈ zN := List.mem_filter.mpr ⟨List.mem_of_getElem? h, hg⟩
def zNs (U : State) : Prop := ∀ w ∈ zN, va_Nw w U
theorem zNs.warm {s U : State} (hW : s.WarmedH U.vm) (h : zNs s) : zNs U := by
  intro w hw
  have h1 := h w hw
  have h2 := (List.mem_filter.mp hw).2
  cases w <;> first | (exact va_Nw.warmF hW h1) | (exact va_Nw.warmM hW h1) | (cases h2)
theorem zw_get (cA : Nat → ClassId) (tr : Nat → Nat) (h : Nat → zE) (n k : Nat) : (zw cA tr h n)[k]? = if k < n then some (tr k, z_e cA tr (h k)) else none := by
  unfold zw
  rw [List.getElem?_map]
  by_cases hk : k < n
  · rw [List.getElem?_range hk, if_pos hk]; rfl
  · rw [List.getElem?_eq_none (by rw [List.length_range]; omega), if_neg hk]; rfl
theorem zw_at {cA : Nat → ClassId} {tr : Nat → Nat} {h : Nat → zE} {n k : Nat} (hk : k < n) : (zw cA tr h n)[k]? = some (tr k, z_e cA tr (h k)) := by rw [zw_get, if_pos hk]
theorem zw_at' {cA : Nat → ClassId} {tr : Nat → Nat} {h : Nat → zE} {n k : Nat} {e : zE} (hk : k < n) (he : h k = e) : (zw cA tr h n)[k]? = some (tr k, z_e cA tr e) := by rw [zw_at hk, he]
theorem zw_len (cA : Nat → ClassId) (tr : Nat → Nat) (h : Nat → zE) (n : Nat) : (zw cA tr h n).length = n := by simp [zw]
theorem zw_set (cA : Nat → ClassId) (tr : Nat → Nat) (h : Nat → zE) (n : Nat) {k : Nat} (e : zE) (hk : k < n) : (zw cA tr h n).set k (tr k, z_e cA tr e) = zw cA tr (z_up h k e) n := by
  apply List.ext_getElem?
  intro j
  rw [List.getElem?_set, zw_get, zw_get, zw_len]
  by_cases hj : k = j
  · subst hj
    simp [hk, z_up]
  · have hj2 : ¬ j = k := fun q => hj q.symm
    simp [hj, hj2, z_up]
theorem zw_push (cA : Nat → ClassId) (tr tr' : Nat → Nat) (h : Nat → zE) (n : Nat) (e : zE) (q : Nat) (h1 : ∀ k, k < n → tr' k = tr k) (h2 : tr' n = q) (h3 : ∀ k, k < n → z_e cA tr' (h k) = z_e cA tr (h k)) : zw cA tr' (z_up h n e) (n + 1) = zw cA tr h n ++ [(q, z_e cA tr' e)] := by
  unfold zw
  rw [List.range_succ, List.map_append]
  congr 1
  · apply List.map_congr_left
    intro k hk
    have hk : k < n := List.mem_range.mp hk
    rw [h1 k hk, z_up_n h e (by omega), h3 k hk]
  · simp [z_up, h2]
/-! which references stand for cells that are there -/
def zok (n : Nat) (v : Value) : Prop := match v with
  | .ref k => k < n ∨ 1000 ≤ k
  | _ => True
def zokE (n : Nat) (e : zE) : Prop := match e with
  | .inl _ => True
  | .inr o => o.1 < 100 ∧ ∀ v ∈ o.2, zok n v
def zwH (H : zH) : Prop := H.2.1 ≤ 1000 ∧ ∀ k, k < H.2.1 → zokE H.2.1 (H.1 k)
def zwf (S : zS) : Prop := (∀ v ∈ S.1, zok S.2.2.2.1 v) ∧ (∀ v ∈ S.2.1, zok S.2.2.2.1 v) ∧ zwH S.2.2
theorem zok.mono {n n' : Nat} {v : Value} (h : n ≤ n') (hv : zok n v) : zok n' v := by
  cases v with
  | ref k => exact Or.imp (fun q => Nat.lt_of_lt_of_le q h) id hv
  | _ => trivial
theorem zokE.mono {n n' : Nat} {e : zE} (h : n ≤ n') (he : zokE n e) : zokE n' e := by
  cases e with
  | inl a => trivial
  | inr o => exact ⟨he.1, fun v hv => (he.2 v hv).mono h⟩
theorem z_v_same {n : Nat} {tr tr' : Nat → Nat} {v : Value} (hv : zok n v) (h : ∀ k, k < n ∨ 1000 ≤ k → tr' k = tr k) : z_v tr' v = z_v tr v := by
  cases v <;> first | rfl | (simp only [z_v, h _ hv])
theorem z_map_same {n : Nat} {tr tr' : Nat → Nat} {l : List Value} (hv : ∀ v ∈ l, zok n v) (h : ∀ k, k < n ∨ 1000 ≤ k → tr' k = tr k) : l.map (z_v tr') = l.map (z_v tr) := List.map_congr_left fun v q => z_v_same (hv v q) h
theorem z_e_same {n : Nat} {cA : Nat → ClassId} {tr tr' : Nat → Nat} {e : zE} (hv : zokE n e) (h : ∀ k, k < n ∨ 1000 ≤ k → tr' k = tr k) : z_e cA tr' e = z_e cA tr e := by
  cases e with
  | inl a => rfl
  | inr o => simp only [z_e, z_map_same (l := o.2) hv.2 h]
theorem z_v_cat (tr : Nat → Nat) (v : Value) : (z_v tr v).category = v.category := by cases v <;> rfl
theorem z_v_null {tr : Nat → Nat} {v : Value} (h : z_v tr v = .null) : v = .null := by cases v <;> first | rfl | (cases h)
/-! locals: by place; null stands for what isn't known -/
def zl (tr : Nat → Nat) (L : List Value) : List (Nat × Value) := (List.range L.length).filterMap (fun i => match (L[i]? : Option Value) with
  | some Value.null => none
  | some v => some (i, z_v tr v)
  | none => none)
theorem zl_mem {tr : Nat → Nat} {L : List Value} {q : Nat × Value} : q ∈ zl tr L ↔ ∃ v, L[q.1]? = some v ∧ v ≠ .null ∧ q.2 = z_v tr v := by
  unfold zl
  rw [List.mem_filterMap]
  constructor
  · rintro ⟨i, hi, h⟩
    cases hv : L[i]? with
    | none => rw [hv] at h; cases h
    | some v =>
      rw [hv] at h
      cases v <;> first | (cases h; done) | (cases h; exact ⟨_, hv, by simp, rfl⟩)
  · rintro ⟨v, h1, h2, h3⟩
    refine ⟨q.1, List.mem_range.mpr (List.getElem?_eq_some_iff.mp h1).1, ?_⟩
    rw [h1]
    obtain ⟨a, b⟩ := q
    cases v <;> first | (exact absurd rfl h2) | (cases h3; rfl)
theorem zl_same {n : Nat} {tr tr' : Nat → Nat} {L : List Value} (hv : ∀ v ∈ L, zok n v) (h : ∀ k, k < n ∨ 1000 ≤ k → tr' k = tr k) {ls : Array Slot} {nL : Nat} (hl : lv_has ls nL (zl tr L)) : lv_has ls nL (zl tr' L) := by
  refine ⟨hl.1, hl.2.1, fun q hq => hl.2.2 q ?_⟩
  obtain ⟨v, h1, h2, h3⟩ := zl_mem.mp hq
  exact zl_mem.mpr ⟨v, h1, h2, by rw [h3]; exact z_v_same (hv v (List.mem_of_getElem? h1)) h⟩
theorem zl_at {tr : Nat → Nat} {L : List Value} {ls : Array Slot} {nL i : Nat} {v : Value} (hl : lv_has ls nL (zl tr L)) (h : L[i]? = some v) (hn : v ≠ .null) : ls[i]? = some (.val (z_v tr v)) := hl.2.2 (i, z_v tr v) (zl_mem.mpr ⟨v, h, hn, rfl⟩)
theorem zl_sub {ls : Array Slot} {nL : Nat} {l l' : List (Nat × Value)} (h : lv_has ls nL l) (hs : ∀ q ∈ l', q ∈ l) : lv_has ls nL l' := ⟨h.1, h.2.1, fun q hq => h.2.2 q (hs q hq)⟩
def z_cut (L : List Value) (i : Nat) : List Value := match i with
  | 0 => L
  | j + 1 => match L[j]? with
    | some (.long _) => L.set j .null
    | some (.double _) => L.set j .null
    | _ => L
def z_set (L : List Value) (i : Nat) (v : Value) : List Value := (z_cut L i).set i v
def z_set2 (L : List Value) (i : Nat) (v : Value) : List Value := ((z_cut L i).set i v).set (i + 1) .null
theorem z_cut_get {L : List Value} {i j : Nat} {w : Value} (h : (z_cut L i)[j]? = some w) (hw : w ≠ .null) : L[j]? = some w ∧ (j + 1 = i → w.category ≠ 2) := by
  cases i with
  | zero => exact ⟨h, fun q => by omega⟩
  | succ k =>
    by_cases hj : j = k
    · subst hj
      simp only [z_cut] at h
      cases hv : L[j]? with
      | none => rw [hv] at h; simp only at h; rw [hv] at h; cases h
      | some v =>
        rw [hv] at h
        have hl := (List.getElem?_eq_some_iff.mp hv).1
        cases v <;> simp only at h <;> first
          | (rw [List.getElem?_set_self hl] at h; cases h; exact absurd rfl hw)
          | (rw [hv] at h; cases h; exact ⟨rfl, fun _ => by simp [Value.category]⟩)
    · refine ⟨?_, fun q => by omega⟩
      simp only [z_cut] at h
      cases hv : L[k]? with
      | none => rw [hv] at h; exact h
      | some v =>
        rw [hv] at h
        cases v <;> simp only at h <;> first
          | (rw [List.getElem?_set_ne (by omega)] at h; exact h)
          | exact h
theorem z_cut_len (L : List Value) (i : Nat) : (z_cut L i).length = L.length := by
  unfold z_cut
  cases i with
  | zero => rfl
  | succ k => simp only; split <;> simp
theorem zl_set {tr : Nat → Nat} {L : List Value} {i : Nat} {v : Value} : ∀ q ∈ zl tr (z_set L i v), q ∈ (i, z_v tr v) :: (zl tr L).filter (fun q => !(q.1 == i) && !(q.1 + 1 == i && q.2.category == 2)) := by
  intro q hq
  obtain ⟨w, h1, h2, h3⟩ := zl_mem.mp hq
  unfold z_set at h1
  by_cases hi : i = q.1
  · subst hi
    have hl : q.1 < (z_cut L q.1).length := by
      have := (List.getElem?_eq_some_iff.mp h1).1
      rwa [List.length_set] at this
    rw [List.getElem?_set_self hl] at h1
    cases h1
    rw [← h3]
    exact List.mem_cons_self
  · rw [List.getElem?_set_ne hi] at h1
    obtain ⟨h4, h5⟩ := z_cut_get h1 h2
    refine List.mem_cons_of_mem _ (List.mem_filter.mpr ⟨zl_mem.mpr ⟨w, h4, h2, h3⟩, ?_⟩)
    rw [h3, z_v_cat]
    have hi2 : ¬ q.1 = i := fun z => hi z.symm
    by_cases h6 : q.1 + 1 = i
    · simp [hi2, h6, h5 h6]
    · simp [hi2, h6]
theorem zl_set2 {tr : Nat → Nat} {L : List Value} {i : Nat} {v : Value} : ∀ q ∈ zl tr (z_set2 L i v), q ∈ (i, z_v tr v) :: (zl tr L).filter (fun q => !(q.1 == i) && (!(q.1 == i + 1) && !(q.1 + 1 == i && q.2.category == 2))) := by
  intro q hq
  obtain ⟨w, h1, h2, h3⟩ := zl_mem.mp hq
  unfold z_set2 at h1
  have hne : ¬ i + 1 = q.1 := by
    intro z
    rw [z] at h1
    rw [List.getElem?_set_self (by have := (List.getElem?_eq_some_iff.mp h1).1; rwa [List.length_set] at this)] at h1
    cases h1
    exact h2 rfl
  rw [List.getElem?_set_ne hne] at h1
  by_cases hi : i = q.1
  · subst hi
    have hl : q.1 < (z_cut L q.1).length := by
      have := (List.getElem?_eq_some_iff.mp h1).1
      rwa [List.length_set] at this
    rw [List.getElem?_set_self hl] at h1
    cases h1
    rw [← h3]
    exact List.mem_cons_self
  · rw [List.getElem?_set_ne hi] at h1
    obtain ⟨h4, h5⟩ := z_cut_get h1 h2
    refine List.mem_cons_of_mem _ (List.mem_filter.mpr ⟨zl_mem.mpr ⟨w, h4, h2, h3⟩, ?_⟩)
    rw [h3, z_v_cat]
    have hi2 : ¬ q.1 = i := fun z => hi z.symm
    have hi3 : ¬ q.1 = i + 1 := fun z => hne z.symm
    by_cases h6 : q.1 + 1 = i
    · simp [hi2, h6, hi3, h5 h6]
    · simp [hi2, h6, hi3]
