/-! names moved down by one: the machine does not see it (name 0 stands for no cell) -/
def sh_k (k : Nat) : Nat := if k < 1000 then k - 1 else k
def sh_v (v : Value) : Value := match v with
  | .ref k => .ref (sh_k k)
  | w => w
def sh_e (e : zE) : zE := match e with
  | .inl a => .inl a
  | .inr o => .inr (o.1, o.2.map sh_v)
def sh_h (h : Nat → zE) : Nat → zE := fun k => sh_e (h (k + 1))
def sh_H (H : zH) : zH := (sh_h H.1, (H.2.1 - 1, H.2.2.1, H.2.2.2))
def sh_S (S : zS) : zS := (S.1.map sh_v, S.2.1.map sh_v, sh_H S.2.2)
def sh_r (r : zR) : zR := (r.1.map sh_v, sh_H r.2)
def yok (n : Nat) (v : Value) : Prop := match v with
  | .ref k => (0 < k ∧ k < n) ∨ 1000 ≤ k
  | _ => True
def yokE (n : Nat) (e : zE) : Prop := match e with
  | .inl _ => True
  | .inr o => o.1 < 100 ∧ ∀ v ∈ o.2, yok n v
def yH (H : zH) : Prop := 0 < H.2.1 ∧ H.2.1 ≤ 1000 ∧ ∀ k, 0 < k → k < H.2.1 → yokE H.2.1 (H.1 k)
def ySt (S : zS) : Prop := (∀ v ∈ S.1, yok S.2.2.2.1 v) ∧ (∀ v ∈ S.2.1, yok S.2.2.2.1 v) ∧ yH S.2.2
theorem yok.mono {n n' : Nat} {v : Value} (h : n ≤ n') (hv : yok n v) : yok n' v := by
  cases v with
  | ref k => exact Or.imp (fun q => ⟨q.1, Nat.lt_of_lt_of_le q.2 h⟩) id hv
  | _ => trivial
theorem yokE.mono {n n' : Nat} {e : zE} (h : n ≤ n') (he : yokE n e) : yokE n' e := by
  cases e with
  | inl a => trivial
  | inr o => exact ⟨he.1, fun v hv => (he.2 v hv).mono h⟩
theorem yok_z {n : Nat} {v : Value} (h : zok 0 v) : yok n v := by
  cases v with
  | ref k => exact Or.inr (Or.elim h (fun q => absurd q (Nat.not_lt_zero _)) id)
  | _ => trivial
theorem sh_c {v : Value} (h : zok 0 v) : sh_v v = v := by
  cases v with
  | ref k =>
    have hk : 1000 ≤ k := Or.elim h (fun q => absurd q (Nat.not_lt_zero _)) id
    show Value.ref (sh_k k) = Value.ref k
    rw [sh_k, if_neg (Nat.not_lt.mpr hk)]
  | _ => rfl
theorem sh_sE (a : Nat) : sh_e (z_sE a) = z_sE a := by unfold z_sE; split <;> rfl
theorem sh_at {h : Nat → zE} {a : Nat} (h0 : 0 < a) (h1 : a < 1000) : sh_h h (sh_k a) = sh_e (h a) := by
  unfold sh_h sh_k
  rw [if_pos h1, Nat.sub_add_cancel h0]
theorem sh_cell {h : Nat → zE} {a n : Nat} (hn : n ≤ 1000) (ha : (0 < a ∧ a < n) ∨ 1000 ≤ a) : z_cell (sh_h h) (sh_k a) = sh_e (z_cell h a) := by
  unfold z_cell
  by_cases q : 1000 ≤ a
  · have e : sh_k a = a := by rw [sh_k, if_neg (by omega)]
    rw [e, if_pos q, if_pos q, sh_sE]
  · have e : ¬ 1000 ≤ sh_k a := by unfold sh_k; rw [if_pos (by omega)]; omega
    rw [if_neg q, if_neg e, sh_at (by omega) (by omega)]
theorem sh_up {h : Nat → zE} {a : Nat} {e : zE} (h0 : 0 < a) (h1 : a < 1000) : z_up (sh_h h) (sh_k a) (sh_e e) = sh_h (z_up h a e) := by
  funext j
  have ek : sh_k a = a - 1 := by rw [sh_k, if_pos h1]
  rw [ek]
  by_cases q : j = a - 1
  · subst q
    rw [z_up_s]
    show _ = sh_e (z_up h a e (a - 1 + 1))
    rw [Nat.sub_add_cancel h0, z_up_s]
  · rw [z_up_n _ _ q]
    show sh_e (h (j + 1)) = sh_e (z_up h a e (j + 1))
    rw [z_up_n _ _ (by omega)]
theorem sh_cat (l : List Value) : ((l.map sh_v).map fun v => v.category) = l.map fun v => v.category := by
  rw [List.map_map]
  exact List.map_congr_left fun v _ => by cases v <;> rfl
theorem sh_fit {kd : Nat} {v : Value} (h : zfit kd v) : zfit kd (sh_v v) := by
  unfold zfit at h ⊢
  split at h <;> first | trivial | exact h | exact absurd h id
theorem sh_cut (L : List Value) (i : Nat) : z_cut (L.map sh_v) i = (z_cut L i).map sh_v := by
  cases i with
  | zero => rfl
  | succ j =>
    simp only [z_cut]
    rw [List.getElem?_map]
    cases q : L[j]? with
    | none => simp only [Option.map_none]
    | some v => cases v <;> simp only [Option.map_some, sh_v, List.map_set]
theorem sh_set (L : List Value) (i : Nat) (v : Value) : z_set (L.map sh_v) i (sh_v v) = (z_set L i v).map sh_v := by
  unfold z_set
  rw [sh_cut, List.map_set]
theorem sh_set2 (L : List Value) (i : Nat) (v : Value) : z_set2 (L.map sh_v) i (sh_v v) = (z_set2 L i v).map sh_v := by
  unfold z_set2
  rw [sh_cut, List.map_set, List.map_set]
  rfl
theorem y_cut_ok {n : Nat} {L : List Value} {i : Nat} (hL : ∀ v ∈ L, yok n v) : ∀ v ∈ z_cut L i, yok n v := by
  intro v hv
  unfold z_cut at hv
  split at hv
  · exact hL v hv
  · split at hv
    · rcases List.mem_or_eq_of_mem_set hv with h | rfl
      · exact hL v h
      · trivial
    · rcases List.mem_or_eq_of_mem_set hv with h | rfl
      · exact hL v h
      · trivial
    · exact hL v hv
theorem y_set_ok {n : Nat} {L : List Value} {i : Nat} {w : Value} (hL : ∀ v ∈ L, yok n v) (hw : yok n w) : ∀ v ∈ z_set L i w, yok n v := by
  intro v hv
  rcases List.mem_or_eq_of_mem_set hv with h | rfl
  · exact y_cut_ok hL v h
  · exact hw
theorem y_set2_ok {n : Nat} {L : List Value} {i : Nat} {w : Value} (hL : ∀ v ∈ L, yok n v) (hw : yok n w) : ∀ v ∈ z_set2 L i w, yok n v := by
  intro v hv
  rcases List.mem_or_eq_of_mem_set hv with h | rfl
  · rcases List.mem_or_eq_of_mem_set h with h | rfl
    · exact y_cut_ok hL v h
    · exact hw
  · trivial
def yG (S S' : zS) : Prop := ySt S' ∧ S.2.2.2.1 ≤ S'.2.2.2.1
theorem yg_st {L st st' : List Value} {H : zH} (hw : ySt (L, st, H)) (h : ∀ v ∈ st', yok H.2.1 v) : yG (L, st, H) (L, st', H) := ⟨⟨hw.1, h, hw.2.2⟩, Nat.le_refl _⟩
theorem yg_lo {L L' st st' : List Value} {H : zH} (hw : ySt (L, st, H)) (h : ∀ v ∈ st', yok H.2.1 v) (hL : ∀ v ∈ L', yok H.2.1 v) : yG (L, st, H) (L', st', H) := ⟨⟨hL, h, hw.2.2⟩, Nat.le_refl _⟩
theorem yg_up {L st st' : List Value} {H : zH} {a : Nat} {e : zE} (hw : ySt (L, st, H)) (h : ∀ v ∈ st', yok H.2.1 v) (he : yokE H.2.1 e) : yG (L, st, H) (L, st', (z_up H.1 a e, H.2)) := by
  refine ⟨⟨hw.1, h, hw.2.2.1, hw.2.2.2.1, fun k h0 hk => ?_⟩, Nat.le_refl _⟩
  show yokE H.2.1 (z_up H.1 a e k)
  by_cases q : k = a
  · subst q; rw [z_up_s]; exact he
  · rw [z_up_n _ _ q]; exact hw.2.2.2.2 k h0 hk
theorem yg_new {L st st' : List Value} {h : Nat → zE} {n kc ks j : Nat} {e : zE} (hw : ySt (L, st, (h, (n, kc, ks)))) (hn : n < 1000) (hst : ∀ v ∈ st', yok n v) (he : yokE (n + 1) e) : yG (L, st, (h, (n, kc, ks))) (L, .ref n :: st', (z_up h n e, (n + 1, kc + 1, ks + j))) := by
  have h0 : 0 < n := hw.2.2.1
  refine ⟨⟨fun v hv => (hw.1 v hv).mono (Nat.le_succ n), fun v hv => ?_, Nat.succ_pos n, hn, fun k k0 hk => ?_⟩, Nat.le_succ n⟩
  · rcases List.mem_cons.mp hv with rfl | hv
    · exact Or.inl ⟨h0, Nat.lt_succ_self n⟩
    · exact (hst v hv).mono (Nat.le_succ n)
  · show yokE (n + 1) (z_up h n e k)
    by_cases q : k = n
    · subst q; rw [z_up_s]; exact he
    · rw [z_up_n _ _ q]
      exact (hw.2.2.2.2 k k0 (show k < n by have : k < n + 1 := hk; omega)).mono (Nat.le_succ n)
theorem y_cell_ok {H : zH} {a : Nat} (hw : yH H) (ha : (0 < a ∧ a < H.2.1) ∨ 1000 ≤ a) {o : Nat × List Value} (h : z_cell H.1 a = .inr o) : ∀ v ∈ o.2, yok H.2.1 v := by
  unfold z_cell at h
  by_cases hb : 1000 ≤ a
  · rw [if_pos hb] at h
    rcases z_sE_o h with ⟨i, -, -, rfl⟩ | rfl
    · intro v hv
      simp only [List.mem_cons, List.not_mem_nil, or_false] at hv
      rcases hv with rfl | rfl
      · exact Or.inr (show 1000 ≤ 1101 + i by omega)
      · trivial
    · intro v hv; cases hv
  · rw [if_neg hb] at h
    have := hw.2.2 a (by omega) (by omega)
    rw [h] at this
    exact this.2
theorem y_nf_ok : ∀ ci, ∀ v ∈ z_nf ci, ∀ n, yok n v := fun ci v hv n => yok_z (z_nf_ok2 ci v hv 0)
theorem sh_nf (ci : Nat) : (z_nf ci).map sh_v = z_nf ci := by unfold z_nf; split <;> rfl
def ySh (I : Instr) (x : zX) (S S' : zS) : Prop := (∃ P' : Prop, P' ∧ zplain I x (sh_S S) = some (P', sh_S S')) ∧ yG S S'
section SHL
variable {L st r : List Value} {H : zH} {x : zX}
theorem sh_ld0 {i : Nat} {y : Int32} (q : L[i]? = some (.int y)) : zld (sh_S (L, st, H)) i 0 = some (True, sh_S (L, .int y :: st, H)) := by
  unfold zld
  have e : (sh_S (L, st, H)).1[i]? = some (.int y) := by show (L.map sh_v)[i]? = _; rw [List.getElem?_map, q]; rfl
  rw [e]; rfl
theorem sh_ld1 {i : Nat} {y : Int64} (q : L[i]? = some (.long y)) : zld (sh_S (L, st, H)) i 1 = some (True, sh_S (L, .long y :: st, H)) := by
  unfold zld
  have e : (sh_S (L, st, H)).1[i]? = some (.long y) := by show (L.map sh_v)[i]? = _; rw [List.getElem?_map, q]; rfl
  rw [e]; rfl
theorem sh_ld2 {i y : Nat} (q : L[i]? = some (.ref y)) : zld (sh_S (L, st, H)) i 2 = some (True, sh_S (L, .ref y :: st, H)) := by
  unfold zld
  have e : (sh_S (L, st, H)).1[i]? = some (.ref (sh_k y)) := by show (L.map sh_v)[i]? = _; rw [List.getElem?_map, q]; rfl
  rw [e]; rfl
theorem sh_st0 {i : Nat} {y : Int32} (hP : i < L.length) : ∃ P' : Prop, P' ∧ zst (sh_S (L, .int y :: r, H)) i 0 = some (P', sh_S (z_set L i (.int y), r, H)) :=
  ⟨i < (L.map sh_v).length, by rw [List.length_map]; exact hP, by
    show some (_, (z_set (L.map sh_v) i (sh_v (.int y)), _, _)) = some (_, ((z_set L i (.int y)).map sh_v, _, _))
    rw [sh_set]; rfl⟩
theorem sh_st1 {i : Nat} {y : Int64} (hP : i + 1 < L.length) : ∃ P' : Prop, P' ∧ zst (sh_S (L, .long y :: r, H)) i 1 = some (P', sh_S (z_set2 L i (.long y), r, H)) :=
  ⟨i + 1 < (L.map sh_v).length, by rw [List.length_map]; exact hP, by
    show some (_, (z_set2 (L.map sh_v) i (sh_v (.long y)), _, _)) = some (_, ((z_set2 L i (.long y)).map sh_v, _, _))
    rw [sh_set2]; rfl⟩
theorem sh_st2 {i y : Nat} (hP : i < L.length) : ∃ P' : Prop, P' ∧ zst (sh_S (L, .ref y :: r, H)) i 2 = some (P', sh_S (z_set L i (.ref y), r, H)) :=
  ⟨i < (L.map sh_v).length, by rw [List.length_map]; exact hP, by
    show some (_, (z_set (L.map sh_v) i (sh_v (.ref y)), _, _)) = some (_, ((z_set L i (.ref y)).map sh_v, _, _))
    rw [sh_set]; rfl⟩
theorem sh_get {a ci k : Nat} {o : Nat × List Value} {v : Value} (hn : H.2.1 ≤ 1000) (ha : (0 < a ∧ a < H.2.1) ∨ 1000 ≤ a) (q1 : z_cell H.1 a = .inr o) (q2 : o.2[k]? = some v) (hP : o.1 = ci) : ∃ P' : Prop, P' ∧ zget (sh_S (L, .ref a :: r, H)) ci k = some (P', sh_S (L, v :: r, H)) := by
  refine ⟨o.1 = ci, hP, ?_⟩
  show (match z_cell (sh_h H.1) (sh_k a) with
    | .inr o => (match o.2[k]? with
      | some v => some (o.1 = ci, ((L.map sh_v), v :: (r.map sh_v), sh_H H))
      | none => none)
    | .inl _ => none) = _
  rw [sh_cell hn ha, q1]
  show (match (o.2.map sh_v)[k]? with
      | some v => some (o.1 = ci, ((L.map sh_v), v :: (r.map sh_v), sh_H H))
      | none => none) = _
  rw [List.getElem?_map, q2]
  rfl
theorem sh_put {v : Value} {a kd ci k : Nat} {o : Nat × List Value} (h0 : 0 < a) (q1 : H.1 a = .inr o) (hP : zfit kd v ∧ a < 1000 ∧ o.1 = ci ∧ k < o.2.length) : ∃ P' : Prop, P' ∧ zput (sh_S (L, v :: .ref a :: r, H)) kd ci k = some (P', sh_S (L, r, (z_up H.1 a (.inr (o.1, o.2.set k v)), H.2))) := by
  obtain ⟨p1, p2, p3, p4⟩ := hP
  refine ⟨zfit kd (sh_v v) ∧ sh_k a < 1000 ∧ o.1 = ci ∧ k < (o.2.map sh_v).length, ⟨sh_fit p1, by unfold sh_k; rw [if_pos p2]; omega, p3, by rw [List.length_map]; exact p4⟩, ?_⟩
  show (match sh_h H.1 (sh_k a) with
    | .inr o => some (zfit kd (sh_v v) ∧ sh_k a < 1000 ∧ o.1 = ci ∧ k < o.2.length, ((L.map sh_v), (r.map sh_v), (z_up (sh_h H.1) (sh_k a) (.inr (o.1, o.2.set k (sh_v v))), (sh_H H).2)))
    | .inl _ => none) = _
  rw [sh_at h0 p2, q1]
  show some (zfit kd (sh_v v) ∧ sh_k a < 1000 ∧ o.1 = ci ∧ k < (o.2.map sh_v).length, ((L.map sh_v), (r.map sh_v), (z_up (sh_h H.1) (sh_k a) (.inr (o.1, (o.2.map sh_v).set k (sh_v v))), (sh_H H).2))) = some (_, (_, _, (sh_h (z_up H.1 a (.inr (o.1, o.2.set k v))), _)))
  rw [← sh_up h0 p2]
  simp only [sh_e, List.map_set]
  rfl
theorem sh_ald {i : Int32} {a t t1 N : Nat} {f : Nat → Int32} (hn : H.2.1 ≤ 1000) (ha : (0 < a ∧ a < H.2.1) ∨ 1000 ≤ a) (q1 : z_cell H.1 a = .inl (t1, N, .inl f)) (hP : t1 = t ∧ vp_in i N) : ∃ P' : Prop, P' ∧ zald (sh_S (L, .int i :: .ref a :: r, H)) t = some (P', sh_S (L, .int (f i.toNatClampNeg) :: r, H)) := by
  refine ⟨t1 = t ∧ vp_in i N, hP, ?_⟩
  show (match z_cell (sh_h H.1) (sh_k a) with
    | .inl (t1, N, .inl f) => some (t1 = t ∧ vp_in i N, ((L.map sh_v), Value.int (f i.toNatClampNeg) :: (r.map sh_v), sh_H H))
    | _ => none) = _
  rw [sh_cell hn ha, q1]
  rfl
theorem sh_aldl {i : Int32} {a t1 N : Nat} {f : Nat → Int64} (h0 : 0 < a) (q1 : H.1 a = .inl (t1, N, .inr (.inl f))) (hP : t1 = 1 ∧ a < 1000 ∧ vp_in i N) : ∃ P' : Prop, P' ∧ zaldl (sh_S (L, .int i :: .ref a :: r, H)) = some (P', sh_S (L, .long (f i.toNatClampNeg) :: r, H)) := by
  refine ⟨t1 = 1 ∧ sh_k a < 1000 ∧ vp_in i N, ⟨hP.1, by unfold sh_k; rw [if_pos hP.2.1]; omega, hP.2.2⟩, ?_⟩
  show (match sh_h H.1 (sh_k a) with
    | .inl (t1, N, .inr (.inl f)) => some (t1 = 1 ∧ sh_k a < 1000 ∧ vp_in i N, ((L.map sh_v), Value.long (f i.toNatClampNeg) :: (r.map sh_v), sh_H H))
    | _ => none) = _
  rw [sh_at h0 hP.2.1, q1]
  rfl
theorem sh_ast {y i : Int32} {a t t1 N : Nat} {f : Nat → Int32} {g : Int32 → Int32} (h0 : 0 < a) (q1 : H.1 a = .inl (t1, N, .inl f)) (hP : t1 = t ∧ a < 1000 ∧ vp_in i N) : ∃ P' : Prop, P' ∧ zast (sh_S (L, .int y :: .int i :: .ref a :: r, H)) t g = some (P', sh_S (L, r, (z_up H.1 a (.inl (t1, N, .inl (upd f i.toNatClampNeg (g y)))), H.2))) := by
  refine ⟨t1 = t ∧ sh_k a < 1000 ∧ vp_in i N, ⟨hP.1, by unfold sh_k; rw [if_pos hP.2.1]; omega, hP.2.2⟩, ?_⟩
  show (match sh_h H.1 (sh_k a) with
    | .inl (t1, N, .inl f) => some (t1 = t ∧ sh_k a < 1000 ∧ vp_in i N, ((L.map sh_v), (r.map sh_v), (z_up (sh_h H.1) (sh_k a) (.inl (t1, N, .inl (upd f i.toNatClampNeg (g y)))), (sh_H H).2)))
    | _ => none) = some (_, (_, _, (sh_h (z_up H.1 a (.inl (t1, N, .inl (upd f i.toNatClampNeg (g y))))), _)))
  rw [sh_at h0 hP.2.1, q1, ← sh_up h0 hP.2.1]
  rfl
theorem sh_astl {y : Int64} {i : Int32} {a t1 N : Nat} {f : Nat → Int64} (h0 : 0 < a) (q1 : H.1 a = .inl (t1, N, .inr (.inl f))) (hP : t1 = 1 ∧ a < 1000 ∧ vp_in i N) : ∃ P' : Prop, P' ∧ zastl (sh_S (L, .long y :: .int i :: .ref a :: r, H)) = some (P', sh_S (L, r, (z_up H.1 a (.inl (t1, N, .inr (.inl (vp_updL f i.toNatClampNeg y)))), H.2))) := by
  refine ⟨t1 = 1 ∧ sh_k a < 1000 ∧ vp_in i N, ⟨hP.1, by unfold sh_k; rw [if_pos hP.2.1]; omega, hP.2.2⟩, ?_⟩
  show (match sh_h H.1 (sh_k a) with
    | .inl (t1, N, .inr (.inl f)) => some (t1 = 1 ∧ sh_k a < 1000 ∧ vp_in i N, ((L.map sh_v), (r.map sh_v), (z_up (sh_h H.1) (sh_k a) (.inl (t1, N, .inr (.inl (vp_updL f i.toNatClampNeg y)))), (sh_H H).2)))
    | _ => none) = some (_, (_, _, (sh_h (z_up H.1 a (.inl (t1, N, .inr (.inl (vp_updL f i.toNatClampNeg y))))), _)))
  rw [sh_at h0 hP.2.1, q1, ← sh_up h0 hP.2.1]
  rfl
theorem sh_len {a : Nat} {q : Nat × vp_A} (hn : H.2.1 ≤ 1000) (ha : (0 < a ∧ a < H.2.1) ∨ 1000 ≤ a) (q1 : z_cell H.1 a = .inl q) (hP : q.1 ≤ 4) : ∃ P' : Prop, P' ∧ zlen (sh_S (L, .ref a :: r, H)) = some (P', sh_S (L, .int (Int32.ofNat q.2.1) :: r, H)) := by
  refine ⟨q.1 ≤ 4, hP, ?_⟩
  show (match z_cell (sh_h H.1) (sh_k a) with
    | .inl e => some (e.1 ≤ 4, ((L.map sh_v), Value.int (Int32.ofNat e.2.1) :: (r.map sh_v), sh_H H))
    | _ => none) = _
  rw [sh_cell hn ha, q1]
  rfl
theorem sh_a0 (t N : Nat) : sh_e (z_a0 t N) = z_a0 t N := by unfold z_a0; split <;> rfl
end SHL
