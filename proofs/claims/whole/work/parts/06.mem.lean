/-! fields, arrays, what is made, static cells -/
theorem zget_inv {S S' : zS} {P' : Prop} {ci k : Nat} (h : zget S ci k = some (P', S')) : ∃ L, ∃ a : Nat, ∃ r H o v, S = (L, .ref a :: r, H) ∧ z_cell H.1 a = .inr o ∧ o.2[k]? = some v ∧ P' = (o.1 = ci) ∧ S' = (L, v :: r, H) := by
  obtain ⟨L, st, H⟩ := S
  unfold zget at h
  split at h
  · rename_i a r q
    simp only at q
    subst q
    split at h
    · rename_i o q1
      split at h
      · rename_i v q2
        cases h
        exact ⟨L, a, r, H, o, v, rfl, q1, q2, rfl, rfl⟩
      · cases h
    · cases h
  · cases h
theorem zput_inv {S S' : zS} {P' : Prop} {kd ci k : Nat} (h : zput S kd ci k = some (P', S')) : ∃ L v, ∃ a : Nat, ∃ r H o, S = (L, v :: .ref a :: r, H) ∧ H.1 a = .inr o ∧ P' = (zfit kd v ∧ a < 1000 ∧ o.1 = ci ∧ k < o.2.length) ∧ S' = (L, r, (z_up H.1 a (.inr (o.1, o.2.set k v)), H.2)) := by
  obtain ⟨L, st, H⟩ := S
  unfold zput at h
  split at h
  · rename_i v a r q
    simp only at q
    subst q
    split at h
    · rename_i o q1
      cases h
      exact ⟨L, v, a, r, H, o, rfl, q1, rfl, rfl⟩
    · cases h
  · cases h
theorem zald_inv {S S' : zS} {P' : Prop} {t : Nat} (h : zald S t = some (P', S')) : ∃ L i, ∃ a : Nat, ∃ r H t1 N f, S = (L, .int i :: .ref a :: r, H) ∧ z_cell H.1 a = .inl (t1, N, .inl f) ∧ P' = (t1 = t ∧ vp_in i N) ∧ S' = (L, .int (f i.toNatClampNeg) :: r, H) := by
  obtain ⟨L, st, H⟩ := S
  unfold zald at h
  split at h
  · rename_i i a r q
    simp only at q
    subst q
    split at h
    · rename_i t1 N f q1
      cases h
      exact ⟨L, i, a, r, H, t1, N, f, rfl, q1, rfl, rfl⟩
    · cases h
  · cases h
theorem zaldl_inv {S S' : zS} {P' : Prop} (h : zaldl S = some (P', S')) : ∃ L i, ∃ a : Nat, ∃ r H t1 N f, S = (L, .int i :: .ref a :: r, H) ∧ H.1 a = .inl (t1, N, .inr (.inl f)) ∧ P' = (t1 = 1 ∧ a < 1000 ∧ vp_in i N) ∧ S' = (L, .long (f i.toNatClampNeg) :: r, H) := by
  obtain ⟨L, st, H⟩ := S
  unfold zaldl at h
  split at h
  · rename_i i a r q
    simp only at q
    subst q
    split at h
    · rename_i t1 N f q1
      cases h
      exact ⟨L, i, a, r, H, t1, N, f, rfl, q1, rfl, rfl⟩
    · cases h
  · cases h
theorem zast_inv {S S' : zS} {P' : Prop} {t : Nat} {g : Int32 → Int32} (h : zast S t g = some (P', S')) : ∃ L x i, ∃ a : Nat, ∃ r H t1 N f, S = (L, .int x :: .int i :: .ref a :: r, H) ∧ H.1 a = .inl (t1, N, .inl f) ∧ P' = (t1 = t ∧ a < 1000 ∧ vp_in i N) ∧ S' = (L, r, (z_up H.1 a (.inl (t1, N, .inl (upd f i.toNatClampNeg (g x)))), H.2)) := by
  obtain ⟨L, st, H⟩ := S
  unfold zast at h
  split at h
  · rename_i x i a r q
    simp only at q
    subst q
    split at h
    · rename_i t1 N f q1
      cases h
      exact ⟨L, x, i, a, r, H, t1, N, f, rfl, q1, rfl, rfl⟩
    · cases h
  · cases h
theorem zastl_inv {S S' : zS} {P' : Prop} (h : zastl S = some (P', S')) : ∃ L x i, ∃ a : Nat, ∃ r H t1 N f, S = (L, .long x :: .int i :: .ref a :: r, H) ∧ H.1 a = .inl (t1, N, .inr (.inl f)) ∧ P' = (t1 = 1 ∧ a < 1000 ∧ vp_in i N) ∧ S' = (L, r, (z_up H.1 a (.inl (t1, N, .inr (.inl (vp_updL f i.toNatClampNeg x)))), H.2)) := by
  obtain ⟨L, st, H⟩ := S
  unfold zastl at h
  split at h
  · rename_i x i a r q
    simp only at q
    subst q
    split at h
    · rename_i t1 N f q1
      cases h
      exact ⟨L, x, i, a, r, H, t1, N, f, rfl, q1, rfl, rfl⟩
    · cases h
  · cases h
theorem zlen_inv {S S' : zS} {P' : Prop} (h : zlen S = some (P', S')) : ∃ L, ∃ a : Nat, ∃ r H q, S = (L, .ref a :: r, H) ∧ z_cell H.1 a = .inl q ∧ P' = (q.1 ≤ 4) ∧ S' = (L, .int (Int32.ofNat q.2.1) :: r, H) := by
  obtain ⟨L, st, H⟩ := S
  unfold zlen at h
  split at h
  · rename_i a r q
    simp only at q
    subst q
    split at h
    · rename_i o q1
      cases h
      exact ⟨L, a, r, H, o, rfl, q1, rfl, rfl⟩
    · cases h
  · cases h
theorem z_sE_o {a : Nat} {o : Nat × List Value} (h : z_sE a = .inr o) : (∃ i, i < 6 ∧ a = 1001 + i ∧ o = (200, [.ref (1101 + i), .int 0])) ∨ o = (999, []) := by
  unfold z_sE at h
  split at h <;> first
    | (cases h; done)
    | (cases h; exact Or.inr rfl)
    | (cases h; exact Or.inl ⟨0, by decide, rfl, rfl⟩)
    | (cases h; exact Or.inl ⟨1, by decide, rfl, rfl⟩)
    | (cases h; exact Or.inl ⟨2, by decide, rfl, rfl⟩)
    | (cases h; exact Or.inl ⟨3, by decide, rfl, rfl⟩)
    | (cases h; exact Or.inl ⟨4, by decide, rfl, rfl⟩)
    | (cases h; exact Or.inl ⟨5, by decide, rfl, rfl⟩)
theorem z_sE_i {a : Nat} {q : Nat × vp_A} (h : z_sE a = .inl q) : (a = 1000 ∧ q = (0, 8, .inl z_pw)) ∨ ∃ i, i < 6 ∧ a = 1101 + i ∧ q = (2, z_slen.getD i 0, .inl (fun j => (z_sbyt.getD i []).getD j 0)) := by
  unfold z_sE at h
  split at h <;> first
    | (cases h; done)
    | (cases h; exact Or.inl ⟨rfl, rfl⟩)
    | (cases h; exact Or.inr ⟨0, by decide, rfl, rfl⟩)
    | (cases h; exact Or.inr ⟨1, by decide, rfl, rfl⟩)
    | (cases h; exact Or.inr ⟨2, by decide, rfl, rfl⟩)
    | (cases h; exact Or.inr ⟨3, by decide, rfl, rfl⟩)
    | (cases h; exact Or.inr ⟨4, by decide, rfl, rfl⟩)
    | (cases h; exact Or.inr ⟨5, by decide, rfl, rfl⟩)
def zFk (own i : Nat) (T : u_T) (k : Nat) : Prop := Cond.fieldLink (zCn own) i (T k).1 (T k).2.1 (T k).2.2.1 ∈ zT ∨ ∃ host, Cond.fieldLinkNest (zCn own) i (T k).1 (T k).2.1 (T k).2.2.1 host ∈ zN
def zkd (ty : FieldType) : Nat := match ty with
  | .int => 0
  | .long => 1
  | .boolean => 2
  | .array _ => 3
  | .object _ => 3
  | _ => 9
theorem zfit_ok {ty : FieldType} {v : Value} {tr : Nat → Nat} (h : zfit (zkd ty) v) : narrow ty (z_v tr v) = z_v tr v ∧ fits ty (z_v tr v) = true := by
  cases ty <;> cases v <;> first
    | (exact ⟨rfl, rfl⟩)
    | (cases h; done)
    | (rcases h with rfl | rfl <;> exact ⟨rfl, rfl⟩)
theorem z_nf_ok : ∀ ci, ci < 12 → ∃ q, vwCl[ci]? = some q ∧ (z_nf ci).length = q.2.2 ∧ ∀ j, j < q.2.2 → defaultValue ((parseFieldDescriptor (q.2.1 j).2.2.1).getD .int) = vp_V (z_nf ci) j := by
  intro ci h
  have hq : vwCl[ci]? = some (vwCl.getD ci (RX0, TX0, 2)) := by
    rcases (show ci = 0 ∨ ci = 1 ∨ ci = 2 ∨ ci = 3 ∨ ci = 4 ∨ ci = 5 ∨ ci = 6 ∨ ci = 7 ∨ ci = 8 ∨ ci = 9 ∨ ci = 10 ∨ ci = 11 by omega) with rfl | rfl | rfl | rfl | rfl | rfl | rfl | rfl | rfl | rfl | rfl | rfl <;> rfl
  refine ⟨_, hq, ?_⟩
  rcases (show ci = 0 ∨ ci = 1 ∨ ci = 2 ∨ ci = 3 ∨ ci = 4 ∨ ci = 5 ∨ ci = 6 ∨ ci = 7 ∨ ci = 8 ∨ ci = 9 ∨ ci = 10 ∨ ci = 11 by omega) with rfl | rfl | rfl | rfl | rfl | rfl | rfl | rfl | rfl | rfl | rfl | rfl <;> decide +kernel
theorem z_nf_ok2 : ∀ ci, ∀ v ∈ z_nf ci, ∀ n, zok n v := by
  intro ci v hv n
  have h : ∀ w ∈ z_nf ci, w = .null ∨ w = .int 0 := by
    unfold z_nf
    split <;> simp
  rcases h v hv with rfl | rfl <;> trivial
theorem z_nf_tr (tr : Nat → Nat) (ci : Nat) : (z_nf ci).map (z_v tr) = z_nf ci := by
  unfold z_nf
  split <;> rfl
section ZQ
variable {p : Program} {l : Launch} {e : Env} {R : Room} {s : State} {m : MethodId} {args : Array Value} {below : List Frame} {meth : Method} {c : Code} {cA dC : Nat → ClassId} {dI : Nat → Nat → Nat} {B0 : Nat} {tr0 : Nat → Nat} {own nL kc0 ks0 n0 : Nat} {cc : ByteArray} {Q : State → Prop} {pc : Nat} {S S' : zS} {P : Prop} {x : zX}
theorem zs_getfield (X : zCx p s m args c R cA dC dI B0 tr0 own cc nL) {i ci k : Nat} {C : String} {T : u_T} {N : Nat} (hx1 : x.2.1 = ci) (hx2 : x.2.2.1 = k) (hc : vwCl[ci]? = some (C, T, N)) (hk : k < N) (hlk : zFk own i T k) (hd : decode cc pc = .ok (.getfield i, 3)) (hz : zplain (.getfield i) x S = some (P, S')) (hP : P) (hw : zwf S) (kk : zGoal p l e R s m args below meth c cA dC dI B0 tr0 nL kc0 ks0 n0 Q (pc + 3) S') : zGoal p l e R s m args below meth c cA dC dI B0 tr0 nL kc0 ks0 n0 Q pc S := by
  simp only [zplain, hx1, hx2] at hz
  obtain ⟨L, a, r, H, o, v, rfl, q1, q2, rfl, rfl⟩ := zget_inv hz
  have hsc : a < H.2.1 ∨ 1000 ≤ a := hw.2.1 (.ref a) (by simp)
  have hci : ci < 12 := (List.getElem?_eq_some_iff.mp hc).1
  have ha : a < H.2.1 ∧ H.1 a = .inr o := by
    unfold z_cell at q1
    by_cases hb : 1000 ≤ a
    · rw [if_pos hb] at q1
      rcases z_sE_o q1 with ⟨i, -, -, rfl⟩ | rfl
      · simp only at hP; omega
      · simp only at hP; omega
    · rw [if_neg hb] at q1
      exact ⟨by omega, q1⟩
  intro tr Hh locs ls h1 h2 h3
  have hin := (z_cl _ (List.mem_of_getElem? hc)).1
  have he := zw_at' (cA := cA) (tr := tr) ha.1 ha.2
  obtain ⟨o1, o2⟩ := o
  simp only at hP
  subst hP
  have hv : (o2.map (z_v tr))[k]? = some (z_v tr v) := by rw [List.getElem?_map, q2]; rfl
  rcases hlk with hlk | ⟨host, hlk⟩
  · exact va_get X.1 X.2.1 X.2.2.2.2.1 hin X.2.2.2.1 X.2.2.2.2.2.2.1 h2.1 a he hc k hk (X.2.2.2.2.1 _ hlk) (fun _ h => h) hv hd (kk tr Hh locs ls h1 h2 h3)
  · exact va_getN X.1 X.2.1 X.2.2.2.2.1 hin X.2.2.2.1 X.2.2.2.2.2.2.1 h2.1 a he hc k hk (va_Nw.use rfl (X.2.2.2.2.2.1 _ hlk)) (fun _ h => h) hv hd (kk tr Hh locs ls h1 h2 h3)
theorem zs_getstr (X : zCx p s m args c R cA dC dI B0 tr0 own cc nL) {i k : Nat} (hx1 : x.2.1 = 200) (hx2 : x.2.2.1 = k) (hlk : (k = 0 ∧ Cond.fieldLink (zCn own) i "java/lang/String" "value" "[B" ∈ zT) ∨ (k = 1 ∧ Cond.fieldLink (zCn own) i "java/lang/String" "coder" "B" ∈ zT)) (hd : decode cc pc = .ok (.getfield i, 3)) (hz : zplain (.getfield i) x S = some (P, S')) (hP : P) (hw : zwf S) (kk : zGoal p l e R s m args below meth c cA dC dI B0 tr0 nL kc0 ks0 n0 Q (pc + 3) S') : zGoal p l e R s m args below meth c cA dC dI B0 tr0 nL kc0 ks0 n0 Q pc S := by
  simp only [zplain, hx1, hx2] at hz
  obtain ⟨L, a, r, H, o, v, rfl, q1, q2, rfl, rfl⟩ := zget_inv hz
  have hsc : a < H.2.1 ∨ 1000 ≤ a := hw.2.1 (.ref a) (by simp)
  have ha : ∃ i, i < 6 ∧ a = 1001 + i ∧ o = (200, [.ref (1101 + i), .int 0]) := by
    unfold z_cell at q1
    by_cases hb : 1000 ≤ a
    · rw [if_pos hb] at q1
      rcases z_sE_o q1 with h | rfl
      · exact h
      · simp only at hP; omega
    · rw [if_neg hb] at q1
      have := hw.2.2.2 a (show a < H.2.1 by omega)
      simp only [q1, zokE] at this
      omega
  obtain ⟨j, hj, rfl, rfl⟩ := ha
  intro tr Hh locs ls h1 h2 h3
  have e1 : tr (1001 + j) = tr0 (1001 + j) := h1 _ (by omega)
  have e2 : tr (1101 + j) = tr0 (1101 + j) := h1 _ (by omega)
  have hS := (X.2.2.2.2.2.2.2.2.1.2.2.2.1).1 j hj
  have kk := kk tr Hh locs ls h1 h2 h3
  rcases hlk with ⟨rfl, hlk⟩ | ⟨rfl, hlk⟩
  · cases q2
    simp only [List.map_cons, z_v, e1, e2] at kk ⊢
    exact vk_getf X.1 X.2.1 hS.2.2.1 h2.2.2 X.2.2.2.1 (X.2.2.2.2.1 _ hlk) (fun _ h => h) hd kk
  · cases q2
    simp only [List.map_cons, z_v, e1, e2] at kk ⊢
    exact vk_getf X.1 X.2.1 hS.2.1 h2.2.2 X.2.2.2.1 (X.2.2.2.2.1 _ hlk) (fun _ h => h) hd kk
theorem zs_putfield (X : zCx p s m args c R cA dC dI B0 tr0 own cc nL) {i kd ci k : Nat} {C : String} {T : u_T} {N : Nat} {ty : FieldType} (hx3 : x.1 = zkd ty) (hx1 : x.2.1 = ci) (hx2 : x.2.2.1 = k) (hc : vwCl[ci]? = some (C, T, N)) (hk : k < N) (hlk : zFk own i T k) (hty0 : parseFieldDescriptor (T k).2.2.1 = some ty) (hfin : (T k).2.2.2 = false) (hd : decode cc pc = .ok (.putfield i, 3)) (hz : zplain (.putfield i) x S = some (P, S')) (hP : P) (hw : zwf S) (kk : zGoal p l e R s m args below meth c cA dC dI B0 tr0 nL kc0 ks0 n0 Q (pc + 3) S') : zGoal p l e R s m args below meth c cA dC dI B0 tr0 nL kc0 ks0 n0 Q pc S := by
  simp only [zplain, hx1, hx2, hx3] at hz
  obtain ⟨L, v, a, r, H, o, rfl, q1, rfl, rfl⟩ := zput_inv hz
  have hsc : a < H.2.1 ∨ 1000 ≤ a := hw.2.1 (.ref a) (by simp)
  obtain ⟨f1, f2, f3, f4⟩ := hP
  have ha : a < H.2.1 := by omega
  intro tr Hh locs ls h1 h2 h3
  have hin := z_cl _ (List.mem_of_getElem? hc)
  have he := zw_at' (cA := cA) (tr := tr) ha q1
  obtain ⟨o1, o2⟩ := o
  simp only at f3 f4
  subst f3
  have hf := zfit_ok (tr := tr) f1
  have hl : k < (o2.map (z_v tr)).length := by rw [List.length_map]; exact f4
  have hty : ∀ j, j < N → parseFieldDescriptor (T j).2.2.1 = some ((parseFieldDescriptor (T j).2.2.1).getD .int) := fun j hj => by
    obtain ⟨y, hy⟩ := Option.isSome_iff_exists.mp (hin.2.1 j hj)
    rw [hy]; rfl
  have hset : (zw cA tr H.1 H.2.1).set a (tr a, .inr (o1, (o2.map (z_v tr)).set k (z_v tr v))) = zw cA tr (z_up H.1 a (.inr (o1, o2.set k v))) H.2.1 := by
    rw [← zw_set cA tr H.1 H.2.1 _ ha]
    simp only [z_e, List.map_set]
  have kk' : ∀ (H1 : Heap) (locs1 : List Loc), va_P (dC, dI) vwCl ((zw cA tr H.1 H.2.1).set a (tr a, .inr (o1, (o2.map (z_v tr)).set k (z_v tr v)))) H1 → va_D (fun q => B0 ≤ q) ((zw cA tr H.1 H.2.1).set a (tr a, .inr (o1, (o2.map (z_v tr)).set k (z_v tr v)))) → va_S (fun q => B0 ≤ q) s.heap H1 locs1 → _ := fun H1 locs1 g1 g2 g3 => kk tr H1 locs1 ls h1 ⟨by rw [← hset]; exact g1, by rw [← hset]; exact g2, g3⟩ h3
  rcases hlk with hlk | ⟨host, hlk⟩
  · exact va_put X.1 X.2.1 X.2.2.2.2.1 hin.1 _ hty hin.2.2 X.2.2.2.1 X.2.2.2.2.2.2.1 h2.1 h2.2.1 h2.2.2 a he hc k hk (X.2.2.2.2.1 _ hlk) (fun _ h => h) hfin hty0 hf.1 hf.2 hl hd kk'
  · exact va_putN X.1 X.2.1 X.2.2.2.2.1 hin.1 _ hty hin.2.2 X.2.2.2.1 X.2.2.2.2.2.2.1 h2.1 h2.2.1 h2.2.2 a he hc k hk (va_Nw.use rfl (X.2.2.2.2.2.1 _ hlk)) (fun _ h => h) hfin hty0 hf.1 hf.2 hl hd kk'
theorem zs_putfinal (X : zCx p s m args c R cA dC dI B0 tr0 own cc nL) {i kd ci k : Nat} {C : String} {T : u_T} {N : Nat} {ty : FieldType} (hx3 : x.1 = zkd ty) (hx1 : x.2.1 = ci) (hx2 : x.2.2.1 = k) (hc : vwCl[ci]? = some (C, T, N)) (hk : k < N) (hlk : Cond.fieldLink (zCn own) i (T k).1 (T k).2.1 (T k).2.2.1 ∈ zT) (hty0 : parseFieldDescriptor (T k).2.2.1 = some ty) (hfin : (T k).2.2.2 = true) (hini : meth.name = "<init>") (hdec : (T k).1 = zCn own) (hd : decode cc pc = .ok (.putfield i, 3)) (hz : zplain (.putfield i) x S = some (P, S')) (hP : P) (hw : zwf S) (kk : zGoal p l e R s m args below meth c cA dC dI B0 tr0 nL kc0 ks0 n0 Q (pc + 3) S') : zGoal p l e R s m args below meth c cA dC dI B0 tr0 nL kc0 ks0 n0 Q pc S := by
  simp only [zplain, hx1, hx2, hx3] at hz
  obtain ⟨L, v, a, r, H, o, rfl, q1, rfl, rfl⟩ := zput_inv hz
  have hsc : a < H.2.1 ∨ 1000 ≤ a := hw.2.1 (.ref a) (by simp)
  obtain ⟨f1, f2, f3, f4⟩ := hP
  have ha : a < H.2.1 := by omega
  intro tr Hh locs ls h1 h2 h3
  have hin := z_cl _ (List.mem_of_getElem? hc)
  have he := zw_at' (cA := cA) (tr := tr) ha q1
  obtain ⟨o1, o2⟩ := o
  simp only at f3 f4
  subst f3
  have hf := zfit_ok (tr := tr) f1
  have hl : k < (o2.map (z_v tr)).length := by rw [List.length_map]; exact f4
  have hty : ∀ j, j < N → parseFieldDescriptor (T j).2.2.1 = some ((parseFieldDescriptor (T j).2.2.1).getD .int) := fun j hj => by
    obtain ⟨y, hy⟩ := Option.isSome_iff_exists.mp (hin.2.1 j hj)
    rw [hy]; rfl
  have hset : (zw cA tr H.1 H.2.1).set a (tr a, .inr (o1, (o2.map (z_v tr)).set k (z_v tr v))) = zw cA tr (z_up H.1 a (.inr (o1, o2.set k v))) H.2.1 := by
    rw [← zw_set cA tr H.1 H.2.1 _ ha]
    simp only [z_e, List.map_set]
  have kk' : ∀ (H1 : Heap) (locs1 : List Loc), va_P (dC, dI) vwCl ((zw cA tr H.1 H.2.1).set a (tr a, .inr (o1, (o2.map (z_v tr)).set k (z_v tr v)))) H1 → va_D (fun q => B0 ≤ q) ((zw cA tr H.1 H.2.1).set a (tr a, .inr (o1, (o2.map (z_v tr)).set k (z_v tr v)))) → va_S (fun q => B0 ≤ q) s.heap H1 locs1 → _ := fun H1 locs1 g1 g2 g3 => kk tr H1 locs1 ls h1 ⟨by rw [← hset]; exact g1, by rw [← hset]; exact g2, g3⟩ h3
  exact va_putF X.1 X.2.1 X.2.2.2.2.1 hin.1 _ hty hin.2.2 X.2.2.2.1 X.2.2.2.2.2.2.1 h2.1 h2.2.1 h2.2.2 a he hc k hk (X.2.2.2.2.1 _ hlk) (fun _ h => h) hfin hini hdec hty0 hf.1 hf.2 hl hd kk'
theorem zs_iaload (X : zCx p s m args c R cA dC dI B0 tr0 own cc nL)  (hd : decode cc pc = .ok (.iaload, 1)) (hz : zplain (.iaload) x S = some (P, S')) (hP : P) (hw : zwf S) (kk : zGoal p l e R s m args below meth c cA dC dI B0 tr0 nL kc0 ks0 n0 Q (pc + 1) S') : zGoal p l e R s m args below meth c cA dC dI B0 tr0 nL kc0 ks0 n0 Q pc S := by
  simp only [zplain] at hz
  obtain ⟨L, i, a, r, H, t1, N, f, rfl, q1, rfl, rfl⟩ := zald_inv hz
  have hsc : a < H.2.1 ∨ 1000 ≤ a := hw.2.1 (.ref a) (by simp)
  obtain ⟨rfl, f2⟩ := hP
  intro tr Hh locs ls h1 h2 h3
  unfold z_cell at q1
  by_cases hb : 1000 ≤ a
  · rw [if_pos hb] at q1
    rcases z_sE_i q1 with ⟨rfl, q⟩ | ⟨j, -, -, q⟩
    · cases q
      have e1 : tr 1000 = tr0 1000 := h1 _ (by omega)
      have kk := kk tr Hh locs ls h1 h2 h3
      simp only [List.map_cons, z_v, e1] at kk ⊢
      exact va_ti X.1 X.2.1 X.2.2.2.2.2.2.2.2.1.2.1 h2.2.2 f2 rfl hd kk
    · cases q
  · rw [if_neg hb] at q1
    have he := zw_at' (cA := cA) (tr := tr) (show a < H.2.1 by omega) q1
    exact va_iald X.1 X.2.1 X.2.2.2.2.2.2.1 h2.1 a 0 he rfl f2 hd (kk tr Hh locs ls h1 h2 h3)
theorem zs_caload (X : zCx p s m args c R cA dC dI B0 tr0 own cc nL)  (hd : decode cc pc = .ok (.caload, 1)) (hz : zplain (.caload) x S = some (P, S')) (hP : P) (hw : zwf S) (kk : zGoal p l e R s m args below meth c cA dC dI B0 tr0 nL kc0 ks0 n0 Q (pc + 1) S') : zGoal p l e R s m args below meth c cA dC dI B0 tr0 nL kc0 ks0 n0 Q pc S := by
  simp only [zplain] at hz
  obtain ⟨L, i, a, r, H, t1, N, f, rfl, q1, rfl, rfl⟩ := zald_inv hz
  have hsc : a < H.2.1 ∨ 1000 ≤ a := hw.2.1 (.ref a) (by simp)
  obtain ⟨rfl, f2⟩ := hP
  intro tr Hh locs ls h1 h2 h3
  unfold z_cell at q1
  by_cases hb : 1000 ≤ a
  · rw [if_pos hb] at q1
    rcases z_sE_i q1 with ⟨rfl, q⟩ | ⟨j, -, -, q⟩
    · cases q
    · cases q
  · rw [if_neg hb] at q1
    have he := zw_at' (cA := cA) (tr := tr) (show a < H.2.1 by omega) q1
    exact va_cald X.1 X.2.1 X.2.2.2.2.2.2.1 h2.1 a 3 he rfl f2 hd (kk tr Hh locs ls h1 h2 h3)
theorem zs_baload (X : zCx p s m args c R cA dC dI B0 tr0 own cc nL) (hx : x.2.1 = 2 ∨ x.2.1 = 4) (hd : decode cc pc = .ok (.baload, 1)) (hz : zplain (.baload) x S = some (P, S')) (hP : P) (hw : zwf S) (kk : zGoal p l e R s m args below meth c cA dC dI B0 tr0 nL kc0 ks0 n0 Q (pc + 1) S') : zGoal p l e R s m args below meth c cA dC dI B0 tr0 nL kc0 ks0 n0 Q pc S := by
  simp only [zplain] at hz
  obtain ⟨L, i, a, r, H, t1, N, f, rfl, q1, rfl, rfl⟩ := zald_inv hz
  have hsc : a < H.2.1 ∨ 1000 ≤ a := hw.2.1 (.ref a) (by simp)
  obtain ⟨f1, f2⟩ := hP
  subst f1
  intro tr Hh locs ls h1 h2 h3
  unfold z_cell at q1
  by_cases hb : 1000 ≤ a
  · rw [if_pos hb] at q1
    rcases z_sE_i q1 with ⟨-, q⟩ | ⟨j, hj, rfl, q⟩
    · have q := congrArg Prod.fst q; simp only at q; omega
    · have kk := kk tr Hh locs ls h1 h2 h3
      obtain ⟨q, q'⟩ := Prod.mk.inj q
      cases q'
      have e1 : tr (1101 + j) = tr0 (1101 + j) := h1 _ (by omega)
      simp only [List.map_cons, z_v, e1] at kk ⊢
      exact va_tb X.1 X.2.1 (X.2.2.2.2.2.2.2.2.1.2.2.2.1.1 j hj).2.2.2 h2.2.2 f2 rfl hd kk
  · rw [if_neg hb] at q1
    have he := zw_at' (cA := cA) (tr := tr) (show a < H.2.1 by omega) q1
    rcases hx with hx | hx
    · rw [hx] at he
      exact va_bald X.1 X.2.1 X.2.2.2.2.2.2.1 h2.1 a 2 he rfl f2 hd (kk tr Hh locs ls h1 h2 h3)
    · rw [hx] at he
      exact va_zald X.1 X.2.1 X.2.2.2.2.2.2.1 h2.1 a 4 he rfl f2 hd (kk tr Hh locs ls h1 h2 h3)
theorem zs_laload (X : zCx p s m args c R cA dC dI B0 tr0 own cc nL)  (hd : decode cc pc = .ok (.laload, 1)) (hz : zplain (.laload) x S = some (P, S')) (hP : P) (hw : zwf S) (kk : zGoal p l e R s m args below meth c cA dC dI B0 tr0 nL kc0 ks0 n0 Q (pc + 1) S') : zGoal p l e R s m args below meth c cA dC dI B0 tr0 nL kc0 ks0 n0 Q pc S := by
  simp only [zplain] at hz
  obtain ⟨L, i, a, r, H, t1, N, f, rfl, q1, rfl, rfl⟩ := zaldl_inv hz
  have hsc : a < H.2.1 ∨ 1000 ≤ a := hw.2.1 (.ref a) (by simp)
  obtain ⟨rfl, f1, f2⟩ := hP
  intro tr Hh locs ls h1 h2 h3
  have he := zw_at' (cA := cA) (tr := tr) (show a < H.2.1 by omega) q1
  exact va_lald X.1 X.2.1 X.2.2.2.2.2.2.1 h2.1 a 1 he rfl f2 hd (kk tr Hh locs ls h1 h2 h3)
theorem zs_iastore (X : zCx p s m args c R cA dC dI B0 tr0 own cc nL)  (hd : decode cc pc = .ok (.iastore, 1)) (hz : zplain (.iastore) x S = some (P, S')) (hP : P) (hw : zwf S) (kk : zGoal p l e R s m args below meth c cA dC dI B0 tr0 nL kc0 ks0 n0 Q (pc + 1) S') : zGoal p l e R s m args below meth c cA dC dI B0 tr0 nL kc0 ks0 n0 Q pc S := by
  simp only [zplain] at hz
  obtain ⟨L, y, i, a, r, H, t1, N, f, rfl, q1, rfl, rfl⟩ := zast_inv hz
  have hsc : a < H.2.1 ∨ 1000 ≤ a := hw.2.1 (.ref a) (by simp)
  obtain ⟨rfl, f1, f2⟩ := hP
  intro tr Hh locs ls h1 h2 h3
  have ha : a < H.2.1 := by omega
  have he := zw_at' (cA := cA) (tr := tr) ha q1
  exact va_iast X.1 X.2.1 X.2.2.2.2.2.2.1 h2.1 h2.2.1 h2.2.2 a 0 he rfl f2 hd (fun H1 locs1 g1 g2 g3 => kk tr H1 locs1 ls h1 ⟨by rw [← zw_set cA tr H.1 H.2.1 _ ha]; exact g1, by rw [← zw_set cA tr H.1 H.2.1 _ ha]; exact g2, g3⟩ h3)
theorem zs_castore (X : zCx p s m args c R cA dC dI B0 tr0 own cc nL)  (hd : decode cc pc = .ok (.castore, 1)) (hz : zplain (.castore) x S = some (P, S')) (hP : P) (hw : zwf S) (kk : zGoal p l e R s m args below meth c cA dC dI B0 tr0 nL kc0 ks0 n0 Q (pc + 1) S') : zGoal p l e R s m args below meth c cA dC dI B0 tr0 nL kc0 ks0 n0 Q pc S := by
  simp only [zplain] at hz
  obtain ⟨L, y, i, a, r, H, t1, N, f, rfl, q1, rfl, rfl⟩ := zast_inv hz
  have hsc : a < H.2.1 ∨ 1000 ≤ a := hw.2.1 (.ref a) (by simp)
  obtain ⟨rfl, f1, f2⟩ := hP
  intro tr Hh locs ls h1 h2 h3
  have ha : a < H.2.1 := by omega
  have he := zw_at' (cA := cA) (tr := tr) ha q1
  exact va_cast X.1 X.2.1 X.2.2.2.2.2.2.1 h2.1 h2.2.1 h2.2.2 a 3 he rfl f2 hd (fun H1 locs1 g1 g2 g3 => kk tr H1 locs1 ls h1 ⟨by rw [← zw_set cA tr H.1 H.2.1 _ ha]; exact g1, by rw [← zw_set cA tr H.1 H.2.1 _ ha]; exact g2, g3⟩ h3)
theorem zs_lastore (X : zCx p s m args c R cA dC dI B0 tr0 own cc nL)  (hd : decode cc pc = .ok (.lastore, 1)) (hz : zplain (.lastore) x S = some (P, S')) (hP : P) (hw : zwf S) (kk : zGoal p l e R s m args below meth c cA dC dI B0 tr0 nL kc0 ks0 n0 Q (pc + 1) S') : zGoal p l e R s m args below meth c cA dC dI B0 tr0 nL kc0 ks0 n0 Q pc S := by
  simp only [zplain] at hz
  obtain ⟨L, y, i, a, r, H, t1, N, f, rfl, q1, rfl, rfl⟩ := zastl_inv hz
  have hsc : a < H.2.1 ∨ 1000 ≤ a := hw.2.1 (.ref a) (by simp)
  obtain ⟨rfl, f1, f2⟩ := hP
  intro tr Hh locs ls h1 h2 h3
  have ha : a < H.2.1 := by omega
  have he := zw_at' (cA := cA) (tr := tr) ha q1
  exact va_last X.1 X.2.1 X.2.2.2.2.2.2.1 h2.1 h2.2.1 h2.2.2 a 1 he rfl f2 hd (fun H1 locs1 g1 g2 g3 => kk tr H1 locs1 ls h1 ⟨by rw [← zw_set cA tr H.1 H.2.1 _ ha]; exact g1, by rw [← zw_set cA tr H.1 H.2.1 _ ha]; exact g2, g3⟩ h3)
theorem zs_bastore2 (X : zCx p s m args c R cA dC dI B0 tr0 own cc nL) (hx : x.2.1 = 2) (hd : decode cc pc = .ok (.bastore, 1)) (hz : zplain (.bastore) x S = some (P, S')) (hP : P) (hw : zwf S) (kk : zGoal p l e R s m args below meth c cA dC dI B0 tr0 nL kc0 ks0 n0 Q (pc + 1) S') : zGoal p l e R s m args below meth c cA dC dI B0 tr0 nL kc0 ks0 n0 Q pc S := by
  simp only [zplain, hx] at hz
  obtain ⟨L, y, i, a, r, H, t1, N, f, rfl, q1, rfl, rfl⟩ := zast_inv hz
  have hsc : a < H.2.1 ∨ 1000 ≤ a := hw.2.1 (.ref a) (by simp)
  obtain ⟨rfl, f1, f2⟩ := hP
  intro tr Hh locs ls h1 h2 h3
  have ha : a < H.2.1 := by omega
  have he := zw_at' (cA := cA) (tr := tr) ha q1
  exact va_bast X.1 X.2.1 X.2.2.2.2.2.2.1 h2.1 h2.2.1 h2.2.2 a 2 he rfl f2 hd (fun H1 locs1 g1 g2 g3 => kk tr H1 locs1 ls h1 ⟨by rw [← zw_set cA tr H.1 H.2.1 _ ha]; exact g1, by rw [← zw_set cA tr H.1 H.2.1 _ ha]; exact g2, g3⟩ h3)
theorem zs_bastore4 (X : zCx p s m args c R cA dC dI B0 tr0 own cc nL) (hx : x.2.1 = 4) (hd : decode cc pc = .ok (.bastore, 1)) (hz : zplain (.bastore) x S = some (P, S')) (hP : P) (hw : zwf S) (kk : zGoal p l e R s m args below meth c cA dC dI B0 tr0 nL kc0 ks0 n0 Q (pc + 1) S') : zGoal p l e R s m args below meth c cA dC dI B0 tr0 nL kc0 ks0 n0 Q pc S := by
  simp only [zplain, hx] at hz
  obtain ⟨L, y, i, a, r, H, t1, N, f, rfl, q1, rfl, rfl⟩ := zast_inv hz
  have hsc : a < H.2.1 ∨ 1000 ≤ a := hw.2.1 (.ref a) (by simp)
  obtain ⟨rfl, f1, f2⟩ := hP
  intro tr Hh locs ls h1 h2 h3
  have ha : a < H.2.1 := by omega
  have he := zw_at' (cA := cA) (tr := tr) ha q1
  exact va_zast X.1 X.2.1 X.2.2.2.2.2.2.1 h2.1 h2.2.1 h2.2.2 a 4 he rfl f2 hd (fun H1 locs1 g1 g2 g3 => kk tr H1 locs1 ls h1 ⟨by rw [← zw_set cA tr H.1 H.2.1 _ ha]; exact g1, by rw [← zw_set cA tr H.1 H.2.1 _ ha]; exact g2, g3⟩ h3)
theorem zs_arraylength (X : zCx p s m args c R cA dC dI B0 tr0 own cc nL)  (hd : decode cc pc = .ok (.arraylength, 1)) (hz : zplain (.arraylength) x S = some (P, S')) (hP : P) (hw : zwf S) (kk : zGoal p l e R s m args below meth c cA dC dI B0 tr0 nL kc0 ks0 n0 Q (pc + 1) S') : zGoal p l e R s m args below meth c cA dC dI B0 tr0 nL kc0 ks0 n0 Q pc S := by
  simp only [zplain] at hz
  obtain ⟨L, a, r, H, q, rfl, q1, rfl, rfl⟩ := zlen_inv hz
  have hsc : a < H.2.1 ∨ 1000 ≤ a := hw.2.1 (.ref a) (by simp)
  intro tr Hh locs ls h1 h2 h3
  unfold z_cell at q1
  by_cases hb : 1000 ≤ a
  · rw [if_pos hb] at q1
    have kk := kk tr Hh locs ls h1 h2 h3
    rcases z_sE_i q1 with ⟨rfl, rfl⟩ | ⟨j, hj, rfl, rfl⟩
    · have e1 : tr 1000 = tr0 1000 := h1 _ (by omega)
      simp only [List.map_cons, z_v, e1] at kk ⊢
      exact va_tlen X.1 X.2.1 X.2.2.2.2.2.2.2.2.1.2.1 h2.2.2 rfl hd kk
    · have e1 : tr (1101 + j) = tr0 (1101 + j) := h1 _ (by omega)
      simp only [List.map_cons, z_v, e1] at kk ⊢
      exact va_tlen X.1 X.2.1 (X.2.2.2.2.2.2.2.2.1.2.2.2.1.1 j hj).2.2.2 h2.2.2 rfl hd kk
  · rw [if_neg hb] at q1
    have he := zw_at' (cA := cA) (tr := tr) (show a < H.2.1 by omega) q1
    obtain ⟨t, e⟩ := q
    simp only at hP
    have ht : ∃ ty, (z_tys cA)[t]? = some (cA t, ty) := by
      rcases (show t = 0 ∨ t = 1 ∨ t = 2 ∨ t = 3 ∨ t = 4 by omega) with rfl | rfl | rfl | rfl | rfl <;> exact ⟨_, rfl⟩
    obtain ⟨ty, ht⟩ := ht
    exact va_alen X.1 X.2.1 X.2.2.2.2.2.2.1 h2.1 a t he ht rfl hd (kk tr Hh locs ls h1 h2 h3)
theorem zs_ldcS (X : zCx p s m args c R cA dC dI B0 tr0 own cc nL) {n a : Nat} {tx : String} (hx : x.2.2.2.1 = .ref a) (hk : (zCn own, n, tx, a) ∈ z_strs) (hd : decode cc pc = .ok (.ldc n, 2)) (hz : zplain (.ldc n) x S = some (P, S')) (hP : P) (hw : zwf S) (kk : zGoal p l e R s m args below meth c cA dC dI B0 tr0 nL kc0 ks0 n0 Q (pc + 2) S') : zGoal p l e R s m args below meth c cA dC dI B0 tr0 nL kc0 ks0 n0 Q pc S := by
  obtain ⟨L, st, H⟩ := S
  simp only [zplain, zpu, hx] at hz
  cases hz
  intro tr Hh locs ls h1 h2 h3
  have hq : 1000 ≤ a := (show ∀ q ∈ z_strs, 1000 ≤ q.2.2.2 by decide) _ hk
  have kk := kk tr Hh locs ls h1 h2 h3
  simp only [List.map_cons, z_v, h1 a (Or.inr hq)] at kk
  exact va_ldcS X.1 X.2.1 X.2.2.2.1 (X.2.2.2.2.2.2.2.2.2.1 _ hk) hd kk
theorem zs_getstatic (X : zCx p s m args c R cA dC dI B0 tr0 own cc nL) {i : Nat} {C n d : String} {v : Value} (hx : x.2.2.2.1 = v) (hv : (v = .ref 1000 ∧ C = "InnRegister" ∧ n = "POWER" ∧ d = "[I") ∨ (v = .int 1 ∧ C = "java/lang/String" ∧ n = "COMPACT_STRINGS" ∧ d = "Z")) (hlk : Cond.fieldLink (zCn own) i C n d ∈ zT ∨ ∃ host, Cond.fieldLinkNest (zCn own) i C n d host ∈ zN) (hd : decode cc pc = .ok (.getstatic i, 3)) (hz : zplain (.getstatic i) x S = some (P, S')) (hP : P) (hw : zwf S) (kk : zGoal p l e R s m args below meth c cA dC dI B0 tr0 nL kc0 ks0 n0 Q (pc + 3) S') : zGoal p l e R s m args below meth c cA dC dI B0 tr0 nL kc0 ks0 n0 Q pc S := by
  obtain ⟨L, st, H⟩ := S
  simp only [zplain, zpu, hx] at hz
  cases hz
  intro tr Hh locs ls h1 h2 h3
  have kk := kk tr Hh locs ls h1 h2 h3
  have hZ : va_Z C n d (z_v tr v) (fun q => B0 ≤ q) s s.heap := by
    rcases hv with ⟨rfl, rfl, rfl, rfl⟩ | ⟨rfl, rfl, rfl, rfl⟩
    · have e1 : tr 1000 = tr0 1000 := h1 _ (by omega)
      simp only [z_v, e1]
      exact X.2.2.2.2.2.2.2.2.1.1
    · exact X.2.2.2.2.2.2.2.2.1.2.2.1
  rcases hlk with hlk | ⟨host, hlk⟩
  · exact va_gets X.1 X.2.1 hZ h2.2.2 X.2.2.2.1 (X.2.2.2.2.1 _ hlk) (fun _ h => h) hd kk
  · exact va_getsN X.1 X.2.1 hZ h2.2.2 X.2.2.2.1 (va_Nw.use rfl (X.2.2.2.2.2.1 _ hlk)) (fun _ h => h) hd kk
end ZQ
