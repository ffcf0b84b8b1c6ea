/-! calls out of a frame, names from 1 -/
def yRl (cA dC : Nat → ClassId) (dI : Nat → Nat → Nat) (B0 : Nat) (s : State) (tr : Nat → Nat) (h : zH) (H : Heap) (locs : List Loc) : Prop := va_P (dC, dI) vwCl (yw cA tr h.1 h.2.1) H ∧ va_D (fun q => B0 ≤ q) (yw cA tr h.1 h.2.1) ∧ va_S (fun q => B0 ≤ q) s.heap H locs
theorem yw_at {cA : Nat → ClassId} {tr : Nat → Nat} {h : Nat → zE} {n k : Nat} {e : zE} (h0 : 0 < k) (hk : k < n) (he : h k = e) : (yw cA tr h n)[k - 1]? = some (tr k, z_e cA tr e) := by
  unfold yw
  rw [List.getElem?_map, List.getElem?_range (by omega)]
  show some (tr (k - 1 + 1), z_e cA tr (h (k - 1 + 1))) = _
  rw [Nat.sub_add_cancel h0, he]
theorem yPre.blind {cA dC : Nat → ClassId} {dI : Nat → Nat → Nat} {B0 : Nat} {tr : Nat → Nat} {H : zH} {as : List Value} : FrameBlind (va_Pc as (yPre cA dC dI B0 tr H)) := by
  intro a U g mk h
  obtain ⟨h0, h1, h2, h3, h4, h5, h6, h7⟩ := h
  exact ⟨h0, h1, h2, h3, va_K.moved (u := U) (U := U.calling g mk a) (Vm.Alike.refl U.vm) h4, zSt.moved (u := U) (U := U.calling g mk a) (Vm.Alike.refl U.vm) h5, fun q hq => vk_R.same (u := U) (U := U.calling g mk a) rfl (h6 q hq), fun w hw => by
    have h2 := (List.mem_filter.mp hw).2
    cases w <;> first | (exact va_Nw.same (u := U) (U := U.calling g mk a) rfl rfl (h7 _ hw)) | (cases h2)⟩
section YC
variable {p : Program} {l : Launch} {e : Env} {R : Room} {s : State} {m : MethodId} {args : Array Value} {below : List Frame} {meth : Method} {c : Code} {cA dC : Nat → ClassId} {dI : Nat → Nat → Nat} {B0 : Nat} {tr0 tr : Nat → Nat} {own nL : Nat} {cc : ByteArray} {Q : State → Prop} {pc : Nat} {H : zH} {Hh : Heap} {locs : List Loc} {cells slots d : Nat} {ls : Array Slot} {rest as : List Value} {r : zR} {M : zM} {y : Nat}
theorem y_go {mc ms n : Nat} {a : Array Value} {st0 : List Value} (hr : va_Run p l e R s m args below meth c Hh locs cells slots mc ms (F0 m pc ls st0) rest (yPost cA dC dI B0 tr n r a) (fun q => B0 ≤ q)) (hS : va_S (fun q => B0 ≤ q) s.heap Hh locs)
    (kk : ∀ (tr' : Nat → Nat) (H1 : Heap) (locs1 : List Loc), yKp n tr tr' → yRl cA dC dI B0 s tr' r.2 H1 locs1 → W p l e R s m args below meth c H1 locs1 (cells + mc) (slots + ms) Q (F0 m (pc + 3) ls ((r.1.map (z_v tr')).toList ++ rest))) : W p l e R s m args below meth c Hh locs cells slots Q (F0 m pc ls st0) := by
  intro T hT X
  obtain ⟨v, st₀, t, T', L, h0, X', hL, e1, e2, ⟨tr', hv, ht, hP, hD, hz, hk⟩, st⟩ := hr T hT X
  cases hv
  rw [h0] at hz hk
  obtain ⟨t2, a1, b1⟩ := kk tr' T'.heap (locs ++ L) ht ⟨by rw [e1]; exact hP, hD, Nat.le_trans hS.1 (by rw [e1]; exact hz), fun q h1 h2 => by rw [e1, hk q (Nat.lt_of_lt_of_le h1 hS.1) h2]; exact hS.2.1 q h1 h2, fun q hq => by
      rcases List.mem_append.mp hq with h | h
      · exact hS.2.2 q h
      · exact hL q h⟩ T' rfl X'
  exact ⟨t2, st t2 a1, b1⟩
theorem y_pre_at (X : zCx p s m args c R cA dC dI B0 tr0 own cc nL) (g1 : ∀ k, 1000 ≤ k → tr k = tr0 k) (g2 : yRl cA dC dI B0 s tr H Hh locs) : ∀ U : State, U.heap = Hh → s.WarmedH U.vm → yPre cA dC dI B0 tr H U := by
  intro U hU hW
  obtain ⟨x1, x2, x3, x4, x5, x6, x7, x8, x9, x10, -⟩ := X
  refine ⟨?_, ?_, g2.2.1, va_K.moved hW.alike x7, ?_, zSr.same (zSr.warm hW x10) g1, zNs.warm hW x6⟩
  · rw [hU]; exact Nat.le_trans x8 g2.2.2.1
  · rw [hU]; exact g2.1
  · rw [hU]
    exact zSt.same (zSt.moved hW.alike (zSt.kept x9 (fun a h1 h2 => g2.2.2.2.1 a h1 h2))) g1
theorem y_recv {b ci : Nat} (X : zCx p s m args c R cA dC dI B0 tr0 own cc nL) (g2 : yRl cA dC dI B0 s tr H Hh locs) (h0 : 0 < b) (hb : b < H.2.1) (hc : ci < 12) {fs : List Value} (hi : H.1 b = .inr (ci, fs)) : ∃ cell : Cell, Hh[tr b]? = some cell ∧ cell.vm.isStatics = false ∧ s.vm.findClass (zCls ci) = some cell.cls := by
  obtain ⟨q, e1, e2⟩ := z_cn_cl ci hc
  have he := yw_at (cA := cA) (tr := tr) h0 hb hi
  have := va_recv X.2.2.2.2.2.2.1 g2.1 e1 he
  rw [e2] at this
  unfold zCls
  rw [if_neg (by omega)]
  exact this
/-- a method of an object, called by a plain link -/
theorem yc_V {b bv ci i k : Nat} {fs avs : List Value} (hbv : tr b = bv) (hav : as.map (z_v tr) = avs) (X : zCx p s m args c R cA dC dI B0 tr0 own cc nL) (hRm : d + 3 ≤ R.frames ∧ 200 * (d + 2) ≤ R.locals) (hd : decode cc pc = .ok (.invokevirtual i, 3)) (hM : zMs[y]? = some M) (hl : Cond.methodLink (zCn own) i M.1 ∈ zT) (h3 : Cond.instanceMethod M.1 ∈ zT) (h5 : Cond.selects (zCls ci) M.1 M.1 ∈ zT) (h4 : zPn M.1 = some k) (hn : as.length = k) (hc : ci < 12) (h0 : 0 < b) (hb : b < H.2.1) (hi : H.1 b = .inr (ci, fs)) (hB : zB zMs d y (.ref b :: as) H r) (hw : yH H) (ha : ∀ v ∈ as, yok H.2.1 v) (g1 : ∀ k, 1000 ≤ k → tr k = tr0 k) (g2 : yRl cA dC dI B0 s tr H Hh locs) (hls : ls.size = nL) (h8 : (rest.map fun v => v.category).sum ≤ 8) (hf : cells + (r.2.2.2.1 - H.2.2.1) ≤ R.cells ∧ slots + (r.2.2.2.2 - H.2.2.2) ≤ R.slots)
    (kk : ∀ (tr' : Nat → Nat) (H1 : Heap) (locs1 : List Loc), yKp H.2.1 tr tr' → yRl cA dC dI B0 s tr' r.2 H1 locs1 → W p l e R s m args below meth c H1 locs1 (cells + (r.2.2.2.1 - H.2.2.1)) (slots + (r.2.2.2.2 - H.2.2.2)) Q (F0 m (pc + 3) ls ((r.1.map (z_v tr')).toList ++ rest))) : W p l e R s m args below meth c Hh locs cells slots Q (F0 m pc ls (avs.reverse ++ .ref bv :: rest)) := by
  subst hbv; subst hav
  have hMk := zMs_ok M (List.mem_of_getElem? hM)
  have met := y_sound l zMs_ok d y M (.ref b :: as) H r hM hB hw (fun v hv => by
    rcases List.mem_cons.mp hv with rfl | hv
    · exact Or.inl ⟨h0, hb⟩
    · exact ha v hv) cA dC dI B0 tr
  have fix : CallFix p m c cc nL s args zT (zCn own) := ⟨X.1, X.2.1, X.2.2.1, X.2.2.2.1, X.2.2.2.2.1⟩
  have hm3 : (zRoom d (r.2.2.2.1 - H.2.2.1) (r.2.2.2.2 - H.2.2.2)).frames + 1 ≤ R.frames ∧ 8 + (M.2.2.2.1 + 11) + (zRoom d (r.2.2.2.1 - H.2.2.1) (r.2.2.2.2 - H.2.2.2)).locals ≤ R.locals := by
    have h2 := hMk.2.1
    refine ⟨hRm.1, ?_⟩
    show 8 + (M.2.2.2.1 + 11) + 200 * (d + 1) ≤ R.locals
    omega
  have run := va_runV (l := l) (e := e) (below := below) (meth := meth) (H := Hh) (locs := locs) (cells := cells) (slots := slots) (g := F0 m pc ls ((as.map (z_v tr)).reverse ++ .ref (tr b) :: rest)) (rest := rest) fix met ⟨callB_of k X.2.2.2.2.1 (z_ws_good hMk.2.2.1) rfl rfl rfl (X.2.2.2.2.1 _ hMk.2.2.2.1) (X.2.2.2.2.1 _ hl) ⟨hMk.2.2.2.2.1.1, hMk.2.2.2.2.1.2, h4⟩ hm3, X.2.2.2.2.1 _ h3, X.2.2.2.2.1 _ h5⟩ ⟨yPre.blind, y_recv X g2 h0 hb hc hi, fun U hU hW => ⟨rfl, y_pre_at X g1 g2 U hU hW⟩⟩ rfl (by rw [List.length_map]; exact hn) hls rfl (lv_room h8) hd hf
  exact y_go run g2.2.2 kk
/-- a constructor -/
theorem yc_I {b bv i k : Nat} {avs : List Value} (hbv : tr b = bv) (hav : as.map (z_v tr) = avs) (X : zCx p s m args c R cA dC dI B0 tr0 own cc nL) (hRm : d + 3 ≤ R.frames ∧ 200 * (d + 2) ≤ R.locals) (hd : decode cc pc = .ok (.invokespecial i, 3)) (hM : zMs[y]? = some M) (hl : Cond.methodLink (zCn own) i M.1 ∈ zT) (h3 : Cond.instanceMethod M.1 ∈ zT) (h5 : M.1.name = "<init>") (h6 : M.2.2.2.2.1 = none) (h4 : zPn M.1 = some k) (hn : as.length = k) (h0 : 0 < b) (hb : b < H.2.1) (hB : zB zMs d y (.ref b :: as) H r) (hw : yH H) (ha : ∀ v ∈ as, yok H.2.1 v) (g1 : ∀ k, 1000 ≤ k → tr k = tr0 k) (g2 : yRl cA dC dI B0 s tr H Hh locs) (hls : ls.size = nL) (h8 : (rest.map fun v => v.category).sum ≤ 8) (hf : cells + (r.2.2.2.1 - H.2.2.1) ≤ R.cells ∧ slots + (r.2.2.2.2 - H.2.2.2) ≤ R.slots)
    (kk : ∀ (tr' : Nat → Nat) (H1 : Heap) (locs1 : List Loc), yKp H.2.1 tr tr' → yRl cA dC dI B0 s tr' r.2 H1 locs1 → W p l e R s m args below meth c H1 locs1 (cells + (r.2.2.2.1 - H.2.2.1)) (slots + (r.2.2.2.2 - H.2.2.2)) Q (F0 m (pc + 3) ls ((r.1.map (z_v tr')).toList ++ rest))) : W p l e R s m args below meth c Hh locs cells slots Q (F0 m pc ls (avs.reverse ++ .ref bv :: rest)) := by
  subst hbv; subst hav
  have hMk := zMs_ok M (List.mem_of_getElem? hM)
  have met := y_sound l zMs_ok d y M (.ref b :: as) H r hM hB hw (fun v hv => by
    rcases List.mem_cons.mp hv with rfl | hv
    · exact Or.inl ⟨h0, hb⟩
    · exact ha v hv) cA dC dI B0 tr
  rw [h6] at met
  have hg : GoodIn zT (Cond.code M.1 M.2.2.1 M.2.2.2.1 none :: zT) := by have := z_ws_good hMk.2.2.1; rw [h6] at this; exact this
  have fix : CallFix p m c cc nL s args zT (zCn own) := ⟨X.1, X.2.1, X.2.2.1, X.2.2.2.1, X.2.2.2.2.1⟩
  have hm3 : (zRoom d (r.2.2.2.1 - H.2.2.1) (r.2.2.2.2 - H.2.2.2)).frames + 1 ≤ R.frames ∧ 8 + (M.2.2.2.1 + 11) + (zRoom d (r.2.2.2.1 - H.2.2.1) (r.2.2.2.2 - H.2.2.2)).locals ≤ R.locals := by
    have h2 := hMk.2.1
    refine ⟨hRm.1, ?_⟩
    show 8 + (M.2.2.2.1 + 11) + 200 * (d + 1) ≤ R.locals
    omega
  have run := va_runI (l := l) (e := e) (below := below) (meth := meth) (H := Hh) (locs := locs) (cells := cells) (slots := slots) (g := F0 m pc ls ((as.map (z_v tr)).reverse ++ .ref (tr b) :: rest)) (rest := rest) fix met (cwI k X.2.2.2.2.1 hg rfl rfl rfl (X.2.2.2.2.1 _ hMk.2.2.2.1) (X.2.2.2.2.1 _ hl) (X.2.2.2.2.1 _ h3) h5 ⟨hMk.2.2.2.2.1.1, hMk.2.2.2.2.1.2, h4⟩ hm3) ⟨yPre.blind, fun U hU hW => ⟨rfl, y_pre_at X g1 g2 U hU hW⟩⟩ rfl (by rw [List.length_map]; exact hn) hls rfl (lv_room h8) hd hf
  exact y_go run g2.2.2 kk
end YC
theorem y_eq {d y : Nat} {as : List Value} {H : zH} {r : zR} (h : ∀ Q, zK d y as H Q = Q r) : zB zMs d y as H r := by
  have h1 : zK d y as H (fun v => v = r) := by rw [h]
  obtain ⟨v, h2, rfl⟩ := h1
  exact h2
