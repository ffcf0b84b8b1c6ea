/-! the law's helpers: they answer 0 and lay the value into the row, or 1 where the class threw -/
theorem yPX.blind {cA dC : Nat → ClassId} {dI : Nat → Nat → Nat} {B0 : Nat} {tr : Nat → Nat} {H : zH} {as : List Value} : FrameBlind (va_Pc as (fun U => yPre cA dC dI B0 tr H U ∧ zPX B0 U)) := by
  intro a U g mk h
  obtain ⟨h0, h1, h2⟩ := h
  exact ⟨h0, (yPre.blind (as := as) a U g mk ⟨h0, h1⟩).2, h2.call⟩
section ZXG
variable {p : Program} {l : Launch} {e : Env} {R : Room} {s : State} {m : MethodId} {args : Array Value} {below : List Frame} {meth : Method} {c : Code} {cA dC : Nat → ClassId} {dI : Nat → Nat → Nat} {B0 : Nat} {tr0 tr : Nat → Nat} {own nL : Nat} {cc : ByteArray} {Q : State → Prop} {pc : Nat} {H : zH} {Hh : Heap} {locs : List Loc} {cells slots d : Nat} {ls : Array Slot} {rest as : List Value} {r : zR} {M : zM} {y : Nat}
theorem zx_go {mc ms : Nat} {st0 : List Value} (hr : vx_Run p l e R s m args below meth c Hh locs cells slots mc ms (F0 m pc ls st0) rest (fun _ _ _ => False) (yXC cA dC dI B0 tr H) (fun q => B0 ≤ q)) (hS : va_S (fun q => B0 ≤ q) s.heap Hh locs)
    (kx : ∀ (tr' : Nat → Nat) (H1 : Heap) (locs1 : List Loc) (q9 : Addr) (ce : Cell), yKp H.2.1 tr tr' → yRl cA dC dI B0 s tr' H H1 locs1 → H1[q9]? = some ce → ce.vm = .none → s.vm.findClass zNse = some ce.cls → vx_W p l e R s m args below meth c H1 locs1 (cells + mc) (slots + ms) Q (F0 m pc ls rest) q9) : W p l e R s m args below meth c Hh locs cells slots Q (F0 m pc ls st0) := by
  intro T hT X
  rcases hr T hT X with ⟨v, st₀, t, T', L, h0, X', hL, e1, e2, hF, st⟩ | ⟨q, st₀, t, T', L, E, ce, h0, X', hL, e1, e2, ⟨rfl, tr', ht, hP, hD, hz, hk⟩, hce, hcv, hcl, st⟩
  · exact absurd hF id
  · rw [h0] at hz hk
    obtain ⟨t2, a1, b1⟩ := kx tr' T'.heap (locs ++ L) q ce ht ⟨by rw [e1]; exact hP, hD, Nat.le_trans hS.1 (by rw [e1]; exact hz), fun q h1 h2 => by rw [e1, hk q (Nat.lt_of_lt_of_le h1 hS.1) h2]; exact hS.2.1 q h1 h2, fun q hq => by
      rcases List.mem_append.mp hq with h | h
      · exact hS.2.2 q h
      · exact hL q h⟩ (by rw [e1]; exact hce) hcv hcl T' rfl X'
    exact ⟨t2, st.trans a1, b1⟩
/-- a static method with a table, called -/
theorem yc_S {yh : MethodName} {hh : List (Nat × Nat × Nat × Nat)} {cch : ByteArray} {maxL i k mc ms : Nat} {ret : Option FieldType} {avs : List Value} (X : zCx p s m args c R cA dC dI B0 tr0 own cc nL) (hRm : d + 3 ≤ R.frames ∧ 200 * (d + 2) ≤ R.locals) (hd : decode cc pc = .ok (.invokestatic i, 3)) (met : Met l yh (Cond.codeWith yh cch maxL ret hh :: zT) (zRoom d mc ms) (va_Pc avs (fun U => yPre cA dC dI B0 tr H U ∧ zPX B0 U)) (yPost cA dC dI B0 tr H.2.1 r) mc ms (fun q => B0 ≤ q)) (hcw : Cond.codeWith yh cch maxL ret hh ∈ zT) (hl : Cond.methodLink (zCn own) i yh ∈ zT) (hs : Cond.static yh ∈ zT) (hi : Cond.initialized yh.cls ∈ zT) (hcl : yh.cls ≠ "java/lang/invoke/MethodHandle" ∧ yh.cls ≠ "java/lang/invoke/VarHandle") (h4 : zPn yh = some k) (hn : avs.length = k) (hmL : maxL ≤ 100) (hX : zPX B0 s) (g1 : ∀ k, 1000 ≤ k → tr k = tr0 k) (g2 : yRl cA dC dI B0 s tr H Hh locs) (hls : ls.size = nL) (h8 : (rest.map fun v => v.category).sum ≤ 8) (hf : cells + mc ≤ R.cells ∧ slots + ms ≤ R.slots)
    (kk : ∀ (tr' : Nat → Nat) (H1 : Heap) (locs1 : List Loc), yKp H.2.1 tr tr' → yRl cA dC dI B0 s tr' r.2 H1 locs1 → W p l e R s m args below meth c H1 locs1 (cells + mc) (slots + ms) Q (F0 m (pc + 3) ls ((r.1.map (z_v tr')).toList ++ rest))) : W p l e R s m args below meth c Hh locs cells slots Q (F0 m pc ls (avs.reverse ++ rest)) := by
  have fix : CallFix p m c cc nL s args zT (zCn own) := ⟨X.1, X.2.1, X.2.2.1, X.2.2.2.1, X.2.2.2.2.1⟩
  have hG : GoodIn zT (Cond.codeWith yh cch maxL ret hh :: zT) := z_T_good (fun w hw => (List.mem_cons.mp hw).elim (fun e => e ▸ hcw) id)
  have cw : vx_CSW R s args (zCn own) i yh cch maxL ret hh (Cond.codeWith yh cch maxL ret hh :: zT) (zRoom d mc ms) mc ms k := by
    refine ⟨⟨rfl, rfl, hRm.1, ?_, pay_in X.2.2.2.2.1 hG, List.mem_cons_self⟩, X.2.2.2.2.1 _ hcw, X.2.2.2.2.1 _ hi, hcl, fun sig h => ?_, X.2.2.2.2.1 _ hl, X.2.2.2.2.1 _ hs⟩
    · show 8 + (maxL + 11) + 200 * (d + 1) ≤ R.locals
      omega
    · have h2 := h4
      unfold zPn at h2
      rw [h] at h2
      exact (Option.some.inj h2).symm
  have run := vx_runSW (l := l) (e := e) (below := below) (meth := meth) (H := Hh) (locs := locs) (cells := cells) (slots := slots) (g := F0 m pc ls (avs.reverse ++ rest)) (rest := rest) fix met cw ⟨yPX.blind, fun U hU hW => ⟨rfl, y_pre_at X g1 g2 U hU hW, hX.at hW hU g2.2.2⟩⟩ rfl hn hls rfl (lv_room h8) hd hf
  exact y_go run g2.2.2 kk
/-- a method that throws, called by a plain link -/
theorem yc_X {b bv i k pcT : Nat} {fs avs : List Value} (hst : l.stackTraces = false) (hd4 : 4 ≤ d) (hbv : tr b = bv) (hav : as.map (z_v tr) = avs) (X : zCx p s m args c R cA dC dI B0 tr0 own cc nL) (hRm : d + 4 ≤ R.frames ∧ 200 * (d + 3) ≤ R.locals) (hd : decode cc pc = .ok (.invokevirtual i, 3)) (hM : zMs[y]? = some M) (hl : Cond.methodLink (zCn own) i M.1 ∈ zT) (h3 : Cond.instanceMethod M.1 ∈ zT) (h5 : Cond.selects (zCls 10) M.1 M.1 ∈ zT) (h4 : zPn M.1 = some k) (hn : as.length = k) (h0 : 0 < b) (hb : b < H.2.1) (hi : H.1 b = .inr (10, fs)) (hw : yH H) (ha : ∀ v ∈ as, yok H.2.1 v) (hown : M.2.1 = 10) (hP : zP d M (fun pc S => pc = pcT ∧ S.2.1 = [] ∧ S.2.2 = H) 0 (z_in M.2.2.2.1 (.ref b :: as), [], H)) (hle : ((Value.ref b :: as).flatMap fun v => if v.category = 2 then [v, Value.null] else [v]).length ≤ M.2.2.2.1) (d0 : decode M.2.2.1 pcT = .ok (.new 146, 3)) (d3 : decode M.2.2.1 (pcT + 3) = .ok (.dup, 1)) (d4 : decode M.2.2.1 (pcT + 4) = .ok (.invokespecial 148, 3)) (d7 : decode M.2.2.1 (pcT + 7) = .ok (.athrow, 1)) (hX : zPX B0 s) (g1 : ∀ k, 1000 ≤ k → tr k = tr0 k) (g2 : yRl cA dC dI B0 s tr H Hh locs) (hls : ls.size = nL) (h8 : (rest.map fun v => v.category).sum ≤ 8) (hf : cells + 1 ≤ R.cells ∧ slots + 6 ≤ R.slots)
    (kx : ∀ (tr' : Nat → Nat) (H1 : Heap) (locs1 : List Loc) (q9 : Addr) (ce : Cell), yKp H.2.1 tr tr' → yRl cA dC dI B0 s tr' H H1 locs1 → H1[q9]? = some ce → ce.vm = .none → s.vm.findClass zNse = some ce.cls → vx_W p l e R s m args below meth c H1 locs1 (cells + 1) (slots + 6) Q (F0 m pc ls rest) q9) : W p l e R s m args below meth c Hh locs cells slots Q (F0 m pc ls (avs.reverse ++ .ref bv :: rest)) := by
  subst hbv; subst hav
  have hMk := zMs_ok M (List.mem_of_getElem? hM)
  have met := x_thrY l hst hd4 hM hown hP hle hw (fun v hv => by
    rcases List.mem_cons.mp hv with rfl | hv
    · exact Or.inl ⟨h0, hb⟩
    · exact ha v hv) d0 d3 d4 d7 cA dC dI B0 tr
  have fix : CallFix p m c cc nL s args zT (zCn own) := ⟨X.1, X.2.1, X.2.2.1, X.2.2.2.1, X.2.2.2.2.1⟩
  have hm3 : (zRoom (d + 1) 1 6).frames + 1 ≤ R.frames ∧ 8 + (M.2.2.2.1 + 11) + (zRoom (d + 1) 1 6).locals ≤ R.locals := by
    have h2 := hMk.2.1
    refine ⟨hRm.1, ?_⟩
    show 8 + (M.2.2.2.1 + 11) + 200 * (d + 1 + 1) ≤ R.locals
    omega
  have run := vx_runV (l := l) (e := e) (below := below) (meth := meth) (H := Hh) (locs := locs) (cells := cells) (slots := slots) (g := F0 m pc ls ((as.map (z_v tr)).reverse ++ .ref (tr b) :: rest)) (rest := rest) fix met ⟨callB_of k X.2.2.2.2.1 (z_ws_good hMk.2.2.1) rfl rfl rfl (X.2.2.2.2.1 _ hMk.2.2.2.1) (X.2.2.2.2.1 _ hl) ⟨hMk.2.2.2.2.1.1, hMk.2.2.2.2.1.2, h4⟩ hm3, X.2.2.2.2.1 _ h3, X.2.2.2.2.1 _ h5⟩ ⟨yPX.blind, y_recv X g2 h0 hb (by decide) hi, fun U hU hW => ⟨rfl, y_pre_at X g1 g2 U hU hW, hX.at hW hU g2.2.2⟩⟩ rfl (by rw [List.length_map]; exact hn) hls rfl (lv_room h8) hd hf
  exact zx_go run g2.2.2 kx
end ZXG
theorem x_w6 : Cond.classLink RL 13 zNse ∈ zT := by decide +kernel
theorem x_row0 : vp_in (0 : Int32) 1 := by unfold vp_in; decide
theorem x_lguest : Cond.methodLink (zCn 12) 7 MX10_guest.1 ∈ zT ∧ Cond.instanceMethod MX10_guest.1 ∈ zT ∧ Cond.selects (zCls 10) MX10_guest.1 MX10_guest.1 ∈ zT := by decide +kernel
set_option maxHeartbeats 4000000 in
theorem h_guest_n (l : Launch) {d : Nat} {H : zH} {a b : Int32} {x0 o : Nat} {fs : List Value} (hw : yH H) (h90 : 90 < H.2.1) (hi : H.1 1 = .inr (10, fs)) {v : Int32} {f : Nat → Int64} (hf9 : H.1 90 = zJ 1 f) (hB : zB zMs d 135 [.ref 1, .int a, .int b] H (some (.int v), H)) (cA dC : Nat → ClassId) (dI : Nat → Nat → Nat) (B0 : Nat) (tr : Nat → Nat) (hx0 : tr 1 = x0) (ho : tr 90 = o) : Met l yL_guest (Cond.codeWith yL_guest cL_guest 5 (some .int) [(0, 10, 13, 13)] :: zT) (zRoom (d + 1) 0 0) (va_Pc [.ref x0, .int a, .int b, .ref o] (fun U => yPre cA dC dI B0 tr H U ∧ zPX B0 U)) (yPost cA dC dI B0 tr H.2.1 (some (.int 0), (z_up H.1 90 (zJ 1 (vp_updL f 0 (v.toInt64))), H.2))) 0 0 (fun q => B0 ≤ q) := by
  refine va_MetW (hh := [(0, 10, 13, 13)]) (cc := cL_guest) (maxL := 5) (ret := some .int) (by decide) rfl ?_
  intro p e s m args below meth c s₁ B hml hv
  obtain ⟨rfl, ⟨q0, q1, q2, q3, q4, q5, q6⟩, qX⟩ := hv
  have hts := atoms_spec (ws := Cond.codeWith yL_guest cL_guest 5 (some .int) [(0, 10, 13, 13)] :: zT) B.pre
  have hown : s.vm.findClass RL = some m.cls := findClass_of_methodNamed B.named
  have X : zCx p s m ([.ref x0, .int a, .int b, .ref o] : List Value).toArray c (zRoom (d + 1) 0 0) cA dC dI B0 tr 12 cL_guest 5 := ⟨B.exec, B.bytes, hml, hown, fun w hw => hts w (List.mem_cons_of_mem _ hw), q6, q3, q0, q4, q5, Nat.le_add_left 2 _, by show 200 ≤ 200 * (d + 1 + 1); omega⟩
  have hlv := lv_entry ([.ref x0, .int a, .int b, .ref o]) (n := 5) (Nat.le_of_ble_eq_true rfl)
  rw [lg_entry_eq]
  generalize (lg_sl ([.ref x0, .int a, .int b, .ref o]) ++ List.replicate (5 - (lg_sl ([.ref x0, .int a, .int b, .ref o])).length) Slot.unset).toArray = ls at hlv ⊢
  have hl : lv_has ls 5 [(0, .ref x0), (1, .int a), (2, .int b), (3, .ref o)] := hlv
  refine lv_aload_n B.exec B.bytes dL_guest_0 rfl (lv_at hl 3 rfl) ?_
  refine lv_iconst (v := 0) B.exec B.bytes dL_guest_1 (by decide) ?_
  refine lv_aload_n B.exec B.bytes dL_guest_2 rfl (lv_at hl 0 rfl) ?_
  refine lv_iload_n B.exec B.bytes dL_guest_3 rfl (lv_at hl 1 rfl) ?_
  refine lv_iload_n B.exec B.bytes dL_guest_4 rfl (lv_at hl 2 rfl) ?_
  refine yc_V (d := d) (y := 135) (M := MX10_guest) (as := [.int a, .int b]) (avs := [.int a, .int b]) (rest := [.int 0, .ref o]) (ci := 10) (k := 2) (b := 1) (bv := x0) (tr := tr) (H := H) (r := (some (.int v), H)) hx0 rfl X ⟨Nat.le_refl _, Nat.le_refl _⟩ dL_guest_5 rfl x_lguest.1 x_lguest.2.1 x_lguest.2.2 (by decide +kernel) rfl (by decide) (by decide) (Nat.lt_trans (by decide) h90) hi hB hw (fun v hv => by simp only [List.mem_cons, List.not_mem_nil, or_false] at hv; rcases hv with rfl | rfl <;> trivial) (fun _ _ => rfl) ⟨q1, q2, va_S.rf⟩ hl.1 (Nat.le_of_ble_eq_true rfl) ⟨by show 0 + (H.2.2.1 - H.2.2.1) ≤ 0; omega, by show 0 + (H.2.2.2 - H.2.2.2) ≤ 0; omega⟩ (fun tr' H1 locs1 t1 g2 => ?_)
  show W p l e _ s m _ below meth c H1 locs1 (0 + (H.2.2.1 - H.2.2.1)) (0 + (H.2.2.2 - H.2.2.2)) _ (F0 m 8 ls [.int v, .int 0, .ref o])
  rw [Nat.sub_self, Nat.sub_self]
  have e90 : tr' 90 = o := (t1 90 (Or.inl ⟨by decide, h90⟩)).trans ho
  refine lv_i2l (v := v.toInt64) B.exec B.bytes dL_guest_8 rfl ?_
  have he := yw_at (cA := cA) (tr := tr') (k := 90) (by decide) h90 hf9
  have es := yw_set cA tr' H.1 H.2.1 (k := 90) (zJ 1 (vp_updL f 0 (v.toInt64))) (by decide) h90
  rw [e90] at he es
  refine va_last B.exec B.bytes q3 g2.1 g2.2.1 g2.2.2 89 1 he rfl x_row0 dL_guest_9 (fun H2 locs2 k1 k2 k3 => ?_)
  have k1 : va_P (dC, dI) vwCl ((yw cA tr' H.1 H.2.1).set 89 (o, z_e cA tr' (zJ 1 (vp_updL f 0 (v.toInt64))))) H2 := k1
  have k2 : va_D (fun q => B0 ≤ q) ((yw cA tr' H.1 H.2.1).set 89 (o, z_e cA tr' (zJ 1 (vp_updL f 0 (v.toInt64))))) := k2
  rw [es] at k1 k2
  refine lv_goto (tgt := 17) B.exec B.bytes dL_guest_10 (by decide) ?_
  refine lv_iconst (v := 0) B.exec B.bytes dL_guest_17 (by decide) ?_
  exact W.zret B.exec B.bytes B.returns rfl (fun t ht _ => ⟨tr', rfl, t1, by rw [ht]; exact k1, k2, k3.F ht⟩) (fun q hq => k3.2.2 q hq) dL_guest_18 B.notSynchronized
set_option maxHeartbeats 4000000 in
theorem h_guest_t (l : Launch) (hst : l.stackTraces = false) {d : Nat} (hd : 4 ≤ d) {H : zH} {a b : Int32} {x0 o : Nat} {fs : List Value} (hw : yH H) (h90 : 90 < H.2.1) (hi : H.1 1 = .inr (10, fs)) (hP : zP d MX10_guest (fun pc S => pc = 20 ∧ S.2.1 = [] ∧ S.2.2 = H) 0 (z_in MX10_guest.2.2.2.1 [.ref 1, .int a, .int b], [], H)) (cA dC : Nat → ClassId) (dI : Nat → Nat → Nat) (B0 : Nat) (tr : Nat → Nat) (hx0 : tr 1 = x0) (ho : tr 90 = o) : Met l yL_guest (Cond.codeWith yL_guest cL_guest 5 (some .int) [(0, 10, 13, 13)] :: zT) (zRoom (d + 2) 1 6) (va_Pc [.ref x0, .int a, .int b, .ref o] (fun U => yPre cA dC dI B0 tr H U ∧ zPX B0 U)) (yPost cA dC dI B0 tr H.2.1 (some (.int 1), (H.1, (H.2.1, H.2.2.1 + 1, H.2.2.2 + 6)))) 1 6 (fun q => B0 ≤ q) := by
  refine va_MetW (hh := [(0, 10, 13, 13)]) (cc := cL_guest) (maxL := 5) (ret := some .int) (by decide) rfl ?_
  intro p e s m args below meth c s₁ B hml hv
  obtain ⟨rfl, ⟨q0, q1, q2, q3, q4, q5, q6⟩, qX⟩ := hv
  have hts := atoms_spec (ws := Cond.codeWith yL_guest cL_guest 5 (some .int) [(0, 10, 13, 13)] :: zT) B.pre
  have hown : s.vm.findClass RL = some m.cls := findClass_of_methodNamed B.named
  have X : zCx p s m ([.ref x0, .int a, .int b, .ref o] : List Value).toArray c (zRoom (d + 2) 1 6) cA dC dI B0 tr 12 cL_guest 5 := ⟨B.exec, B.bytes, hml, hown, fun w hw => hts w (List.mem_cons_of_mem _ hw), q6, q3, q0, q4, q5, Nat.le_add_left 2 _, by show 200 ≤ 200 * (d + 2 + 1); omega⟩
  have hlv := lv_entry ([.ref x0, .int a, .int b, .ref o]) (n := 5) (Nat.le_of_ble_eq_true rfl)
  rw [lg_entry_eq]
  generalize (lg_sl ([.ref x0, .int a, .int b, .ref o]) ++ List.replicate (5 - (lg_sl ([.ref x0, .int a, .int b, .ref o])).length) Slot.unset).toArray = ls at hlv ⊢
  have hl : lv_has ls 5 [(0, .ref x0), (1, .int a), (2, .int b), (3, .ref o)] := hlv
  refine lv_aload_n B.exec B.bytes dL_guest_0 rfl (lv_at hl 3 rfl) ?_
  refine lv_iconst (v := 0) B.exec B.bytes dL_guest_1 (by decide) ?_
  refine lv_aload_n B.exec B.bytes dL_guest_2 rfl (lv_at hl 0 rfl) ?_
  refine lv_iload_n B.exec B.bytes dL_guest_3 rfl (lv_at hl 1 rfl) ?_
  refine lv_iload_n B.exec B.bytes dL_guest_4 rfl (lv_at hl 2 rfl) ?_
  refine yc_X (d := d) (y := 135) (M := MX10_guest) (as := [.int a, .int b]) (avs := [.int a, .int b]) (rest := [.int 0, .ref o]) (k := 2) (b := 1) (bv := x0) (tr := tr) (H := H) (pcT := 20) hst hd hx0 rfl X ⟨Nat.le_refl _, Nat.le_refl _⟩ dL_guest_5 rfl x_lguest.1 x_lguest.2.1 x_lguest.2.2 (by decide +kernel) rfl (by decide) (Nat.lt_trans (by decide) h90) hi hw (fun v hv => by simp only [List.mem_cons, List.not_mem_nil, or_false] at hv; rcases hv with rfl | rfl <;> trivial) rfl hP (Nat.le_of_ble_eq_true rfl) (by decide +kernel) (by decide +kernel) (by decide +kernel) (by decide +kernel) qX (fun _ _ => rfl) ⟨q1, q2, va_S.rf⟩ hl.1 (Nat.le_of_ble_eq_true rfl) ⟨Nat.le_refl _, Nat.le_refl _⟩ (fun tr' H1 locs1 q9 ce t1 g2 hce hcv hcl => ?_)
  refine vx_catch (own := RL) (name := zNse) (E := zNse) hown ⟨0, 10, 13, 13⟩ (by rw [vx_table (x := yL_guest) B (hts _ List.mem_cons_self)]; rfl) rfl (by decide) (hts _ (List.mem_cons_of_mem _ x_w6)) (va_Nw.use rfl (qX.1 (.castable zNse zNse) List.mem_cons_self)) hce hcv hcl ?_
  refine lv_astore (lv' := ((4, Value.ref q9) :: [(0, .ref x0), (1, .int a), (2, .int b), (3, .ref o)])) B.exec B.bytes dL_guest_13 hl (by decide) rfl (fun ls hl => ?_)
  refine lv_iconst (v := 1) B.exec B.bytes dL_guest_15 (by decide) ?_
  exact W.zret B.exec B.bytes B.returns rfl (fun t ht _ => ⟨tr', rfl, t1, by rw [ht]; exact g2.1, g2.2.1, g2.2.2.F ht⟩) (fun q hq => g2.2.2.2.2 q hq) dL_guest_16 B.notSynchronized
theorem x_lpair : Cond.methodLink (zCn 12) 15 MX10_pair.1 ∈ zT ∧ Cond.instanceMethod MX10_pair.1 ∈ zT ∧ Cond.selects (zCls 10) MX10_pair.1 MX10_pair.1 ∈ zT := by decide +kernel
set_option maxHeartbeats 4000000 in
theorem h_pair_n (l : Launch) {d : Nat} {H : zH} {a b : Int32} {x0 o : Nat} {fs : List Value} (hw : yH H) (h90 : 90 < H.2.1) (hi : H.1 1 = .inr (10, fs)) {v : Int32} {f : Nat → Int64} (hf9 : H.1 90 = zJ 1 f) (hB : zB zMs d 136 [.ref 1, .int a, .int b] H (some (.int v), H)) (cA dC : Nat → ClassId) (dI : Nat → Nat → Nat) (B0 : Nat) (tr : Nat → Nat) (hx0 : tr 1 = x0) (ho : tr 90 = o) : Met l yL_pair (Cond.codeWith yL_pair cL_pair 5 (some .int) [(0, 10, 13, 13)] :: zT) (zRoom (d + 1) 0 0) (va_Pc [.ref x0, .int a, .int b, .ref o] (fun U => yPre cA dC dI B0 tr H U ∧ zPX B0 U)) (yPost cA dC dI B0 tr H.2.1 (some (.int 0), (z_up H.1 90 (zJ 1 (vp_updL f 0 (v.toInt64))), H.2))) 0 0 (fun q => B0 ≤ q) := by
  refine va_MetW (hh := [(0, 10, 13, 13)]) (cc := cL_pair) (maxL := 5) (ret := some .int) (by decide) rfl ?_
  intro p e s m args below meth c s₁ B hml hv
  obtain ⟨rfl, ⟨q0, q1, q2, q3, q4, q5, q6⟩, qX⟩ := hv
  have hts := atoms_spec (ws := Cond.codeWith yL_pair cL_pair 5 (some .int) [(0, 10, 13, 13)] :: zT) B.pre
  have hown : s.vm.findClass RL = some m.cls := findClass_of_methodNamed B.named
  have X : zCx p s m ([.ref x0, .int a, .int b, .ref o] : List Value).toArray c (zRoom (d + 1) 0 0) cA dC dI B0 tr 12 cL_pair 5 := ⟨B.exec, B.bytes, hml, hown, fun w hw => hts w (List.mem_cons_of_mem _ hw), q6, q3, q0, q4, q5, Nat.le_add_left 2 _, by show 200 ≤ 200 * (d + 1 + 1); omega⟩
  have hlv := lv_entry ([.ref x0, .int a, .int b, .ref o]) (n := 5) (Nat.le_of_ble_eq_true rfl)
  rw [lg_entry_eq]
  generalize (lg_sl ([.ref x0, .int a, .int b, .ref o]) ++ List.replicate (5 - (lg_sl ([.ref x0, .int a, .int b, .ref o])).length) Slot.unset).toArray = ls at hlv ⊢
  have hl : lv_has ls 5 [(0, .ref x0), (1, .int a), (2, .int b), (3, .ref o)] := hlv
  refine lv_aload_n B.exec B.bytes dL_pair_0 rfl (lv_at hl 3 rfl) ?_
  refine lv_iconst (v := 0) B.exec B.bytes dL_pair_1 (by decide) ?_
  refine lv_aload_n B.exec B.bytes dL_pair_2 rfl (lv_at hl 0 rfl) ?_
  refine lv_iload_n B.exec B.bytes dL_pair_3 rfl (lv_at hl 1 rfl) ?_
  refine lv_iload_n B.exec B.bytes dL_pair_4 rfl (lv_at hl 2 rfl) ?_
  refine yc_V (d := d) (y := 136) (M := MX10_pair) (as := [.int a, .int b]) (avs := [.int a, .int b]) (rest := [.int 0, .ref o]) (ci := 10) (k := 2) (b := 1) (bv := x0) (tr := tr) (H := H) (r := (some (.int v), H)) hx0 rfl X ⟨Nat.le_refl _, Nat.le_refl _⟩ dL_pair_5 rfl x_lpair.1 x_lpair.2.1 x_lpair.2.2 (by decide +kernel) rfl (by decide) (by decide) (Nat.lt_trans (by decide) h90) hi hB hw (fun v hv => by simp only [List.mem_cons, List.not_mem_nil, or_false] at hv; rcases hv with rfl | rfl <;> trivial) (fun _ _ => rfl) ⟨q1, q2, va_S.rf⟩ hl.1 (Nat.le_of_ble_eq_true rfl) ⟨by show 0 + (H.2.2.1 - H.2.2.1) ≤ 0; omega, by show 0 + (H.2.2.2 - H.2.2.2) ≤ 0; omega⟩ (fun tr' H1 locs1 t1 g2 => ?_)
  show W p l e _ s m _ below meth c H1 locs1 (0 + (H.2.2.1 - H.2.2.1)) (0 + (H.2.2.2 - H.2.2.2)) _ (F0 m 8 ls [.int v, .int 0, .ref o])
  rw [Nat.sub_self, Nat.sub_self]
  have e90 : tr' 90 = o := (t1 90 (Or.inl ⟨by decide, h90⟩)).trans ho
  refine lv_i2l (v := v.toInt64) B.exec B.bytes dL_pair_8 rfl ?_
  have he := yw_at (cA := cA) (tr := tr') (k := 90) (by decide) h90 hf9
  have es := yw_set cA tr' H.1 H.2.1 (k := 90) (zJ 1 (vp_updL f 0 (v.toInt64))) (by decide) h90
  rw [e90] at he es
  refine va_last B.exec B.bytes q3 g2.1 g2.2.1 g2.2.2 89 1 he rfl x_row0 dL_pair_9 (fun H2 locs2 k1 k2 k3 => ?_)
  have k1 : va_P (dC, dI) vwCl ((yw cA tr' H.1 H.2.1).set 89 (o, z_e cA tr' (zJ 1 (vp_updL f 0 (v.toInt64))))) H2 := k1
  have k2 : va_D (fun q => B0 ≤ q) ((yw cA tr' H.1 H.2.1).set 89 (o, z_e cA tr' (zJ 1 (vp_updL f 0 (v.toInt64))))) := k2
  rw [es] at k1 k2
  refine lv_goto (tgt := 17) B.exec B.bytes dL_pair_10 (by decide) ?_
  refine lv_iconst (v := 0) B.exec B.bytes dL_pair_17 (by decide) ?_
  exact W.zret B.exec B.bytes B.returns rfl (fun t ht _ => ⟨tr', rfl, t1, by rw [ht]; exact k1, k2, k3.F ht⟩) (fun q hq => k3.2.2 q hq) dL_pair_18 B.notSynchronized
set_option maxHeartbeats 4000000 in
theorem h_pair_t (l : Launch) (hst : l.stackTraces = false) {d : Nat} (hd : 4 ≤ d) {H : zH} {a b : Int32} {x0 o : Nat} {fs : List Value} (hw : yH H) (h90 : 90 < H.2.1) (hi : H.1 1 = .inr (10, fs)) (hP : zP d MX10_pair (fun pc S => pc = 12 ∧ S.2.1 = [] ∧ S.2.2 = H) 0 (z_in MX10_pair.2.2.2.1 [.ref 1, .int a, .int b], [], H)) (cA dC : Nat → ClassId) (dI : Nat → Nat → Nat) (B0 : Nat) (tr : Nat → Nat) (hx0 : tr 1 = x0) (ho : tr 90 = o) : Met l yL_pair (Cond.codeWith yL_pair cL_pair 5 (some .int) [(0, 10, 13, 13)] :: zT) (zRoom (d + 2) 1 6) (va_Pc [.ref x0, .int a, .int b, .ref o] (fun U => yPre cA dC dI B0 tr H U ∧ zPX B0 U)) (yPost cA dC dI B0 tr H.2.1 (some (.int 1), (H.1, (H.2.1, H.2.2.1 + 1, H.2.2.2 + 6)))) 1 6 (fun q => B0 ≤ q) := by
  refine va_MetW (hh := [(0, 10, 13, 13)]) (cc := cL_pair) (maxL := 5) (ret := some .int) (by decide) rfl ?_
  intro p e s m args below meth c s₁ B hml hv
  obtain ⟨rfl, ⟨q0, q1, q2, q3, q4, q5, q6⟩, qX⟩ := hv
  have hts := atoms_spec (ws := Cond.codeWith yL_pair cL_pair 5 (some .int) [(0, 10, 13, 13)] :: zT) B.pre
  have hown : s.vm.findClass RL = some m.cls := findClass_of_methodNamed B.named
  have X : zCx p s m ([.ref x0, .int a, .int b, .ref o] : List Value).toArray c (zRoom (d + 2) 1 6) cA dC dI B0 tr 12 cL_pair 5 := ⟨B.exec, B.bytes, hml, hown, fun w hw => hts w (List.mem_cons_of_mem _ hw), q6, q3, q0, q4, q5, Nat.le_add_left 2 _, by show 200 ≤ 200 * (d + 2 + 1); omega⟩
  have hlv := lv_entry ([.ref x0, .int a, .int b, .ref o]) (n := 5) (Nat.le_of_ble_eq_true rfl)
  rw [lg_entry_eq]
  generalize (lg_sl ([.ref x0, .int a, .int b, .ref o]) ++ List.replicate (5 - (lg_sl ([.ref x0, .int a, .int b, .ref o])).length) Slot.unset).toArray = ls at hlv ⊢
  have hl : lv_has ls 5 [(0, .ref x0), (1, .int a), (2, .int b), (3, .ref o)] := hlv
  refine lv_aload_n B.exec B.bytes dL_pair_0 rfl (lv_at hl 3 rfl) ?_
  refine lv_iconst (v := 0) B.exec B.bytes dL_pair_1 (by decide) ?_
  refine lv_aload_n B.exec B.bytes dL_pair_2 rfl (lv_at hl 0 rfl) ?_
  refine lv_iload_n B.exec B.bytes dL_pair_3 rfl (lv_at hl 1 rfl) ?_
  refine lv_iload_n B.exec B.bytes dL_pair_4 rfl (lv_at hl 2 rfl) ?_
  refine yc_X (d := d) (y := 136) (M := MX10_pair) (as := [.int a, .int b]) (avs := [.int a, .int b]) (rest := [.int 0, .ref o]) (k := 2) (b := 1) (bv := x0) (tr := tr) (H := H) (pcT := 12) hst hd hx0 rfl X ⟨Nat.le_refl _, Nat.le_refl _⟩ dL_pair_5 rfl x_lpair.1 x_lpair.2.1 x_lpair.2.2 (by decide +kernel) rfl (by decide) (Nat.lt_trans (by decide) h90) hi hw (fun v hv => by simp only [List.mem_cons, List.not_mem_nil, or_false] at hv; rcases hv with rfl | rfl <;> trivial) rfl hP (Nat.le_of_ble_eq_true rfl) (by decide +kernel) (by decide +kernel) (by decide +kernel) (by decide +kernel) qX (fun _ _ => rfl) ⟨q1, q2, va_S.rf⟩ hl.1 (Nat.le_of_ble_eq_true rfl) ⟨Nat.le_refl _, Nat.le_refl _⟩ (fun tr' H1 locs1 q9 ce t1 g2 hce hcv hcl => ?_)
  refine vx_catch (own := RL) (name := zNse) (E := zNse) hown ⟨0, 10, 13, 13⟩ (by rw [vx_table (x := yL_pair) B (hts _ List.mem_cons_self)]; rfl) rfl (by decide) (hts _ (List.mem_cons_of_mem _ x_w6)) (va_Nw.use rfl (qX.1 (.castable zNse zNse) List.mem_cons_self)) hce hcv hcl ?_
  refine lv_astore (lv' := ((4, Value.ref q9) :: [(0, .ref x0), (1, .int a), (2, .int b), (3, .ref o)])) B.exec B.bytes dL_pair_13 hl (by decide) rfl (fun ls hl => ?_)
  refine lv_iconst (v := 1) B.exec B.bytes dL_pair_15 (by decide) ?_
  exact W.zret B.exec B.bytes B.returns rfl (fun t ht _ => ⟨tr', rfl, t1, by rw [ht]; exact g2.1, g2.2.1, g2.2.2.F ht⟩) (fun q hq => g2.2.2.2.2 q hq) dL_pair_16 B.notSynchronized
theorem x_lrow : Cond.methodLink (zCn 12) 18 MX10_row.1 ∈ zT ∧ Cond.instanceMethod MX10_row.1 ∈ zT ∧ Cond.selects (zCls 10) MX10_row.1 MX10_row.1 ∈ zT := by decide +kernel
set_option maxHeartbeats 4000000 in
theorem h_row_n (l : Launch) {d : Nat} {H : zH} {a : Int32} {x0 o : Nat} {fs : List Value} (hw : yH H) (h90 : 90 < H.2.1) (hi : H.1 1 = .inr (10, fs)) {v : Int64} {f : Nat → Int64} (hf9 : H.1 90 = zJ 1 f) (hB : zB zMs d 175 [.ref 1, .int a] H (some (.long v), H)) (cA dC : Nat → ClassId) (dI : Nat → Nat → Nat) (B0 : Nat) (tr : Nat → Nat) (hx0 : tr 1 = x0) (ho : tr 90 = o) : Met l yL_row (Cond.codeWith yL_row cL_row 4 (some .int) [(0, 8, 11, 13)] :: zT) (zRoom (d + 1) 0 0) (va_Pc [.ref x0, .int a, .ref o] (fun U => yPre cA dC dI B0 tr H U ∧ zPX B0 U)) (yPost cA dC dI B0 tr H.2.1 (some (.int 0), (z_up H.1 90 (zJ 1 (vp_updL f 0 (v))), H.2))) 0 0 (fun q => B0 ≤ q) := by
  refine va_MetW (hh := [(0, 8, 11, 13)]) (cc := cL_row) (maxL := 4) (ret := some .int) (by decide) rfl ?_
  intro p e s m args below meth c s₁ B hml hv
  obtain ⟨rfl, ⟨q0, q1, q2, q3, q4, q5, q6⟩, qX⟩ := hv
  have hts := atoms_spec (ws := Cond.codeWith yL_row cL_row 4 (some .int) [(0, 8, 11, 13)] :: zT) B.pre
  have hown : s.vm.findClass RL = some m.cls := findClass_of_methodNamed B.named
  have X : zCx p s m ([.ref x0, .int a, .ref o] : List Value).toArray c (zRoom (d + 1) 0 0) cA dC dI B0 tr 12 cL_row 4 := ⟨B.exec, B.bytes, hml, hown, fun w hw => hts w (List.mem_cons_of_mem _ hw), q6, q3, q0, q4, q5, Nat.le_add_left 2 _, by show 200 ≤ 200 * (d + 1 + 1); omega⟩
  have hlv := lv_entry ([.ref x0, .int a, .ref o]) (n := 4) (Nat.le_of_ble_eq_true rfl)
  rw [lg_entry_eq]
  generalize (lg_sl ([.ref x0, .int a, .ref o]) ++ List.replicate (4 - (lg_sl ([.ref x0, .int a, .ref o])).length) Slot.unset).toArray = ls at hlv ⊢
  have hl : lv_has ls 4 [(0, .ref x0), (1, .int a), (2, .ref o)] := hlv
  refine lv_aload_n B.exec B.bytes dL_row_0 rfl (lv_at hl 2 rfl) ?_
  refine lv_iconst (v := 0) B.exec B.bytes dL_row_1 (by decide) ?_
  refine lv_aload_n B.exec B.bytes dL_row_2 rfl (lv_at hl 0 rfl) ?_
  refine lv_iload_n B.exec B.bytes dL_row_3 rfl (lv_at hl 1 rfl) ?_
  refine yc_V (d := d) (y := 175) (M := MX10_row) (as := [.int a]) (avs := [.int a]) (rest := [.int 0, .ref o]) (ci := 10) (k := 1) (b := 1) (bv := x0) (tr := tr) (H := H) (r := (some (.long v), H)) hx0 rfl X ⟨Nat.le_refl _, Nat.le_refl _⟩ dL_row_4 rfl x_lrow.1 x_lrow.2.1 x_lrow.2.2 (by decide +kernel) rfl (by decide) (by decide) (Nat.lt_trans (by decide) h90) hi hB hw (fun v hv => by simp only [List.mem_cons, List.not_mem_nil, or_false] at hv; subst hv; trivial) (fun _ _ => rfl) ⟨q1, q2, va_S.rf⟩ hl.1 (Nat.le_of_ble_eq_true rfl) ⟨by show 0 + (H.2.2.1 - H.2.2.1) ≤ 0; omega, by show 0 + (H.2.2.2 - H.2.2.2) ≤ 0; omega⟩ (fun tr' H1 locs1 t1 g2 => ?_)
  show W p l e _ s m _ below meth c H1 locs1 (0 + (H.2.2.1 - H.2.2.1)) (0 + (H.2.2.2 - H.2.2.2)) _ (F0 m 7 ls [.long v, .int 0, .ref o])
  rw [Nat.sub_self, Nat.sub_self]
  have e90 : tr' 90 = o := (t1 90 (Or.inl ⟨by decide, h90⟩)).trans ho
  have he := yw_at (cA := cA) (tr := tr') (k := 90) (by decide) h90 hf9
  have es := yw_set cA tr' H.1 H.2.1 (k := 90) (zJ 1 (vp_updL f 0 (v))) (by decide) h90
  rw [e90] at he es
  refine va_last B.exec B.bytes q3 g2.1 g2.2.1 g2.2.2 89 1 he rfl x_row0 dL_row_7 (fun H2 locs2 k1 k2 k3 => ?_)
  have k1 : va_P (dC, dI) vwCl ((yw cA tr' H.1 H.2.1).set 89 (o, z_e cA tr' (zJ 1 (vp_updL f 0 (v))))) H2 := k1
  have k2 : va_D (fun q => B0 ≤ q) ((yw cA tr' H.1 H.2.1).set 89 (o, z_e cA tr' (zJ 1 (vp_updL f 0 (v))))) := k2
  rw [es] at k1 k2
  refine lv_goto (tgt := 14) B.exec B.bytes dL_row_8 (by decide) ?_
  refine lv_iconst (v := 0) B.exec B.bytes dL_row_14 (by decide) ?_
  exact W.zret B.exec B.bytes B.returns rfl (fun t ht _ => ⟨tr', rfl, t1, by rw [ht]; exact k1, k2, k3.F ht⟩) (fun q hq => k3.2.2 q hq) dL_row_15 B.notSynchronized
set_option maxHeartbeats 4000000 in
theorem h_row_t (l : Launch) (hst : l.stackTraces = false) {d : Nat} (hd : 4 ≤ d) {H : zH} {a : Int32} {x0 o : Nat} {fs : List Value} (hw : yH H) (h90 : 90 < H.2.1) (hi : H.1 1 = .inr (10, fs)) (hP : zP d MX10_row (fun pc S => pc = 15 ∧ S.2.1 = [] ∧ S.2.2 = H) 0 (z_in MX10_row.2.2.2.1 [.ref 1, .int a], [], H)) (cA dC : Nat → ClassId) (dI : Nat → Nat → Nat) (B0 : Nat) (tr : Nat → Nat) (hx0 : tr 1 = x0) (ho : tr 90 = o) : Met l yL_row (Cond.codeWith yL_row cL_row 4 (some .int) [(0, 8, 11, 13)] :: zT) (zRoom (d + 2) 1 6) (va_Pc [.ref x0, .int a, .ref o] (fun U => yPre cA dC dI B0 tr H U ∧ zPX B0 U)) (yPost cA dC dI B0 tr H.2.1 (some (.int 1), (H.1, (H.2.1, H.2.2.1 + 1, H.2.2.2 + 6)))) 1 6 (fun q => B0 ≤ q) := by
  refine va_MetW (hh := [(0, 8, 11, 13)]) (cc := cL_row) (maxL := 4) (ret := some .int) (by decide) rfl ?_
  intro p e s m args below meth c s₁ B hml hv
  obtain ⟨rfl, ⟨q0, q1, q2, q3, q4, q5, q6⟩, qX⟩ := hv
  have hts := atoms_spec (ws := Cond.codeWith yL_row cL_row 4 (some .int) [(0, 8, 11, 13)] :: zT) B.pre
  have hown : s.vm.findClass RL = some m.cls := findClass_of_methodNamed B.named
  have X : zCx p s m ([.ref x0, .int a, .ref o] : List Value).toArray c (zRoom (d + 2) 1 6) cA dC dI B0 tr 12 cL_row 4 := ⟨B.exec, B.bytes, hml, hown, fun w hw => hts w (List.mem_cons_of_mem _ hw), q6, q3, q0, q4, q5, Nat.le_add_left 2 _, by show 200 ≤ 200 * (d + 2 + 1); omega⟩
  have hlv := lv_entry ([.ref x0, .int a, .ref o]) (n := 4) (Nat.le_of_ble_eq_true rfl)
  rw [lg_entry_eq]
  generalize (lg_sl ([.ref x0, .int a, .ref o]) ++ List.replicate (4 - (lg_sl ([.ref x0, .int a, .ref o])).length) Slot.unset).toArray = ls at hlv ⊢
  have hl : lv_has ls 4 [(0, .ref x0), (1, .int a), (2, .ref o)] := hlv
  refine lv_aload_n B.exec B.bytes dL_row_0 rfl (lv_at hl 2 rfl) ?_
  refine lv_iconst (v := 0) B.exec B.bytes dL_row_1 (by decide) ?_
  refine lv_aload_n B.exec B.bytes dL_row_2 rfl (lv_at hl 0 rfl) ?_
  refine lv_iload_n B.exec B.bytes dL_row_3 rfl (lv_at hl 1 rfl) ?_
  refine yc_X (d := d) (y := 175) (M := MX10_row) (as := [.int a]) (avs := [.int a]) (rest := [.int 0, .ref o]) (k := 1) (b := 1) (bv := x0) (tr := tr) (H := H) (pcT := 15) hst hd hx0 rfl X ⟨Nat.le_refl _, Nat.le_refl _⟩ dL_row_4 rfl x_lrow.1 x_lrow.2.1 x_lrow.2.2 (by decide +kernel) rfl (by decide) (Nat.lt_trans (by decide) h90) hi hw (fun v hv => by simp only [List.mem_cons, List.not_mem_nil, or_false] at hv; subst hv; trivial) rfl hP (Nat.le_of_ble_eq_true rfl) (by decide +kernel) (by decide +kernel) (by decide +kernel) (by decide +kernel) qX (fun _ _ => rfl) ⟨q1, q2, va_S.rf⟩ hl.1 (Nat.le_of_ble_eq_true rfl) ⟨Nat.le_refl _, Nat.le_refl _⟩ (fun tr' H1 locs1 q9 ce t1 g2 hce hcv hcl => ?_)
  refine vx_catch (own := RL) (name := zNse) (E := zNse) hown ⟨0, 8, 11, 13⟩ (by rw [vx_table (x := yL_row) B (hts _ List.mem_cons_self)]; rfl) rfl (by decide) (hts _ (List.mem_cons_of_mem _ x_w6)) (va_Nw.use rfl (qX.1 (.castable zNse zNse) List.mem_cons_self)) hce hcv hcl ?_
  refine lv_astore_n (lv' := ((3, Value.ref q9) :: [(0, .ref x0), (1, .int a), (2, .ref o)])) B.exec B.bytes dL_row_11 rfl hl (by decide) rfl (fun ls hl => ?_)
  refine lv_iconst (v := 1) B.exec B.bytes dL_row_12 (by decide) ?_
  exact W.zret B.exec B.bytes B.returns rfl (fun t ht _ => ⟨tr', rfl, t1, by rw [ht]; exact g2.1, g2.2.1, g2.2.2.F ht⟩) (fun q hq => g2.2.2.2.2 q hq) dL_row_13 B.notSynchronized
