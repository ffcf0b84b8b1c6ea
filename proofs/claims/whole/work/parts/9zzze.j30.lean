/-! a run up to a place, and what comes of it where the method then throws -/
def zpart (C : zC) (M : zM) (T : Nat → zS → Prop) : Nat → Nat → zS → Prop
  | 0, pc, S => T pc S
  | n + 1, pc, S => match M.2.2.2.2.2.lookup pc with
    | none => False
    | some (I, nx, x) => match zplain I x S with
      | some q => q.1 ∧ q.2.2.2.2 = S.2.2.2 ∧ zpart C M T n nx q.2
      | none => match zjump I x nx S.2.1 with
        | some q => zpart C M T n q.1 (S.1, q.2, S.2.2)
        | none => match zinv I x S with
          | some q => q.1 ∧ ∃ v : zR, C q.2.1 q.2.2.1 S.2.2 v ∧ v.2.2 = S.2.2.2 ∧ zpart C M T n nx (S.1, v.1.toList ++ q.2.2.2, v.2)
          | none => False
def zP (d : Nat) (M : zM) (T : Nat → zS → Prop) (pc : Nat) (S : zS) : Prop := ∃ n, zpart (zB zMs d) M T n pc S
section ZPT
variable {d : Nat} {M : zM} {T : Nat → zS → Prop} {pc nx : Nat} {I : Instr} {x : zX} {S S' : zS} {P : Prop} {L st r : List Value} {H : zH}
theorem zP_stop (h : T pc S) : zP d M T pc S := ⟨0, h⟩
theorem zP_pl (hl : M.2.2.2.2.2.lookup pc = some (I, nx, x)) (hz : zplain I x S = some (P, S')) (hP : P) (hu : S'.2.2.2 = S.2.2.2) (k : zP d M T nx S') : zP d M T pc S := by
  obtain ⟨n, hn⟩ := k
  refine ⟨n + 1, ?_⟩
  unfold zpart
  rw [hl]
  simp only [hz]
  exact ⟨hP, hu, hn⟩
theorem zP_j {q : Nat × List Value} (hl : M.2.2.2.2.2.lookup pc = some (I, nx, x)) (hz : zjump I x nx S.2.1 = some q) (k : zP d M T q.1 (S.1, q.2, S.2.2)) : zP d M T pc S := by
  obtain ⟨n, hn⟩ := k
  refine ⟨n + 1, ?_⟩
  unfold zpart
  rw [hl]
  simp only [(zj_none hz).1, hz]
  exact hn
theorem zP_get {i a ci k kd : Nat} {o : Nat × List Value} {v : Value} (hl : M.2.2.2.2.2.lookup pc = some (.getfield i, nx, zf kd ci k)) (hc : z_cell H.1 a = .inr o) (hk : o.2[k]? = some v) (ho : o.1 = ci) (kk : zP d M T nx (L, v :: r, H)) : zP d M T pc (L, .ref a :: r, H) := by
  refine zP_pl (P := o.1 = ci) (S' := (L, v :: r, H)) hl ?_ ho rfl kk
  simp only [zplain, zget, hc, hk]
theorem zP_iv {i a ci k y : Nat} {as : List Value} {v : Value} (hl : M.2.2.2.2.2.lookup pc = some (.invokevirtual i, nx, zc y k ci)) (hs : (st.take k).reverse = .ref a :: as) (hc : zisc (z_cell H.1 a) ci) (hy : y < 900) (hk : k ≤ st.length) (h8 : ((st.drop k).map fun v => v.category).sum ≤ 8) (hB : zB zMs d y (.ref a :: as) H (some v, H)) (kk : zP d M T nx (L, v :: st.drop k, H)) : zP d M T pc (L, st, H) := by
  obtain ⟨n, hn⟩ := kk
  refine ⟨n + 1, ?_⟩
  unfold zpart
  rw [hl]
  have e : zinv (.invokevirtual i) (zc y k ci) (L, st, H) = some (zisc (z_cell H.1 a) ci ∧ y < 900 ∧ k ≤ st.length ∧ ((st.drop k).map fun v => v.category).sum ≤ 8, y, (.ref a :: as), st.drop k) := by
    simp only [zinv, hs]
  simp only [show zplain (.invokevirtual i) (zc y k ci) (L, st, H) = none from rfl, show zjump (.invokevirtual i) (zc y k ci) nx (L, st, H).2.1 = none from rfl, e]
  exact ⟨⟨hc, hy, hk, h8⟩, (some v, H), hB, rfl, hn⟩
end ZPT
theorem zpart_sh {C : zC} {M : zM} {T : Nat → zS → Prop} (hC : yC C) (hM : ∀ q ∈ M.2.2.2.2.2, zok 0 q.2.2.2.2.2.2.1) : ∀ n pc S, zpart C M T n pc S → ySt S → zpart C M (fun pc S' => ∃ S0, S' = sh_S S0 ∧ T pc S0) n pc (sh_S S) := by
  intro n
  induction n with
  | zero => intro pc S h hw; exact ⟨S, rfl, h⟩
  | succ n ih =>
    intro pc S h hw
    unfold zpart at h ⊢
    split at h
    · exact absurd h id
    · rename_i I nx x hl
      have hx := hM _ (z_lookup_mem hl)
      split at h
      · rename_i q hq
        obtain ⟨⟨P', p1, p2⟩, g1, g2⟩ := zplain_sh hx hq h.1 hw
        rw [p2]
        refine ⟨p1, ?_, ih nx q.2 h.2.2 g1⟩
        show (sh_H q.2.2.2).2 = (sh_H S.2.2).2
        unfold sh_H
        rw [h.2.1]
      · split at h
        · rename_i q hq
          obtain ⟨e1, e2⟩ := zj_none hq
          rw [e1, show (sh_S S).2.1 = S.2.1.map sh_v from rfl, e2]
          exact ih q.1 (S.1, q.2, S.2.2) h ⟨hw.1, fun v hv => hw.2.1 v (zjump_sub hq v hv), hw.2.2⟩
        · split at h
          · rename_i q hq
            obtain ⟨hP, v, hv, hu, hk⟩ := h
            obtain ⟨e1, e2, e3⟩ := zinv_inv hq
            obtain ⟨c1, c2, c3⟩ := hC _ _ _ _ hv hw.2.2 (fun u hu => hw.2.1 u (by rw [e2] at hu; exact List.mem_of_mem_take (List.mem_reverse.mp hu)))
            obtain ⟨d1, d2, d3, P', p1, p2⟩ := zi_none hq hP hw
            have a1 := ih nx (S.1, v.1.toList ++ q.2.2.2, v.2) hk ⟨fun u hu => (hw.1 u hu).mono c3.1, fun u hu => by
              rcases List.mem_append.mp hu with hu | hu
              · exact c3.2 u (by simpa using hu)
              · exact (hw.2.1 u (by rw [e3] at hu; exact List.mem_of_mem_drop hu)).mono c3.1, c2⟩
            rw [d1, d2, p2]
            refine ⟨p1, sh_r v, c1, ?_, ?_⟩
            · show (sh_H v.2).2 = (sh_H S.2.2).2
              unfold sh_H
              rw [hu]
            · have es : (sh_r v).1.toList ++ q.2.2.2.map sh_v = (v.1.toList ++ q.2.2.2).map sh_v := by
                rw [List.map_append]
                cases h9 : v.1 <;> simp [sh_r, h9]
              show zpart C M _ n nx ((sh_S S).1, (sh_r v).1.toList ++ q.2.2.2.map sh_v, (sh_r v).2)
              rw [es]
              exact a1
          · exact absurd h id
section ZPO
variable {p : Program} {l : Launch} {e : Env} {R : Room} {s : State} {m : MethodId} {args : Array Value} {below : List Frame} {meth : Method} {c : Code} {cA dC : Nat → ClassId} {dI : Nat → Nat → Nat} {B0 : Nat} {tr0 : Nat → Nat} {nL kc0 ks0 n0 : Nat} {Q : State → Prop} {Ms : List zM} {d : Nat}
theorem zpart_ok {M : zM} {T : Nat → zS → Prop} (IH : zSound l Ms d) (hMs : ∀ M ∈ Ms, zMok Ms M) (hM : zMok Ms M) (X : zCx p s m args c R cA dC dI B0 tr0 M.2.1 M.2.2.1 nL) (hRm : d + 3 ≤ R.frames ∧ 200 * (d + 2) ≤ R.locals) (hin : meth.name = M.1.name) {u : zU} (hR : u.2.1 - kc0 ≤ R.cells ∧ u.2.2 - ks0 ≤ R.slots) (h0 : n0 ≤ u.1 ∧ kc0 ≤ u.2.1 ∧ ks0 ≤ u.2.2)
    (kk : ∀ pc S, T pc S → zwf S → S.1.length ≤ nL → S.2.2.2 = u → zGoal p l e R s m args below meth c cA dC dI B0 tr0 nL kc0 ks0 n0 Q pc S) : ∀ n pc S, zpart (zB Ms d) M T n pc S → zwf S → S.1.length ≤ nL → S.2.2.2 = u → zGoal p l e R s m args below meth c cA dC dI B0 tr0 nL kc0 ks0 n0 Q pc S := by
  intro n
  induction n with
  | zero => intro pc S h hw hS hu; exact kk pc S h hw hS hu
  | succ n ih =>
    intro pc S h hw hS hu
    have h0' : n0 ≤ S.2.2.2.1 ∧ kc0 ≤ S.2.2.2.2.1 ∧ ks0 ≤ S.2.2.2.2.2 := by rw [hu]; exact h0
    unfold zpart at h
    split at h
    · exact absurd h id
    · rename_i I nx x hl
      obtain ⟨hx, len, hd, hnx, hk⟩ := hM.1 _ (z_lookup_mem hl)
      simp only at hx hd hnx hk
      subst hnx
      split at h
      · rename_i q hq
        obtain ⟨g1, g2, g3, g4, g5⟩ := zplain_grow hx hq h.1 hw
        have hu2 : q.2.2.2.2 = u := h.2.1.trans hu
        exact zplain_ok X hd hk (fun z => hin.trans z) hq h.1 hw hS h0' (by rw [hu2]; exact hR) (ih _ _ h.2.2 g1 (by rw [g2]; exact hS) hu2)
      · rename_i hp
        split at h
        · rename_i q hq
          refine zjump_ok X hd hk hq (ih _ _ h ⟨hw.1, ?_, hw.2.2⟩ hS hu)
          exact fun v hv => hw.2.1 v (zjump_sub hq v hv)
        · split at h
          · rename_i q hq
            obtain ⟨hP, v, hv, hvu, hkk⟩ := h
            obtain ⟨e1, e2, e3⟩ := zinv_inv hq
            obtain ⟨g1, g2, g3, g4, g5⟩ := zB_grow hMs d _ _ _ _ hv hw.2.2 (fun u hu => hw.2.1 u (by rw [e2] at hu; exact List.mem_of_mem_take (List.mem_reverse.mp hu)))
            have hw2 : zwf (S.1, v.1.toList ++ q.2.2.2, v.2) := ⟨fun u hu => (hw.1 u hu).mono g2, fun u hu => by
              rcases List.mem_append.mp hu with hu | hu
              · exact g5 u (by simpa using hu)
              · exact (hw.2.1 u (by rw [e3] at hu; exact List.mem_of_mem_drop hu)).mono g2, g1⟩
            have hu2 : v.2.2 = u := hvu.trans hu
            exact zinv_ok IH hMs X hRm hd hk hp hq hP hv hw h0' (by rw [hu2]; exact hR) (ih _ _ hkk hw2 hS hu2)
          · exact absurd h id
end ZPO
/-- the words of a throw that are kept apart, and the two statics of Throwable -/
def zNse : String := "java/util/NoSuchElementException"
def zNx : List Cond := [.castable "java/util/NoSuchElementException" "java/util/NoSuchElementException", .declares ⟨"java/lang/RuntimeException", "<init>", "()V"⟩, .declares ⟨"java/lang/Exception", "<init>", "()V"⟩, .declares ⟨"java/lang/Throwable", "<init>", "()V"⟩]
def zPX (B0 : Nat) (U : State) : Prop := (∀ w ∈ zNx, va_Nw w U) ∧ vx_Zq Bundle.tN "UNASSIGNED_STACK" Bundle.steD (fun q => B0 ≤ q) U U.heap ∧ vx_Zq Bundle.tN "SUPPRESSED_SENTINEL" Bundle.listD (fun q => B0 ≤ q) U U.heap
theorem zPX.at {B0 : Nat} {s U : State} {Hh : Heap} {locs : List Loc} (h : zPX B0 s) (hW : s.WarmedH U.vm) (hU : U.heap = Hh) (hS : va_S (fun q => B0 ≤ q) s.heap Hh locs) : zPX B0 U := by
  obtain ⟨h1, h2, h3⟩ := h
  refine ⟨fun w hw => ?_, ?_, ?_⟩
  · have h4 := h1 w hw
    simp only [zNx, List.mem_cons, List.not_mem_nil, or_false] at hw
    rcases hw with rfl | rfl | rfl | rfl
    · exact va_Nw.warmC hW h4
    · exact va_Nw.warmD hW h4
    · exact va_Nw.warmD hW h4
    · exact va_Nw.warmD hW h4
  · rw [hU]; exact vx_Zq.moved hW.alike (h2.kept hS.2.1)
  · rw [hU]; exact vx_Zq.moved hW.alike (h3.kept hS.2.1)
theorem zPX.call {B0 : Nat} {U : State} {g : JFrame} {mk : MethodId} {a : Array Value} (h : zPX B0 U) : zPX B0 (U.calling g mk a) := by
  obtain ⟨h1, h2, h3⟩ := h
  refine ⟨fun w hw => ?_, vx_Zq.moved (u := U) (U := U.calling g mk a) (Vm.Alike.refl U.vm) h2, vx_Zq.moved (u := U) (U := U.calling g mk a) (Vm.Alike.refl U.vm) h3⟩
  refine va_Nw.same (u := U) (U := U.calling g mk a) ?_ rfl (h1 w hw)
  simp only [zNx, List.mem_cons, List.not_mem_nil, or_false] at hw
  rcases hw with rfl | rfl | rfl | rfl <;> rfl
def zXC (cA dC : Nat → ClassId) (dI : Nat → Nat → Nat) (B0 : Nat) (tr : Nat → Nat) (H : zH) : String → State → State → Prop := fun E st t => E = zNse ∧ ∃ tr' : Nat → Nat, (∀ k, k < H.2.1 ∨ 1000 ≤ k → tr' k = tr k) ∧ va_P (dC, dI) vwCl (zw cA tr' H.1 H.2.1) t.heap ∧ va_D (fun q => B0 ≤ q) (zw cA tr' H.1 H.2.1) ∧ va_F (fun q => B0 ≤ q) st t
def xEx : List String := ["java/lang/RuntimeException", "java/lang/Exception"]
theorem x_w1 : ∀ w ∈ (vx_at0 RX10 148 zNse xEx).filter goodWord, w ∈ zT := by decide +kernel
theorem x_w2 : ∀ w ∈ (vx_at0 RX10 148 zNse xEx).filter (fun w => !goodWord w), w ∈ zNx := by decide +kernel
theorem x_w3 : Cond.classLink RX10 146 zNse ∈ zT ∧ Cond.initialized zNse ∈ zT := by decide +kernel
theorem x_w4 : ∀ w ∈ Cond.classLink RX10 146 zNse :: Cond.initialized zNse :: vx_at0 RX10 148 zNse xEx, vx_ot w = true := by decide +kernel
theorem x_w5 : ∀ w ∈ zNx, w.onTables = true := by decide +kernel
set_option maxHeartbeats 4000000 in
theorem x_thr (l : Launch) (hst : l.stackTraces = false) {y d pcT : Nat} {M : zM} {as : List Value} {H : zH} (hd : 4 ≤ d) (hM : zMs[y]? = some M) (hown : M.2.1 = 10) (hP : zP d M (fun pc S => pc = pcT ∧ S.2.1 = [] ∧ S.2.2 = H) 0 (z_in M.2.2.2.1 as, [], H)) (hle : (as.flatMap fun v => if v.category = 2 then [v, Value.null] else [v]).length ≤ M.2.2.2.1) (hw : zwH H) (ha : ∀ v ∈ as, zok H.2.1 v) (d0 : decode M.2.2.1 pcT = .ok (.new 146, 3)) (d3 : decode M.2.2.1 (pcT + 3) = .ok (.dup, 1)) (d4 : decode M.2.2.1 (pcT + 4) = .ok (.invokespecial 148, 3)) (d7 : decode M.2.2.1 (pcT + 7) = .ok (.athrow, 1)) (cA dC : Nat → ClassId) (dI : Nat → Nat → Nat) (B0 : Nat) (tr : Nat → Nat) : vx_Met l M.1 (Cond.code M.1 M.2.2.1 M.2.2.2.1 M.2.2.2.2.1 :: zT) (zRoom (d + 1) 1 6) (va_Pc (as.map (z_v tr)) (fun U => zPre cA dC dI B0 tr H U ∧ zPX B0 U)) (fun _ _ _ _ => False) (zXC cA dC dI B0 tr H) 1 6 (fun q => B0 ≤ q) := by
  have hMk := zMs_ok M (List.mem_of_getElem? hM)
  refine vx_ofW (cc := M.2.2.1) (maxL := M.2.2.2.1) (ret := M.2.2.2.2.1) hMk.2.2.2.2.2.1 rfl ?_
  intro p e s m args below meth c s₁ B hml ht hv
  obtain ⟨rfl, ⟨q0, q1, q2, q3, q4, q5, q6⟩, qN, qU, qS⟩ := hv
  have hts := atoms_spec (ws := Cond.code M.1 M.2.2.1 M.2.2.2.1 M.2.2.2.2.1 :: zT) B.pre
  have hown' : s.vm.findClass M.1.cls = some m.cls := findClass_of_methodNamed B.named
  rw [hMk.2.2.2.2.2.2] at hown'
  have hnm : meth.name = M.1.name := (name_of_methodNamed B.named B.method).1
  have X : zCx p s m ((as.map (z_v tr)).toArray) c (zRoom (d + 1) 1 6) cA dC dI B0 tr M.2.1 M.2.2.1 M.2.2.2.1 := ⟨B.exec, B.bytes, hml, hown', fun w hw => hts w (List.mem_cons_of_mem _ hw), q6, q3, q0, q4, q5, Nat.le_add_left 2 (d + 1), by show 200 ≤ 200 * (d + 1 + 1); omega⟩
  have hlen : (lg_sl (as.map (z_v tr))).length ≤ M.2.2.2.1 := by rw [z_sl_len]; exact hle
  have hlv := lv_entry (as.map (z_v tr)) (n := M.2.2.2.1) hlen
  have hil : (z_in M.2.2.2.1 as).length ≤ M.2.2.2.1 := by
    unfold z_in
    rw [List.length_append, List.length_replicate]
    omega
  obtain ⟨n, hn⟩ := hP
  have run := zpart_ok (p := p) (l := l) (e := e) (s := s) (below := below) (meth := meth) (Q := vx_MQ below (fun _ _ _ _ => False) (zXC cA dC dI B0 tr H) ((as.map (z_v tr)).toArray) s 1 6 (fun q => B0 ≤ q)) (n0 := H.2.1) (kc0 := H.2.2.1) (ks0 := H.2.2.2) (T := fun pc S => pc = pcT ∧ S.2.1 = [] ∧ S.2.2 = H) (z_all l d) zMs_ok hMk X ⟨Nat.le_refl _, Nat.le_refl _⟩ hnm (u := H.2) ⟨by rw [Nat.sub_self]; exact Nat.zero_le _, by rw [Nat.sub_self]; exact Nat.zero_le _⟩ ⟨Nat.le_refl _, Nat.le_refl _, Nat.le_refl _⟩ (fun pc S hT hw' hS' hu => by
    obtain ⟨L, st, H'⟩ := S
    obtain ⟨rfl, h1, h2⟩ := hT
    simp only at h1 h2
    subst h1; subst h2
    intro tr' Hh locs ls g1 g2 g3
    simp only [Nat.sub_self, List.map_nil]
    rw [hown] at hown'
    refine vx_throw0 (own := RX10) (cls := zNse) (names := xEx) (ik := 146) (ic := 148) (A := fun q => B0 ≤ q) B.exec B.bytes hst hown' (by decide +kernel) (by decide +kernel) (hts _ (List.mem_cons_of_mem _ x_w3.1)) (hts _ (List.mem_cons_of_mem _ x_w3.2)) (vx_hat (B := zNx) (fun w hw => hts w (List.mem_cons_of_mem _ (x_w1 w hw))) x_w2 (fun w hw => va_Nw.use (x_w5 w hw) (qN w hw))) x_w4 qU qS g2.2.2 (g3.1.trans hml.symm) d0 d3 d4 d7 (fun x hx => absurd (ht x hx) id) ?_ ?_ (Nat.le_refl _) (Nat.le_refl _) B.notSynchronized ?_ (fun z hz => g2.2.2.2.2 z hz) (Nat.le_refl _) (Nat.le_refl _)
    · show 2 + 3 < d + 1 + 2
      omega
    · show 0 + (13 * (2 + 1) + 42) ≤ 200 * (d + 1 + 1)
      omega
    · intro t h1 h2 h3
      refine ⟨rfl, tr', g1, va_P.kept g2.1 (fun k q hk => h3 _ (vx_lt g2.1 hk)), g2.2.1, Nat.le_trans g2.2.2.1 h2, fun q hq hA => ?_⟩
      rw [h3 q (Nat.lt_of_lt_of_le hq g2.2.2.1)]
      exact g2.2.2.2.1 q hq hA) n 0 _ hn ⟨z_in_ok ha, fun v hv => absurd hv List.not_mem_nil, hw⟩ hil rfl
  have g := run tr s.heap [] _ (fun k _ => rfl) ⟨q1, q2, va_S.rf⟩ (zl_sub hlv (z_in_sub tr as M.2.2.2.1))
  simp only [Nat.sub_self, List.map_nil] at g
  rw [lg_entry_eq]
  exact g
