/-! the call rows, the runs, the contract of every method -/
theorem z_ws_good {M : zM} (h : Cond.code M.1 M.2.2.1 M.2.2.2.1 M.2.2.2.2.1 ∈ zT) : GoodIn zT (Cond.code M.1 M.2.2.1 M.2.2.2.1 M.2.2.2.2.1 :: zT) := z_T_good (fun w hw => (List.mem_cons.mp hw).elim (fun e => e ▸ h) id)
theorem z_st_split (tr : Nat → Nat) (st : List Value) (k : Nat) : st.map (z_v tr) = ((st.take k).reverse.map (z_v tr)).reverse ++ (st.drop k).map (z_v tr) := by
  rw [← List.map_reverse, List.reverse_reverse, ← List.map_append, List.take_append_drop]
section ZC
variable {p : Program} {l : Launch} {e : Env} {R : Room} {s : State} {m : MethodId} {args : Array Value} {below : List Frame} {meth : Method} {c : Code} {cA dC : Nat → ClassId} {dI : Nat → Nat → Nat} {B0 : Nat} {tr0 : Nat → Nat} {own nL kc0 ks0 n0 : Nat} {cc : ByteArray} {Q : State → Prop} {pc : Nat} {S S' : zS} {P : Prop} {x : zX} {Ms : List zM} {I : Instr} {len d : Nat} {ini : Prop}
theorem zinv_ok {q : Prop × Nat × List Value × List Value} {v : zR} (IH : zSound l Ms d) (hMs : ∀ M ∈ Ms, zMok Ms M) (X : zCx p s m args c R cA dC dI B0 tr0 own cc nL) (hRm : d + 3 ≤ R.frames ∧ 200 * (d + 2) ≤ R.locals) (hd : decode cc pc = .ok (I, len)) (hk : zck Ms own ini I x pc len) (hp : zplain I x S = none) (hz : zinv I x S = some q) (hP : q.1) (hB : zB Ms d q.2.1 q.2.2.1 S.2.2 v) (hw : zwf S) (h0 : n0 ≤ S.2.2.2.1 ∧ kc0 ≤ S.2.2.2.2.1 ∧ ks0 ≤ S.2.2.2.2.2) (hR : v.2.2.2.1 - kc0 ≤ R.cells ∧ v.2.2.2.2 - ks0 ≤ R.slots) (kk : zGoal p l e R s m args below meth c cA dC dI B0 tr0 nL kc0 ks0 n0 Q (pc + len) (S.1, v.1.toList ++ q.2.2.2, v.2)) : zGoal p l e R s m args below meth c cA dC dI B0 tr0 nL kc0 ks0 n0 Q pc S := by
  obtain ⟨L, st, H⟩ := S
  obtain ⟨e1, e2, e3⟩ := zinv_inv hz
  simp only at e2 e3 h0 hB hw
  have has : ∀ u ∈ q.2.2.1, zok H.2.1 u := fun u hu => hw.2.1 u (by rw [e2] at hu; exact List.mem_of_mem_take (List.mem_reverse.mp hu))
  have hrs : ∀ u ∈ q.2.2.2, zok H.2.1 u := fun u hu => hw.2.1 u (by rw [e3] at hu; exact List.mem_of_mem_drop hu)
  have gr := zB_grow hMs d _ _ _ _ hB hw.2.2 has
  obtain ⟨gr1, gr2, gr3, gr4, gr5⟩ := gr
  intro tr Hh locs ls g1 g2 g3
  have hm : H.2.2.1 - kc0 + (v.2.2.2.1 - H.2.2.1) = v.2.2.2.1 - kc0 := by omega
  have hm2 : H.2.2.2 - ks0 + (v.2.2.2.2 - H.2.2.2) = v.2.2.2.2 - ks0 := by omega
  have hf : H.2.2.1 - kc0 + (v.2.2.2.1 - H.2.2.1) ≤ R.cells ∧ H.2.2.2 - ks0 + (v.2.2.2.2 - H.2.2.2) ≤ R.slots := by rw [hm, hm2]; exact hR
  have pre := z_pre_at X g1 g2
  have fix : CallFix p m c cc nL s args zT (zCn own) := ⟨X.1, X.2.1, X.2.2.1, X.2.2.2.1, X.2.2.2.2.1⟩
  have key : ∀ (a : Array Value), len = 3 → va_Run p l e R s m args below meth c Hh locs (H.2.2.1 - kc0) (H.2.2.2 - ks0) (v.2.2.2.1 - H.2.2.1) (v.2.2.2.2 - H.2.2.2) (F0 m pc ls (st.map (z_v tr))) (q.2.2.2.map (z_v tr)) (zPost cA dC dI B0 tr H.2.1 v a) (fun q => B0 ≤ q) → W p l e R s m args below meth c Hh locs (H.2.2.1 - kc0) (H.2.2.2 - ks0) Q (F0 m pc ls (st.map (z_v tr))) := by
    intro a hl3 hr
    subst hl3
    refine z_callgo hr g2.2.2 (fun tr' H1 locs1 t1 t2 t3 t4 => ?_)
    have k2 := kk tr' H1 locs1 ls (fun k hk => by rw [t1 k (by rcases hk with hk | hk <;> omega)]; exact g1 k hk) ⟨t2, t3, t4⟩ (zl_same hw.1 t1 g3)
    rw [hm, hm2]
    have es : (v.1.toList ++ q.2.2.2).map (z_v tr') = (v.1.map (z_v tr')).toList ++ q.2.2.2.map (z_v tr) := by
      rw [List.map_append, z_map_same hrs t1]
      cases v.1 <;> rfl
    simp only [es] at k2
    exact k2
  have hm3 : ∀ M, zMok Ms M → (zRoom d (v.2.2.2.1 - H.2.2.1) (v.2.2.2.2 - H.2.2.2)).frames + 1 ≤ R.frames ∧ 8 + (M.2.2.2.1 + 11) + (zRoom d (v.2.2.2.1 - H.2.2.1) (v.2.2.2.2 - H.2.2.2)).locals ≤ R.locals := fun M h => by
    have h2 := h.2.1
    refine ⟨hRm.1, ?_⟩
    show 8 + (M.2.2.2.1 + 11) + 200 * (d + 1) ≤ R.locals
    omega
  cases I <;> simp only [zinv] at hz <;> try (cases hz; done)
  case invokestatic i =>
    cases hz
    obtain ⟨f0, f1, f2⟩ := hP
    simp only [zck] at hk
    obtain ⟨rfl, ⟨h1, -⟩ | ⟨h1, -⟩ | ⟨h1, -⟩ | ⟨h1, -⟩ | ⟨h1, -⟩ | ⟨-, M, h1, h2, h3, h4⟩⟩ := hk
    · omega
    · omega
    · omega
    · omega
    · omega
    · have hMk := hMs M (List.mem_of_getElem? h1)
      have met := IH x.1 M _ H v h1 hB hw.2.2 has cA dC dI B0 tr
      have hn : ((st.take x.2.1).reverse.map (z_v tr)).length = x.2.1 := by
        rw [List.length_map, List.length_reverse, List.length_take]; exact Nat.min_eq_left f1
      have hs := z_st_split tr st x.2.1
      have hr8 : ((((st.drop x.2.1).map (z_v tr))).map fun v => v.category).sum ≤ 8 := by rw [z_cat_map]; exact f2
      refine key ((st.take x.2.1).reverse.map (z_v tr)).toArray rfl ?_
      rcases h2 with hl | ⟨host, hl⟩
      · exact va_runS fix met ⟨callB_of x.2.1 X.2.2.2.2.1 (z_ws_good hMk.2.2.1) rfl rfl rfl (X.2.2.2.2.1 _ hMk.2.2.2.1) (X.2.2.2.2.1 _ hl) ⟨hMk.2.2.2.2.1.1, hMk.2.2.2.2.1.2, h4⟩ (hm3 M hMk), X.2.2.2.2.1 _ h3⟩ ⟨zPre.blind, fun U hU hW => ⟨rfl, pre U hU hW⟩⟩ rfl hn g3.1 hs (lv_room hr8) hd hf
      · exact va_runSN fix met ⟨va_cnB x.2.1 X.2.2.2.2.1 (z_ws_good hMk.2.2.1) rfl rfl rfl (X.2.2.2.2.2.1 _ hl) (X.2.2.2.2.1 _ hMk.2.2.2.1) ⟨hMk.2.2.2.2.1.1, hMk.2.2.2.2.1.2, h4⟩ (hm3 M hMk), X.2.2.2.2.1 _ h3, trivial⟩ ⟨zPre.blind, fun U hU hW => ⟨rfl, pre U hU hW⟩⟩ rfl hn g3.1 hs (lv_room hr8) hd hf
  case invokespecial i =>
    split at hz
    · rename_i b t heq
      cases hz
      obtain ⟨f0, f1, f2⟩ := hP
      simp only [zck] at hk
      obtain ⟨rfl, ⟨h1, -⟩ | ⟨-, M, k, h1, hx, h2, h3, h5, h6, h4⟩⟩ := hk
      · omega
      · have hMk := hMs M (List.mem_of_getElem? h1)
        have met := IH x.1 M _ H v h1 hB hw.2.2 has cA dC dI B0 tr
        have hs := z_st_split tr st x.2.1
        have hlen : ((st.take x.2.1).reverse).length = x.2.1 := by rw [List.length_reverse, List.length_take]; exact Nat.min_eq_left f1
        simp only [heq] at met hs hlen
        have hn : (t.map (z_v tr)).length = k := by rw [List.length_map]; simp only [List.length_cons] at hlen; omega
        have hs2 : st.map (z_v tr) = (t.map (z_v tr)).reverse ++ .ref (tr b) :: (st.drop x.2.1).map (z_v tr) := by rw [hs]; simp [z_v]
        have hr8 : ((((st.drop x.2.1).map (z_v tr))).map fun v => v.category).sum ≤ 8 := by rw [z_cat_map]; exact f2
        refine key (Value.ref (tr b) :: t.map (z_v tr)).toArray rfl ?_
        rw [h6] at met
        have hg : GoodIn zT (Cond.code M.1 M.2.2.1 M.2.2.2.1 none :: zT) := by have := z_ws_good hMk.2.2.1; rw [h6] at this; exact this
        rcases h2 with hl | ⟨host, hl⟩
        · exact va_runI fix met (cwI k X.2.2.2.2.1 hg rfl rfl rfl (X.2.2.2.2.1 _ hMk.2.2.2.1) (X.2.2.2.2.1 _ hl) (X.2.2.2.2.1 _ h3) h5 ⟨hMk.2.2.2.2.1.1, hMk.2.2.2.2.1.2, h4⟩ (hm3 M hMk)) ⟨zPre.blind, fun U hU hW => ⟨rfl, pre U hU hW⟩⟩ rfl hn g3.1 hs2 (lv_room hr8) hd hf
        · exact va_runIN fix met ⟨va_cnB k X.2.2.2.2.1 hg rfl rfl rfl (X.2.2.2.2.2.1 _ hl) (X.2.2.2.2.1 _ hMk.2.2.2.1) ⟨hMk.2.2.2.2.1.1, hMk.2.2.2.2.1.2, h4⟩ (hm3 M hMk), h5, X.2.2.2.2.1 _ h3⟩ ⟨zPre.blind, fun U hU hW => ⟨rfl, pre U hU hW⟩⟩ rfl hn g3.1 hs2 (lv_room hr8) hd hf
    · cases hz
  case invokevirtual i =>
    split at hz
    · rename_i b t heq
      cases hz
      obtain ⟨f3, f0, f1, f2⟩ := hP
      simp only [zck] at hk
      obtain ⟨rfl, M, k, h1, hx, h2, h3, h5, h6, h7, h4⟩ := hk
      have hMk := hMs M (List.mem_of_getElem? h1)
      have met := IH x.1 M _ H v h1 hB hw.2.2 has cA dC dI B0 tr
      have hs := z_st_split tr st x.2.1
      have hlen : ((st.take x.2.1).reverse).length = x.2.1 := by rw [List.length_reverse, List.length_take]; exact Nat.min_eq_left f1
      have hbs : b < H.2.1 ∨ 1000 ≤ b := has (.ref b) (by simp only [heq]; exact List.mem_cons_self)
      simp only [heq] at met hs hlen
      have hn : (t.map (z_v tr)).length = k := by rw [List.length_map]; simp only [List.length_cons] at hlen; omega
      have hs2 : st.map (z_v tr) = (t.map (z_v tr)).reverse ++ .ref (tr b) :: (st.drop x.2.1).map (z_v tr) := by rw [hs]; simp [z_v]
      have hr8 : ((((st.drop x.2.1).map (z_v tr))).map fun v => v.category).sum ≤ 8 := by rw [z_cat_map]; exact f2
      have hrec := z_recv_at X g1 g2 hw.2.2 hbs h7 f3
      refine key (Value.ref (tr b) :: t.map (z_v tr)).toArray rfl ?_
      rcases h2 with hl | ⟨host, hl⟩
      · exact va_runV fix met ⟨callB_of k X.2.2.2.2.1 (z_ws_good hMk.2.2.1) rfl rfl rfl (X.2.2.2.2.1 _ hMk.2.2.2.1) (X.2.2.2.2.1 _ hl) ⟨hMk.2.2.2.2.1.1, hMk.2.2.2.2.1.2, h4⟩ (hm3 M hMk), X.2.2.2.2.1 _ h3, X.2.2.2.2.1 _ h5⟩ ⟨zPre.blind, hrec, fun U hU hW => ⟨rfl, pre U hU hW⟩⟩ rfl hn g3.1 hs2 (lv_room hr8) hd hf
      · exact va_runVN fix met ⟨va_cnB k X.2.2.2.2.1 (z_ws_good hMk.2.2.1) rfl rfl rfl (X.2.2.2.2.2.1 _ hl) (X.2.2.2.2.1 _ hMk.2.2.2.1) ⟨hMk.2.2.2.2.1.1, hMk.2.2.2.2.1.2, h4⟩ (hm3 M hMk), X.2.2.2.2.1 _ h3, X.2.2.2.2.1 _ h5⟩ ⟨zPre.blind, hrec, fun U hU hW => ⟨rfl, pre U hU hW⟩⟩ rfl hn g3.1 hs2 (lv_room hr8) hd hf
    · cases hz
theorem zrun_ok {r : zR} {M : zM} (IH : zSound l Ms d) (hMs : ∀ M ∈ Ms, zMok Ms M) (hM : zMok Ms M) (X : zCx p s m args c R cA dC dI B0 tr0 M.2.1 M.2.2.1 nL) (hRm : d + 3 ≤ R.frames ∧ 200 * (d + 2) ≤ R.locals) (hrt : meth.sig.returnType = M.2.2.2.2.1) (hlocks : meth.locks = false) (hin : meth.name = M.1.name) (hR : r.2.2.2.1 - kc0 ≤ R.cells ∧ r.2.2.2.2 - ks0 ≤ R.slots) : ∀ n pc S, zrun (zB Ms d) M n pc S r → zwf S → S.1.length ≤ nL → (n0 ≤ S.2.2.2.1 ∧ kc0 ≤ S.2.2.2.2.1 ∧ ks0 ≤ S.2.2.2.2.2) → zGoal p l e R s m args below meth c cA dC dI B0 tr0 nL kc0 ks0 n0 (MQ below (zPost cA dC dI B0 tr0 n0 r) args s (r.2.2.2.1 - kc0) (r.2.2.2.2 - ks0) (fun q => B0 ≤ q)) pc S := by
  intro n
  induction n with
  | zero => intro pc S h; exact absurd h id
  | succ n ih =>
    intro pc S h hw hS h0
    have hg0 := zrun_grow (zB_grow hMs d) (fun q hq => (hM.1 q hq).1)
    unfold zrun at h
    split at h
    · exact absurd h id
    · rename_i I nx x hl
      obtain ⟨hx, len, hd, hnx, hk⟩ := hM.1 _ (z_lookup_mem hl)
      simp only at hx hd hnx hk
      subst hnx
      unfold zone at h
      split at h
      · rename_i q hq
        obtain ⟨g1, g2, g3, g4, g5⟩ := zplain_grow hx hq h.1 hw
        obtain ⟨a1, a2, a3, a4, a5⟩ := hg0 n _ _ _ h.2 g1
        exact zplain_ok X hd hk (fun z => hin.trans z) hq h.1 hw hS h0 ⟨by omega, by omega⟩ (ih _ _ h.2 g1 (by rw [g2]; exact hS) ⟨by omega, by omega, by omega⟩)
      · rename_i hp
        split at h
        · rename_i q hq
          refine zjump_ok X hd hk hq (ih _ _ h ⟨hw.1, ?_, hw.2.2⟩ hS h0)
          exact fun v hv => hw.2.1 v (zjump_sub hq v hv)
        · split at h
          · rename_i q hq
            exact zret_ok X hd hk hrt hlocks hq h.1 h.2
          · split at h
            · rename_i q hq
              obtain ⟨hP, v, hv, hkk⟩ := h
              obtain ⟨e1, e2, e3⟩ := zinv_inv hq
              obtain ⟨g1, g2, g3, g4, g5⟩ := zB_grow hMs d _ _ _ _ hv hw.2.2 (fun u hu => hw.2.1 u (by rw [e2] at hu; exact List.mem_of_mem_take (List.mem_reverse.mp hu)))
              have hw2 : zwf (S.1, v.1.toList ++ q.2.2.2, v.2) := ⟨fun u hu => (hw.1 u hu).mono g2, fun u hu => by
                rcases List.mem_append.mp hu with hu | hu
                · exact g5 u (by simpa using hu)
                · exact (hw.2.1 u (by rw [e3] at hu; exact List.mem_of_mem_drop hu)).mono g2, g1⟩
              obtain ⟨a1, a2, a3, a4, a5⟩ := hg0 n _ _ _ hkk hw2
              simp only at a2 a3 a4
              exact zinv_ok IH hMs X hRm hd hk hp hq hP hv hw h0 ⟨by omega, by omega⟩ (ih _ _ hkk hw2 hS ⟨by dsimp only; omega, by dsimp only; omega, by dsimp only; omega⟩)
            · exact absurd h id
end ZC
theorem z_sl_len (tr : Nat → Nat) (as : List Value) : (lg_sl (as.map (z_v tr))).length = (as.flatMap fun v => if v.category = 2 then [v, Value.null] else [v]).length := by
  unfold lg_sl
  induction as with
  | nil => rfl
  | cons a r ih =>
    rw [List.map_cons, List.flatMap_cons, List.flatMap_cons, List.length_append, List.length_append, ih, z_v_cat]
    by_cases h : a.category = 2
    · simp [h]
    · simp [h]
theorem z_fl_sub (tr : Nat → Nat) : ∀ (as : List Value) (i j : Nat) (v : Value), (as.flatMap fun v => if v.category = 2 then [v, Value.null] else [v])[j]? = some v → v ≠ .null → (i + j, z_v tr v) ∈ lv_args i (as.map (z_v tr)) := by
  intro as
  induction as with
  | nil => intro i j v h; simp at h
  | cons a r ih =>
    intro i j v h hn
    rw [List.flatMap_cons] at h
    rw [List.map_cons]
    unfold lv_args
    rw [z_v_cat]
    by_cases hc : a.category = 2
    · rw [if_pos hc] at h ⊢
      match j, h with
      | 0, h => simp at h; subst h; exact List.mem_cons_self
      | 1, h => simp at h; exact absurd h.symm hn
      | j + 2, h =>
        simp at h
        have := ih (i + 2) j v (by simpa using h) hn
        rw [show i + 2 + j = i + (j + 2) by omega] at this
        exact List.mem_cons_of_mem _ this
    · rw [if_neg hc] at h ⊢
      match j, h with
      | 0, h => simp at h; subst h; exact List.mem_cons_self
      | j + 1, h =>
        simp at h
        have := ih (i + 1) j v (by simpa using h) hn
        rw [show i + 1 + j = i + (j + 1) by omega] at this
        exact List.mem_cons_of_mem _ this
theorem z_in_sub (tr : Nat → Nat) (as : List Value) (maxL : Nat) : ∀ q ∈ zl tr (z_in maxL as), q ∈ lv_args 0 (as.map (z_v tr)) := by
  intro q hq
  obtain ⟨v, h1, h2, h3⟩ := zl_mem.mp hq
  unfold z_in at h1
  by_cases hl : q.1 < (as.flatMap fun v => if v.category = 2 then [v, Value.null] else [v]).length
  · rw [List.getElem?_append_left hl] at h1
    have := z_fl_sub tr as 0 q.1 v h1 h2
    rw [Nat.zero_add, ← h3] at this
    exact this
  · rw [List.getElem?_append_right (by omega)] at h1
    have := List.mem_of_getElem? h1
    exact absurd (List.mem_replicate.mp this).2 h2
theorem z_sound (l : Launch) (Ms : List zM) (hMs : ∀ M ∈ Ms, zMok Ms M) : ∀ d, zSound l Ms d := by
  intro d
  induction d with
  | zero => intro y M as H r h1 h2; exact absurd h2 id
  | succ d ih =>
    intro y M as H r h1 h2 hw ha cA dC dI B0 tr
    obtain ⟨M', h3, hle, n, hrun⟩ := h2
    have hMM : M' = M := Option.some.inj (h3.symm.trans h1)
    subst hMM
    have hM := hMs M' (List.mem_of_getElem? h1)
    refine Met.ofW (cc := M'.2.2.1) (maxL := M'.2.2.2.1) (ret := M'.2.2.2.2.1) hM.2.2.2.2.2.1 rfl ?_
    intro p e s m args below meth c s₁ B hml hv
    obtain ⟨rfl, q0, q1, q2, q3, q4, q5, q6⟩ := hv
    have hts := atoms_spec (ws := Cond.code M'.1 M'.2.2.1 M'.2.2.2.1 M'.2.2.2.2.1 :: zT) B.pre
    have hown : s.vm.findClass M'.1.cls = some m.cls := findClass_of_methodNamed B.named
    rw [hM.2.2.2.2.2.2] at hown
    have hnm : meth.name = M'.1.name := (name_of_methodNamed B.named B.method).1
    have X : zCx p s m ((as.map (z_v tr)).toArray) c (zRoom (d + 1) (r.2.2.2.1 - H.2.2.1) (r.2.2.2.2 - H.2.2.2)) cA dC dI B0 tr M'.2.1 M'.2.2.1 M'.2.2.2.1 := ⟨B.exec, B.bytes, hml, hown, fun w hw => hts w (List.mem_cons_of_mem _ hw), q6, q3, q0, q4, q5, Nat.le_add_left 2 (d + 1), by show 200 ≤ 200 * (d + 1 + 1); omega⟩
    have hlen : (lg_sl (as.map (z_v tr))).length ≤ M'.2.2.2.1 := by rw [z_sl_len]; exact hle
    have hlv := lv_entry (as.map (z_v tr)) (n := M'.2.2.2.1) hlen
    have hil : (z_in M'.2.2.2.1 as).length ≤ M'.2.2.2.1 := by
      unfold z_in
      rw [List.length_append, List.length_replicate]
      omega
    have run := zrun_ok (p := p) (l := l) (e := e) (s := s) (below := below) (meth := meth) (n0 := H.2.1) (kc0 := H.2.2.1) (ks0 := H.2.2.2) ih hMs hM X ⟨Nat.le_refl _, Nat.le_refl _⟩ B.returns B.notSynchronized hnm ⟨Nat.le_refl _, Nat.le_refl _⟩ n 0 _ hrun ⟨z_in_ok ha, fun v hv => absurd hv List.not_mem_nil, hw⟩ hil ⟨Nat.le_refl _, Nat.le_refl _, Nat.le_refl _⟩
    have g := run tr s.heap [] _ (fun k _ => rfl) ⟨q1, q2, va_S.rf⟩ (zl_sub hlv (z_in_sub tr as M'.2.2.2.1))
    simp only [Nat.sub_self, List.map_nil] at g
    rw [lg_entry_eq]
    exact g
