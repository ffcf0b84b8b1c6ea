/-! String.checkIndex on an index that is within: it comes back, and changes nothing -/
def y_ci : MethodName := ⟨"java/lang/String", "checkIndex", "(II)V"⟩
def y_pi : MethodName := ⟨"jdk/internal/util/Preconditions", "checkIndex", "(IILjava/util/function/BiFunction;)I"⟩
theorem w_ci : Cond.code y_ci prog_23_method_155_code 2 none ∈ zT := by decide +kernel
theorem w_pi : Cond.code y_pi prog_32_method_11_code 3 (some .int) ∈ zT := by decide +kernel
theorem i_ci : Cond.initialized "java/lang/String" ∈ zT := by decide +kernel
theorem i_pi : Cond.initialized "jdk/internal/util/Preconditions" ∈ zT := by decide +kernel
theorem s_ci : Cond.static y_ci ∈ zT := by decide +kernel
theorem s_pi : Cond.static y_pi ∈ zT := by decide +kernel
theorem l_pi : Cond.methodLink "java/lang/String" 1059 y_pi ∈ zT := by decide +kernel
theorem f_ci : Cond.fieldLink "java/lang/String" 1053 "jdk/internal/util/Preconditions" "SIOOBE_FORMATTER" "Ljava/util/function/BiFunction;" ∈ zT := by decide +kernel
theorem d_pi_0 : decode prog_32_method_11_code 0 = .ok (.iload_n 0, 1) := by decide +kernel
theorem d_pi_1 : decode prog_32_method_11_code 1 = .ok (.ifCond .lt 8, 3) := by decide +kernel
theorem d_pi_4 : decode prog_32_method_11_code 4 = .ok (.iload_n 0, 1) := by decide +kernel
theorem d_pi_5 : decode prog_32_method_11_code 5 = .ok (.iload_n 1, 1) := by decide +kernel
theorem d_pi_6 : decode prog_32_method_11_code 6 = .ok (.if_icmp .lt 10, 3) := by decide +kernel
theorem d_pi_16 : decode prog_32_method_11_code 16 = .ok (.iload_n 0, 1) := by decide +kernel
theorem d_pi_17 : decode prog_32_method_11_code 17 = .ok (.ireturn, 1) := by decide +kernel
theorem d_ci_0 : decode prog_23_method_155_code 0 = .ok (.iload_n 0, 1) := by decide +kernel
theorem d_ci_1 : decode prog_23_method_155_code 1 = .ok (.iload_n 1, 1) := by decide +kernel
theorem d_ci_2 : decode prog_23_method_155_code 2 = .ok (.getstatic 1053, 3) := by decide +kernel
theorem d_ci_5 : decode prog_23_method_155_code 5 = .ok (.invokestatic 1059, 3) := by decide +kernel
theorem d_ci_8 : decode prog_23_method_155_code 8 = .ok (.pop, 1) := by decide +kernel
theorem d_ci_9 : decode prog_23_method_155_code 9 = .ok (.return_, 1) := by decide +kernel
set_option maxRecDepth 100000 in
theorem c_pi (l : Launch) (i n : Int32) (w : Value) (hw : w = .null ∨ ∃ t, w = .ref t) (h1 : ¬ i < 0) (h2 : i < n) : Met l y_pi (.code y_pi prog_32_method_11_code 3 (some .int) :: zT) { frames := 0, cells := 0, slots := 0, locals := 0 } (va_Pc [.int i, .int n, w] (fun _ => True)) (QcRead i) 0 0 (fun _ => False) := by
  refine Met.ofW (cc := prog_32_method_11_code) (maxL := 3) (ret := some .int) (by decide) rfl ?_
  intro p e s m args below meth c s₁ B hml hv
  obtain ⟨rfl, -⟩ := hv
  have hx := B.exec
  have hb := B.bytes
  have hr := B.returns
  have hlocks := B.notSynchronized
  have hl : lv_has ((lg_sl [.int i, .int n, w] ++ List.replicate (3 - (lg_sl [.int i, .int n, w]).length) Slot.unset).toArray) 3 [(0, .int i), (1, .int n)] := by
    rcases hw with rfl | ⟨t, rfl⟩
    · exact lv_sub (lv_entry ([.int i, .int n, .null]) (n := 3) (Nat.le_of_ble_eq_true rfl)) [0, 1] rfl
    · exact lv_sub (lv_entry ([.int i, .int n, .ref t]) (n := 3) (Nat.le_of_ble_eq_true rfl)) [0, 1] rfl
  rw [lg_entry_eq]
  generalize (lg_sl [.int i, .int n, w] ++ List.replicate (3 - (lg_sl [.int i, .int n, w]).length) Slot.unset).toArray = ls at hl ⊢
  refine lv_iload_n hx hb d_pi_0 rfl (lv_at hl 0 rfl) ?_
  refine lv_if_lt (tgt := 9) hx hb d_pi_1 (by decide) (fun h => absurd h h1) (fun _ => ?_)
  refine lv_iload_n hx hb d_pi_4 rfl (lv_at hl 0 rfl) ?_
  refine lv_iload_n hx hb d_pi_5 rfl (lv_at hl 1 rfl) ?_
  refine lv_icmp_lt (tgt := 16) hx hb d_pi_6 (by decide) (fun _ => ?_) (fun h => absurd h2 h)
  refine lv_iload_n hx hb d_pi_16 rfl (lv_at hl 0 rfl) ?_
  exact W.iret hx hb hr (fun t ht _ => ⟨rfl, ht⟩) (fun q hq => by cases hq) d_pi_17
set_option maxRecDepth 100000 in
theorem c_ci (l : Launch) (i n : Int32) (A : Nat → Prop) (h1 : ¬ i < 0) (h2 : i < n) : Met l y_ci (.code y_ci prog_23_method_155_code 2 none :: zT) { frames := 1, cells := 0, slots := 0, locals := 40 } (va_Pc [.int i, .int n] (fun U => va_Zq "jdk/internal/util/Preconditions" "SIOOBE_FORMATTER" "Ljava/util/function/BiFunction;" A U U.heap)) (va_Sv (fun _ => True)) 0 0 (fun _ => False) := by
  refine Met.ofW (cc := prog_23_method_155_code) (maxL := 2) (ret := none) (by decide) rfl ?_
  intro p e s m args below meth c s₁ B hml hv
  obtain ⟨rfl, hZ⟩ := hv
  have hx := B.exec
  have hb := B.bytes
  have hr := B.returns
  have hlocks := B.notSynchronized
  have hown : s.vm.findClass "java/lang/String" = some m.cls := findClass_of_methodNamed B.named
  have hts0 := atoms_spec (ws := .code y_ci prog_23_method_155_code 2 none :: zT) B.pre
  have hts : ∀ w ∈ zT, w.before (([.int i, .int n] : List Value).toArray) s = true := fun w h => hts0 w (List.mem_cons_of_mem _ h)
  have hl := lv_entry ([.int i, .int n]) (n := 2) (Nat.le_of_ble_eq_true rfl)
  rw [lg_entry_eq]
  generalize (lg_sl [.int i, .int n] ++ List.replicate (2 - (lg_sl [.int i, .int n]).length) Slot.unset).toArray = ls at hl ⊢
  have hl : lv_has ls 2 [(0, .int i), (1, .int n)] := hl
  refine lv_iload_n hx hb d_ci_0 rfl (lv_at hl 0 rfl) ?_
  refine lv_iload_n hx hb d_ci_1 rfl (lv_at hl 1 rfl) ?_
  have key : ∀ w : Value, (w = .null ∨ ∃ t, w = .ref t) → va_Z "jdk/internal/util/Preconditions" "SIOOBE_FORMATTER" "Ljava/util/function/BiFunction;" w A s s.heap → W p l e (headSpec (.code y_ci prog_23_method_155_code 2 none :: zT) { frames := 1, cells := 0, slots := 0, locals := 40 }).room s m (([.int i, .int n] : List Value).toArray) below meth c s.heap [] 0 0 (MQ below (va_Sv (fun _ => True)) (([.int i, .int n] : List Value).toArray) s 0 0 (fun _ => False)) (F0 m 2 ls [.int n, .int i]) := by
    intro w hw hZ
    refine va_gets hx hb hZ va_S.rf hown (hts _ f_ci) (fun _ h => h) d_ci_2 ?_
    refine W.callR (W.runS (As := [.int i, .int n, w]) (rest := []) ⟨hx, hb, hml, hown, hts⟩ (c_pi l i n w hw h1 h2) ⟨callB_of 3 hts (z_T_good (fun w hw => (List.mem_cons.mp hw).elim (fun e => e ▸ w_pi) id)) rfl rfl rfl (hts _ i_pi) (hts _ l_pi) (by decide +kernel) ⟨Nat.le_of_ble_eq_true rfl, Nat.le_of_ble_eq_true rfl⟩, hts _ s_pi⟩ ⟨fun a U g mk q => q, fun U hU hW => ⟨rfl, trivial⟩⟩ rfl rfl hl.1 rfl (lv_room (Nat.le_of_ble_eq_true rfl)) d_ci_5 ⟨Nat.le_of_ble_eq_true rfl, Nat.le_of_ble_eq_true rfl⟩) ?_
    refine lv_pop hx hb d_ci_8 rfl ?_
    exact W.vret hx hb hr (fun t ht _ => ⟨rfl, trivial, ht⟩) (fun q hq => by cases hq) d_ci_9
  rcases hZ with hZ | ⟨t, hZ⟩
  · exact key _ (Or.inl rfl) hZ
  · exact key _ (Or.inr ⟨t, rfl⟩) hZ
