/-! what can be undone, what is kept -/
theorem eX5_stage_0 {d : Nat} {S : zS} {Q : zR → Prop} : zW d MX5_stage 0 S Q = zGo d MX5_stage (.aload 1) z0 1 S Q := zW_step (I := .aload_n 1) rfl S Q
theorem eX5_stage_1 {d : Nat} {S : zS} {Q : zR → Prop} : zW d MX5_stage 1 S Q = zGo d MX5_stage (.aload 0) z0 2 S Q := zW_step (I := .aload_n 0) rfl S Q
theorem eX5_stage_2 {d : Nat} {S : zS} {Q : zR → Prop} : zW d MX5_stage 2 S Q = zGo d MX5_stage (.getfield 15) (zf 3 5 1) 5 S Q := zW_step (I := .getfield 15) rfl S Q
theorem eX5_stage_5 {d : Nat} {S : zS} {Q : zR → Prop} : zW d MX5_stage 5 S Q = zGo d MX5_stage (.iconst 0) (zv (.int 0)) 6 S Q := zW_step (I := .iconst 0) rfl S Q
theorem eX5_stage_6 {d : Nat} {S : zS} {Q : zR → Prop} : zW d MX5_stage 6 S Q = zGo d MX5_stage (.invokevirtual 21) (zc 127 3 9) 9 S Q := zW_step (I := .invokevirtual 21) rfl S Q
theorem eX5_stage_9 {d : Nat} {S : zS} {Q : zR → Prop} : zW d MX5_stage 9 S Q = zGo d MX5_stage (.return_) z0 10 S Q := zW_step (I := .return_) rfl S Q
theorem rX5_stage : MX5_stage.2.2.2.2.1 = none := rfl
theorem eX5_push_0 {d : Nat} {S : zS} {Q : zR → Prop} : zW d MX5_push 0 S Q = zGo d MX5_push (.aload 0) z0 1 S Q := zW_step (I := .aload_n 0) rfl S Q
theorem eX5_push_1 {d : Nat} {S : zS} {Q : zR → Prop} : zW d MX5_push 1 S Q = zGo d MX5_push (.getfield 27) (zf 0 5 4) 4 S Q := zW_step (I := .getfield 27) rfl S Q
theorem eX5_push_4 {d : Nat} {S : zS} {Q : zR → Prop} : zW d MX5_push 4 S Q = zGo d MX5_push (.bipush 15) (zv (.int 15)) 6 S Q := zW_step (I := .bipush 15) rfl S Q
theorem eX5_push_6 {d : Nat} {S : zS} {Q : zR → Prop} : zW d MX5_push 6 S Q = zGo d MX5_push (.if_icmp .ne 28) (zt 34) 9 S Q := zW_step (I := .if_icmp .ne 28) rfl S Q
theorem eX5_push_9 {d : Nat} {S : zS} {Q : zR → Prop} : zW d MX5_push 9 S Q = zGo d MX5_push (.aload 0) z0 10 S Q := zW_step (I := .aload_n 0) rfl S Q
theorem eX5_push_10 {d : Nat} {S : zS} {Q : zR → Prop} : zW d MX5_push 10 S Q = zGo d MX5_push (.getfield 11) (zf 3 5 0) 13 S Q := zW_step (I := .getfield 11) rfl S Q
theorem eX5_push_13 {d : Nat} {S : zS} {Q : zR → Prop} : zW d MX5_push 13 S Q = zGo d MX5_push (.iconst 3) (zv (.int 3)) 14 S Q := zW_step (I := .iconst 3) rfl S Q
theorem eX5_push_14 {d : Nat} {S : zS} {Q : zR → Prop} : zW d MX5_push 14 S Q = zGo d MX5_push (.aload 0) z0 15 S Q := zW_step (I := .aload_n 0) rfl S Q
theorem eX5_push_15 {d : Nat} {S : zS} {Q : zR → Prop} : zW d MX5_push 15 S Q = zGo d MX5_push (.getfield 11) (zf 3 5 0) 18 S Q := zW_step (I := .getfield 11) rfl S Q
theorem eX5_push_18 {d : Nat} {S : zS} {Q : zR → Prop} : zW d MX5_push 18 S Q = zGo d MX5_push (.iconst 0) (zv (.int 0)) 19 S Q := zW_step (I := .iconst 0) rfl S Q
theorem eX5_push_19 {d : Nat} {S : zS} {Q : zR → Prop} : zW d MX5_push 19 S Q = zGo d MX5_push (.bipush 42) (zv (.int 42)) 21 S Q := zW_step (I := .bipush 42) rfl S Q
theorem eX5_push_21 {d : Nat} {S : zS} {Q : zR → Prop} : zW d MX5_push 21 S Q = zGo d MX5_push (.invokestatic 31) (zt 999) 24 S Q := zW_step (I := .invokestatic 31) rfl S Q
theorem eX5_push_24 {d : Nat} {S : zS} {Q : zR → Prop} : zW d MX5_push 24 S Q = zGo d MX5_push (.aload 0) z0 25 S Q := zW_step (I := .aload_n 0) rfl S Q
theorem eX5_push_25 {d : Nat} {S : zS} {Q : zR → Prop} : zW d MX5_push 25 S Q = zGo d MX5_push (.dup) z0 26 S Q := zW_step (I := .dup) rfl S Q
theorem eX5_push_26 {d : Nat} {S : zS} {Q : zR → Prop} : zW d MX5_push 26 S Q = zGo d MX5_push (.getfield 27) (zf 0 5 4) 29 S Q := zW_step (I := .getfield 27) rfl S Q
theorem eX5_push_29 {d : Nat} {S : zS} {Q : zR → Prop} : zW d MX5_push 29 S Q = zGo d MX5_push (.iconst 1) (zv (.int 1)) 30 S Q := zW_step (I := .iconst 1) rfl S Q
theorem eX5_push_30 {d : Nat} {S : zS} {Q : zR → Prop} : zW d MX5_push 30 S Q = zGo d MX5_push (.isub) z0 31 S Q := zW_step (I := .isub) rfl S Q
theorem eX5_push_31 {d : Nat} {S : zS} {Q : zR → Prop} : zW d MX5_push 31 S Q = zGo d MX5_push (.putfield 27) (zf 0 5 4) 34 S Q := zW_step (I := .putfield 27) rfl S Q
theorem eX5_push_34 {d : Nat} {S : zS} {Q : zR → Prop} : zW d MX5_push 34 S Q = zGo d MX5_push (.aload 0) z0 35 S Q := zW_step (I := .aload_n 0) rfl S Q
theorem eX5_push_35 {d : Nat} {S : zS} {Q : zR → Prop} : zW d MX5_push 35 S Q = zGo d MX5_push (.getfield 15) (zf 3 5 1) 38 S Q := zW_step (I := .getfield 15) rfl S Q
theorem eX5_push_38 {d : Nat} {S : zS} {Q : zR → Prop} : zW d MX5_push 38 S Q = zGo d MX5_push (.iconst 0) (zv (.int 0)) 39 S Q := zW_step (I := .iconst 0) rfl S Q
theorem eX5_push_39 {d : Nat} {S : zS} {Q : zR → Prop} : zW d MX5_push 39 S Q = zGo d MX5_push (.aload 0) z0 40 S Q := zW_step (I := .aload_n 0) rfl S Q
theorem eX5_push_40 {d : Nat} {S : zS} {Q : zR → Prop} : zW d MX5_push 40 S Q = zGo d MX5_push (.getfield 11) (zf 3 5 0) 43 S Q := zW_step (I := .getfield 11) rfl S Q
theorem eX5_push_43 {d : Nat} {S : zS} {Q : zR → Prop} : zW d MX5_push 43 S Q = zGo d MX5_push (.iconst 3) (zv (.int 3)) 44 S Q := zW_step (I := .iconst 3) rfl S Q
theorem eX5_push_44 {d : Nat} {S : zS} {Q : zR → Prop} : zW d MX5_push 44 S Q = zGo d MX5_push (.aload 0) z0 45 S Q := zW_step (I := .aload_n 0) rfl S Q
theorem eX5_push_45 {d : Nat} {S : zS} {Q : zR → Prop} : zW d MX5_push 45 S Q = zGo d MX5_push (.getfield 27) (zf 0 5 4) 48 S Q := zW_step (I := .getfield 27) rfl S Q
theorem eX5_push_48 {d : Nat} {S : zS} {Q : zR → Prop} : zW d MX5_push 48 S Q = zGo d MX5_push (.imul) z0 49 S Q := zW_step (I := .imul) rfl S Q
theorem eX5_push_49 {d : Nat} {S : zS} {Q : zR → Prop} : zW d MX5_push 49 S Q = zGo d MX5_push (.iconst 3) (zv (.int 3)) 50 S Q := zW_step (I := .iconst 3) rfl S Q
theorem eX5_push_50 {d : Nat} {S : zS} {Q : zR → Prop} : zW d MX5_push 50 S Q = zGo d MX5_push (.invokestatic 31) (zt 999) 53 S Q := zW_step (I := .invokestatic 31) rfl S Q
theorem eX5_push_53 {d : Nat} {S : zS} {Q : zR → Prop} : zW d MX5_push 53 S Q = zGo d MX5_push (.aload 0) z0 54 S Q := zW_step (I := .aload_n 0) rfl S Q
theorem eX5_push_54 {d : Nat} {S : zS} {Q : zR → Prop} : zW d MX5_push 54 S Q = zGo d MX5_push (.dup) z0 55 S Q := zW_step (I := .dup) rfl S Q
theorem eX5_push_55 {d : Nat} {S : zS} {Q : zR → Prop} : zW d MX5_push 55 S Q = zGo d MX5_push (.getfield 27) (zf 0 5 4) 58 S Q := zW_step (I := .getfield 27) rfl S Q
theorem eX5_push_58 {d : Nat} {S : zS} {Q : zR → Prop} : zW d MX5_push 58 S Q = zGo d MX5_push (.iconst 1) (zv (.int 1)) 59 S Q := zW_step (I := .iconst 1) rfl S Q
theorem eX5_push_59 {d : Nat} {S : zS} {Q : zR → Prop} : zW d MX5_push 59 S Q = zGo d MX5_push (.iadd) z0 60 S Q := zW_step (I := .iadd) rfl S Q
theorem eX5_push_60 {d : Nat} {S : zS} {Q : zR → Prop} : zW d MX5_push 60 S Q = zGo d MX5_push (.putfield 27) (zf 0 5 4) 63 S Q := zW_step (I := .putfield 27) rfl S Q
theorem eX5_push_63 {d : Nat} {S : zS} {Q : zR → Prop} : zW d MX5_push 63 S Q = zGo d MX5_push (.return_) z0 64 S Q := zW_step (I := .return_) rfl S Q
theorem rX5_push : MX5_push.2.2.2.2.1 = none := rfl
theorem eX5_pop_0 {d : Nat} {S : zS} {Q : zR → Prop} : zW d MX5_pop 0 S Q = zGo d MX5_pop (.aload 0) z0 1 S Q := zW_step (I := .aload_n 0) rfl S Q
theorem eX5_pop_1 {d : Nat} {S : zS} {Q : zR → Prop} : zW d MX5_pop 1 S Q = zGo d MX5_pop (.getfield 27) (zf 0 5 4) 4 S Q := zW_step (I := .getfield 27) rfl S Q
theorem eX5_pop_4 {d : Nat} {S : zS} {Q : zR → Prop} : zW d MX5_pop 4 S Q = zGo d MX5_pop (.ifCond .ne 5) (zt 9) 7 S Q := zW_step (I := .ifCond .ne 5) rfl S Q
theorem eX5_pop_7 {d : Nat} {S : zS} {Q : zR → Prop} : zW d MX5_pop 7 S Q = zGo d MX5_pop (.iconst (-1)) (zv (.int (-1))) 8 S Q := zW_step (I := .iconst (-1)) rfl S Q
theorem eX5_pop_8 {d : Nat} {S : zS} {Q : zR → Prop} : zW d MX5_pop 8 S Q = zGo d MX5_pop (.ireturn) z0 9 S Q := zW_step (I := .ireturn) rfl S Q
theorem eX5_pop_9 {d : Nat} {S : zS} {Q : zR → Prop} : zW d MX5_pop 9 S Q = zGo d MX5_pop (.aload 0) z0 10 S Q := zW_step (I := .aload_n 0) rfl S Q
theorem eX5_pop_10 {d : Nat} {S : zS} {Q : zR → Prop} : zW d MX5_pop 10 S Q = zGo d MX5_pop (.dup) z0 11 S Q := zW_step (I := .dup) rfl S Q
theorem eX5_pop_11 {d : Nat} {S : zS} {Q : zR → Prop} : zW d MX5_pop 11 S Q = zGo d MX5_pop (.getfield 27) (zf 0 5 4) 14 S Q := zW_step (I := .getfield 27) rfl S Q
theorem eX5_pop_14 {d : Nat} {S : zS} {Q : zR → Prop} : zW d MX5_pop 14 S Q = zGo d MX5_pop (.iconst 1) (zv (.int 1)) 15 S Q := zW_step (I := .iconst 1) rfl S Q
theorem eX5_pop_15 {d : Nat} {S : zS} {Q : zR → Prop} : zW d MX5_pop 15 S Q = zGo d MX5_pop (.isub) z0 16 S Q := zW_step (I := .isub) rfl S Q
theorem eX5_pop_16 {d : Nat} {S : zS} {Q : zR → Prop} : zW d MX5_pop 16 S Q = zGo d MX5_pop (.putfield 27) (zf 0 5 4) 19 S Q := zW_step (I := .putfield 27) rfl S Q
theorem eX5_pop_19 {d : Nat} {S : zS} {Q : zR → Prop} : zW d MX5_pop 19 S Q = zGo d MX5_pop (.aload 1) z0 20 S Q := zW_step (I := .aload_n 1) rfl S Q
theorem eX5_pop_20 {d : Nat} {S : zS} {Q : zR → Prop} : zW d MX5_pop 20 S Q = zGo d MX5_pop (.aload 0) z0 21 S Q := zW_step (I := .aload_n 0) rfl S Q
theorem eX5_pop_21 {d : Nat} {S : zS} {Q : zR → Prop} : zW d MX5_pop 21 S Q = zGo d MX5_pop (.getfield 11) (zf 3 5 0) 24 S Q := zW_step (I := .getfield 11) rfl S Q
theorem eX5_pop_24 {d : Nat} {S : zS} {Q : zR → Prop} : zW d MX5_pop 24 S Q = zGo d MX5_pop (.aload 0) z0 25 S Q := zW_step (I := .aload_n 0) rfl S Q
theorem eX5_pop_25 {d : Nat} {S : zS} {Q : zR → Prop} : zW d MX5_pop 25 S Q = zGo d MX5_pop (.getfield 27) (zf 0 5 4) 28 S Q := zW_step (I := .getfield 27) rfl S Q
theorem eX5_pop_28 {d : Nat} {S : zS} {Q : zR → Prop} : zW d MX5_pop 28 S Q = zGo d MX5_pop (.invokevirtual 37) (zc 128 3 9) 31 S Q := zW_step (I := .invokevirtual 37) rfl S Q
theorem eX5_pop_31 {d : Nat} {S : zS} {Q : zR → Prop} : zW d MX5_pop 31 S Q = zGo d MX5_pop (.aload 0) z0 32 S Q := zW_step (I := .aload_n 0) rfl S Q
theorem eX5_pop_32 {d : Nat} {S : zS} {Q : zR → Prop} : zW d MX5_pop 32 S Q = zGo d MX5_pop (.getfield 27) (zf 0 5 4) 35 S Q := zW_step (I := .getfield 27) rfl S Q
theorem eX5_pop_35 {d : Nat} {S : zS} {Q : zR → Prop} : zW d MX5_pop 35 S Q = zGo d MX5_pop (.ireturn) z0 36 S Q := zW_step (I := .ireturn) rfl S Q
theorem rX5_pop : MX5_pop.2.2.2.2.1 = some .int := rfl
theorem eX5_forgetSteps_0 {d : Nat} {S : zS} {Q : zR → Prop} : zW d MX5_forgetSteps 0 S Q = zGo d MX5_forgetSteps (.aload 0) z0 1 S Q := zW_step (I := .aload_n 0) rfl S Q
theorem eX5_forgetSteps_1 {d : Nat} {S : zS} {Q : zR → Prop} : zW d MX5_forgetSteps 1 S Q = zGo d MX5_forgetSteps (.iconst 0) (zv (.int 0)) 2 S Q := zW_step (I := .iconst 0) rfl S Q
theorem eX5_forgetSteps_2 {d : Nat} {S : zS} {Q : zR → Prop} : zW d MX5_forgetSteps 2 S Q = zGo d MX5_forgetSteps (.putfield 27) (zf 0 5 4) 5 S Q := zW_step (I := .putfield 27) rfl S Q
theorem eX5_forgetSteps_5 {d : Nat} {S : zS} {Q : zR → Prop} : zW d MX5_forgetSteps 5 S Q = zGo d MX5_forgetSteps (.return_) z0 6 S Q := zW_step (I := .return_) rfl S Q
theorem rX5_forgetSteps : MX5_forgetSteps.2.2.2.2.1 = none := rfl
theorem eX5_forgetKept_0 {d : Nat} {S : zS} {Q : zR → Prop} : zW d MX5_forgetKept 0 S Q = zGo d MX5_forgetKept (.aload 0) z0 1 S Q := zW_step (I := .aload_n 0) rfl S Q
theorem eX5_forgetKept_1 {d : Nat} {S : zS} {Q : zR → Prop} : zW d MX5_forgetKept 1 S Q = zGo d MX5_forgetKept (.iconst 0) (zv (.int 0)) 2 S Q := zW_step (I := .iconst 0) rfl S Q
theorem eX5_forgetKept_2 {d : Nat} {S : zS} {Q : zR → Prop} : zW d MX5_forgetKept 2 S Q = zGo d MX5_forgetKept (.putfield 57) (zf 0 5 3) 5 S Q := zW_step (I := .putfield 57) rfl S Q
theorem eX5_forgetKept_5 {d : Nat} {S : zS} {Q : zR → Prop} : zW d MX5_forgetKept 5 S Q = zGo d MX5_forgetKept (.return_) z0 6 S Q := zW_step (I := .return_) rfl S Q
theorem rX5_forgetKept : MX5_forgetKept.2.2.2.2.1 = none := rfl
theorem eX5_hold_0 {d : Nat} {S : zS} {Q : zR → Prop} : zW d MX5_hold 0 S Q = zGo d MX5_hold (.iload 2) z0 1 S Q := zW_step (I := .iload_n 2) rfl S Q
theorem eX5_hold_1 {d : Nat} {S : zS} {Q : zR → Prop} : zW d MX5_hold 1 S Q = zGo d MX5_hold (.ifCond .lt 8) (zt 9) 4 S Q := zW_step (I := .ifCond .lt 8) rfl S Q
theorem eX5_hold_4 {d : Nat} {S : zS} {Q : zR → Prop} : zW d MX5_hold 4 S Q = zGo d MX5_hold (.iload 2) z0 5 S Q := zW_step (I := .iload_n 2) rfl S Q
theorem eX5_hold_5 {d : Nat} {S : zS} {Q : zR → Prop} : zW d MX5_hold 5 S Q = zGo d MX5_hold (.iconst 3) (zv (.int 3)) 6 S Q := zW_step (I := .iconst 3) rfl S Q
theorem eX5_hold_6 {d : Nat} {S : zS} {Q : zR → Prop} : zW d MX5_hold 6 S Q = zGo d MX5_hold (.if_icmp .lt 5) (zt 11) 9 S Q := zW_step (I := .if_icmp .lt 5) rfl S Q
theorem eX5_hold_9 {d : Nat} {S : zS} {Q : zR → Prop} : zW d MX5_hold 9 S Q = zGo d MX5_hold (.iconst 0) (zv (.int 0)) 10 S Q := zW_step (I := .iconst 0) rfl S Q
theorem eX5_hold_10 {d : Nat} {S : zS} {Q : zR → Prop} : zW d MX5_hold 10 S Q = zGo d MX5_hold (.ireturn) z0 11 S Q := zW_step (I := .ireturn) rfl S Q
theorem eX5_hold_11 {d : Nat} {S : zS} {Q : zR → Prop} : zW d MX5_hold 11 S Q = zGo d MX5_hold (.aload 1) z0 12 S Q := zW_step (I := .aload_n 1) rfl S Q
theorem eX5_hold_12 {d : Nat} {S : zS} {Q : zR → Prop} : zW d MX5_hold 12 S Q = zGo d MX5_hold (.aload 0) z0 13 S Q := zW_step (I := .aload_n 0) rfl S Q
theorem eX5_hold_13 {d : Nat} {S : zS} {Q : zR → Prop} : zW d MX5_hold 13 S Q = zGo d MX5_hold (.getfield 18) (zf 3 5 2) 16 S Q := zW_step (I := .getfield 18) rfl S Q
theorem eX5_hold_16 {d : Nat} {S : zS} {Q : zR → Prop} : zW d MX5_hold 16 S Q = zGo d MX5_hold (.iload 2) z0 17 S Q := zW_step (I := .iload_n 2) rfl S Q
theorem eX5_hold_17 {d : Nat} {S : zS} {Q : zR → Prop} : zW d MX5_hold 17 S Q = zGo d MX5_hold (.invokevirtual 21) (zc 127 3 9) 20 S Q := zW_step (I := .invokevirtual 21) rfl S Q
theorem eX5_hold_20 {d : Nat} {S : zS} {Q : zR → Prop} : zW d MX5_hold 20 S Q = zGo d MX5_hold (.aload 0) z0 21 S Q := zW_step (I := .aload_n 0) rfl S Q
theorem eX5_hold_21 {d : Nat} {S : zS} {Q : zR → Prop} : zW d MX5_hold 21 S Q = zGo d MX5_hold (.dup) z0 22 S Q := zW_step (I := .dup) rfl S Q
theorem eX5_hold_22 {d : Nat} {S : zS} {Q : zR → Prop} : zW d MX5_hold 22 S Q = zGo d MX5_hold (.getfield 57) (zf 0 5 3) 25 S Q := zW_step (I := .getfield 57) rfl S Q
theorem eX5_hold_25 {d : Nat} {S : zS} {Q : zR → Prop} : zW d MX5_hold 25 S Q = zGo d MX5_hold (.iconst 1) (zv (.int 1)) 26 S Q := zW_step (I := .iconst 1) rfl S Q
theorem eX5_hold_26 {d : Nat} {S : zS} {Q : zR → Prop} : zW d MX5_hold 26 S Q = zGo d MX5_hold (.iload 2) z0 27 S Q := zW_step (I := .iload_n 2) rfl S Q
theorem eX5_hold_27 {d : Nat} {S : zS} {Q : zR → Prop} : zW d MX5_hold 27 S Q = zGo d MX5_hold (.ishl) z0 28 S Q := zW_step (I := .ishl) rfl S Q
theorem eX5_hold_28 {d : Nat} {S : zS} {Q : zR → Prop} : zW d MX5_hold 28 S Q = zGo d MX5_hold (.ior) z0 29 S Q := zW_step (I := .ior) rfl S Q
theorem eX5_hold_29 {d : Nat} {S : zS} {Q : zR → Prop} : zW d MX5_hold 29 S Q = zGo d MX5_hold (.putfield 57) (zf 0 5 3) 32 S Q := zW_step (I := .putfield 57) rfl S Q
theorem eX5_hold_32 {d : Nat} {S : zS} {Q : zR → Prop} : zW d MX5_hold 32 S Q = zGo d MX5_hold (.iconst 1) (zv (.int 1)) 33 S Q := zW_step (I := .iconst 1) rfl S Q
theorem eX5_hold_33 {d : Nat} {S : zS} {Q : zR → Prop} : zW d MX5_hold 33 S Q = zGo d MX5_hold (.ireturn) z0 34 S Q := zW_step (I := .ireturn) rfl S Q
theorem rX5_hold : MX5_hold.2.2.2.2.1 = some .boolean := rfl
theorem eX5_bringBack_0 {d : Nat} {S : zS} {Q : zR → Prop} : zW d MX5_bringBack 0 S Q = zGo d MX5_bringBack (.iload 2) z0 1 S Q := zW_step (I := .iload_n 2) rfl S Q
theorem eX5_bringBack_1 {d : Nat} {S : zS} {Q : zR → Prop} : zW d MX5_bringBack 1 S Q = zGo d MX5_bringBack (.ifCond .lt 19) (zt 20) 4 S Q := zW_step (I := .ifCond .lt 19) rfl S Q
theorem eX5_bringBack_4 {d : Nat} {S : zS} {Q : zR → Prop} : zW d MX5_bringBack 4 S Q = zGo d MX5_bringBack (.iload 2) z0 5 S Q := zW_step (I := .iload_n 2) rfl S Q
theorem eX5_bringBack_5 {d : Nat} {S : zS} {Q : zR → Prop} : zW d MX5_bringBack 5 S Q = zGo d MX5_bringBack (.iconst 3) (zv (.int 3)) 6 S Q := zW_step (I := .iconst 3) rfl S Q
theorem eX5_bringBack_6 {d : Nat} {S : zS} {Q : zR → Prop} : zW d MX5_bringBack 6 S Q = zGo d MX5_bringBack (.if_icmp .ge 14) (zt 20) 9 S Q := zW_step (I := .if_icmp .ge 14) rfl S Q
theorem eX5_bringBack_9 {d : Nat} {S : zS} {Q : zR → Prop} : zW d MX5_bringBack 9 S Q = zGo d MX5_bringBack (.aload 0) z0 10 S Q := zW_step (I := .aload_n 0) rfl S Q
theorem eX5_bringBack_10 {d : Nat} {S : zS} {Q : zR → Prop} : zW d MX5_bringBack 10 S Q = zGo d MX5_bringBack (.getfield 57) (zf 0 5 3) 13 S Q := zW_step (I := .getfield 57) rfl S Q
theorem eX5_bringBack_13 {d : Nat} {S : zS} {Q : zR → Prop} : zW d MX5_bringBack 13 S Q = zGo d MX5_bringBack (.iload 2) z0 14 S Q := zW_step (I := .iload_n 2) rfl S Q
theorem eX5_bringBack_14 {d : Nat} {S : zS} {Q : zR → Prop} : zW d MX5_bringBack 14 S Q = zGo d MX5_bringBack (.ishr) z0 15 S Q := zW_step (I := .ishr) rfl S Q
theorem eX5_bringBack_15 {d : Nat} {S : zS} {Q : zR → Prop} : zW d MX5_bringBack 15 S Q = zGo d MX5_bringBack (.iconst 1) (zv (.int 1)) 16 S Q := zW_step (I := .iconst 1) rfl S Q
theorem eX5_bringBack_16 {d : Nat} {S : zS} {Q : zR → Prop} : zW d MX5_bringBack 16 S Q = zGo d MX5_bringBack (.iand) z0 17 S Q := zW_step (I := .iand) rfl S Q
theorem eX5_bringBack_17 {d : Nat} {S : zS} {Q : zR → Prop} : zW d MX5_bringBack 17 S Q = zGo d MX5_bringBack (.ifCond .ne 5) (zt 22) 20 S Q := zW_step (I := .ifCond .ne 5) rfl S Q
theorem eX5_bringBack_20 {d : Nat} {S : zS} {Q : zR → Prop} : zW d MX5_bringBack 20 S Q = zGo d MX5_bringBack (.iconst 0) (zv (.int 0)) 21 S Q := zW_step (I := .iconst 0) rfl S Q
theorem eX5_bringBack_21 {d : Nat} {S : zS} {Q : zR → Prop} : zW d MX5_bringBack 21 S Q = zGo d MX5_bringBack (.ireturn) z0 22 S Q := zW_step (I := .ireturn) rfl S Q
theorem eX5_bringBack_22 {d : Nat} {S : zS} {Q : zR → Prop} : zW d MX5_bringBack 22 S Q = zGo d MX5_bringBack (.aload 1) z0 23 S Q := zW_step (I := .aload_n 1) rfl S Q
theorem eX5_bringBack_23 {d : Nat} {S : zS} {Q : zR → Prop} : zW d MX5_bringBack 23 S Q = zGo d MX5_bringBack (.aload 0) z0 24 S Q := zW_step (I := .aload_n 0) rfl S Q
theorem eX5_bringBack_24 {d : Nat} {S : zS} {Q : zR → Prop} : zW d MX5_bringBack 24 S Q = zGo d MX5_bringBack (.getfield 18) (zf 3 5 2) 27 S Q := zW_step (I := .getfield 18) rfl S Q
theorem eX5_bringBack_27 {d : Nat} {S : zS} {Q : zR → Prop} : zW d MX5_bringBack 27 S Q = zGo d MX5_bringBack (.iload 2) z0 28 S Q := zW_step (I := .iload_n 2) rfl S Q
theorem eX5_bringBack_28 {d : Nat} {S : zS} {Q : zR → Prop} : zW d MX5_bringBack 28 S Q = zGo d MX5_bringBack (.invokevirtual 37) (zc 128 3 9) 31 S Q := zW_step (I := .invokevirtual 37) rfl S Q
theorem eX5_bringBack_31 {d : Nat} {S : zS} {Q : zR → Prop} : zW d MX5_bringBack 31 S Q = zGo d MX5_bringBack (.aload 0) z0 32 S Q := zW_step (I := .aload_n 0) rfl S Q
theorem eX5_bringBack_32 {d : Nat} {S : zS} {Q : zR → Prop} : zW d MX5_bringBack 32 S Q = zGo d MX5_bringBack (.invokevirtual 60) (zc 73 1 5) 35 S Q := zW_step (I := .invokevirtual 60) rfl S Q
theorem eX5_bringBack_35 {d : Nat} {S : zS} {Q : zR → Prop} : zW d MX5_bringBack 35 S Q = zGo d MX5_bringBack (.iconst 1) (zv (.int 1)) 36 S Q := zW_step (I := .iconst 1) rfl S Q
theorem eX5_bringBack_36 {d : Nat} {S : zS} {Q : zR → Prop} : zW d MX5_bringBack 36 S Q = zGo d MX5_bringBack (.ireturn) z0 37 S Q := zW_step (I := .ireturn) rfl S Q
theorem rX5_bringBack : MX5_bringBack.2.2.2.2.1 = some .boolean := rfl
def pastAt (h : Nat → zE) (p : Nat) (F S K : Nat → Int64) (ko k : Nat) : Prop := p + 3 < 1000 ∧ k ≤ 15 ∧ ko < 8 ∧ h p = zO 5 [.ref (p + 1), .ref (p + 2), .ref (p + 3), .int (nI ko), .int (nI k)] ∧ h (p + 1) = zJ 45 F ∧ h (p + 2) = zJ 3 S ∧ h (p + 3) = zJ 9 K
def pastSet (h : Nat → zE) (p : Nat) (F S K : Nat → Int64) (ko k : Nat) : Nat → zE := fun j => if j = p then zO 5 [.ref (p + 1), .ref (p + 2), .ref (p + 3), .int (nI ko), .int (nI k)] else if j = p + 1 then zJ 45 F else if j = p + 2 then zJ 3 S else if j = p + 3 then zJ 9 K else h j
section PAST
variable {h h' : Nat → zE} {p k k' ko ko' b n : Nat} {F S K F' S' K' : Nat → Int64} {rm mt nt rm' mt' nt' : Nat → Nat} {fm fm' : Bool} {vr : Int32} {d : Nat} {u : zU} {Q : zR → Prop}
theorem pastSet_at (hp : p + 3 < 1000) (hk : k ≤ 15) (ho : ko < 8) : pastAt (pastSet h p F S K ko k) p F S K ko k := by
  refine ⟨hp, hk, ho, ?_, ?_, ?_, ?_⟩ <;> simp [pastSet]
theorem pastSet_out {j : Nat} (hj : j < p ∨ p + 3 < j) : pastSet h p F S K ko k j = h j := by
  unfold pastSet
  rw [if_neg (by omega), if_neg (by omega), if_neg (by omega), if_neg (by omega)]
theorem pastSet_of (ho : ∀ j, j < p ∨ p + 3 < j → h' j = h j) (h0 : h' p = zO 5 [.ref (p + 1), .ref (p + 2), .ref (p + 3), .int (nI ko), .int (nI k)]) (h1 : h' (p + 1) = zJ 45 F) (h2 : h' (p + 2) = zJ 3 S) (h3 : h' (p + 3) = zJ 9 K) : h' = pastSet h p F S K ko k := by
  funext j
  unfold pastSet
  by_cases c0 : j = p
  · rw [if_pos c0, c0, h0]
  · rw [if_neg c0]
    by_cases c1 : j = p + 1
    · rw [if_pos c1, c1, h1]
    · rw [if_neg c1]
      by_cases c2 : j = p + 2
      · rw [if_pos c2, c2, h2]
      · rw [if_neg c2]
        by_cases c3 : j = p + 3
        · rw [if_pos c3, c3, h3]
        · rw [if_neg c3]
          exact ho j (by omega)
theorem pastSet_self (hP : pastAt h p F S K ko k) : pastSet h p F S K ko k = h := (pastSet_of (fun _ _ => rfl) hP.2.2.2.1 hP.2.2.2.2.1 hP.2.2.2.2.2.1 hP.2.2.2.2.2.2).symm
theorem pastSet_set : pastSet (pastSet h p F S K ko k) p F' S' K' ko' k' = pastSet h p F' S' K' ko' k' := by
  funext j
  by_cases c : j < p ∨ p + 3 < j
  · rw [pastSet_out c, pastSet_out c, pastSet_out c]
  · unfold pastSet
    by_cases c0 : j = p
    · simp [c0]
    · by_cases c1 : j = p + 1
      · simp [c1]
      · by_cases c2 : j = p + 2
        · simp [c2]
        · have c3 : j = p + 3 := by omega
          simp [c3]
theorem toldAt_out (ho : ∀ j, b ≤ j → j ≤ b + 3 → h' j = h j) (hT : toldAt h b n rm mt nt fm vr) : toldAt h' b n rm mt nt fm vr := by
  obtain ⟨hb, h0, h1, h2, h3, hr⟩ := hT
  exact ⟨hb, by rw [ho _ (by omega) (by omega)]; exact h0, by rw [ho _ (by omega) (by omega)]; exact h1, by rw [ho _ (by omega) (by omega)]; exact h2, by rw [ho _ (by omega) (by omega)]; exact h3, hr⟩
theorem pastAt_out (ho : ∀ j, p ≤ j → j ≤ p + 3 → h' j = h j) (hP : pastAt h p F S K ko k) : pastAt h' p F S K ko k := by
  obtain ⟨hb, hk, hko, h0, h1, h2, h3⟩ := hP
  exact ⟨hb, hk, hko, by rw [ho _ (by omega) (by omega)]; exact h0, by rw [ho _ (by omega) (by omega)]; exact h1, by rw [ho _ (by omega) (by omega)]; exact h2, by rw [ho _ (by omega) (by omega)]; exact h3⟩
theorem zg_copyJ {M : zM} {nx i a b n0 n1 : Nat} {L st : List Value} {f g : Nat → Int64} {n dp sp : Int32} (ha : h a = zJ n0 f) (hb : h b = zJ n1 g) : zGo d M (.invokestatic i) (zt 999) nx (L, .int n :: .int dp :: .ref b :: .int sp :: .ref a :: st, (h, u)) Q = (((a < 1000 ∧ b < 1000 ∧ (st.map fun v => v.category).sum ≤ 8) ∧ ¬ sp < 0 ∧ ¬ dp < 0 ∧ ¬ n < 0 ∧ sp.toNatClampNeg + n.toNatClampNeg ≤ n0 ∧ dp.toNatClampNeg + n.toNatClampNeg ≤ n1) ∧ zW d M nx (L, st, (z_up h b (zJ n1 (va_cpy f g sp.toNatClampNeg dp.toNatClampNeg n.toNatClampNeg)), u)) Q) := by
  unfold zGo
  simp [zplain, zcopy, ha, hb]
/-- a snapshot of what is told, put by -/
theorem c_stage (hP : pastAt h p F S K ko k) (hT : toldAt h b n rm mt nt fm vr) (hd : p + 3 < b ∨ b + 3 < p) : zK (d + 3) 69 [.ref p, .ref b] (h, u) Q = Q (none, (pastSet h p F (sv3 S 0 (pk7 mt 7) (pk7 nt 7) (2 * pk7 rm 7 + fm.toNat)) K ko k, u)) := by
  obtain ⟨hp, hk, hko, h0, h1, h2, h3⟩ := id hP
  obtain ⟨hb, g0, -⟩ := id hT
  have hp0 : p < 1000 := by omega
  have hb0 : b < 1000 := by omega
  have key : ∀ G, z_up h (p + 2) (zJ 3 G) = pastSet h p F G K ko k := by
    intro G
    apply pastSet_of
    · intro j hj; rw [z_up_n _ _ (by omega)]
    · rw [z_up_n _ _ (by omega)]; exact h0
    · rw [z_up_n _ _ (by omega)]; exact h1
    · rw [z_up_s]
    · rw [z_up_n _ _ (by omega)]; exact h3
  have sv := fun (d : Nat) (u : zU) (Q : zR → Prop) => c_save (d := d) (u := u) (Q := Q) hT (sl := 0) h2 (by decide) (by decide) (show p + 2 < b ∨ b + 3 < p + 2 by omega) (by omega)
  rw [nI_0] at sv
  refine zK_of (k := 3) (by omega) ?_
  refine zK_in (M := MX5_stage) rfl (Nat.le_of_ble_eq_true rfl) ?_
  show zW 2 MX5_stage 0 ([.ref p, .ref b], [], (h, u)) _
  simp only [eX5_stage_0, eX5_stage_1, eX5_stage_2, eX5_stage_5, eX5_stage_6, eX5_stage_9, rX5_stage, zg_aload, zg_getfield, zg_iconst, zg_iv2, zg_return, q10, q01, q00, ite_self, zLd_i, zLd_l, zLd_a, zInc_i, zGet_o, zGet2_s, zPut_o, zAld_i, zAll_j, zAst_i, zAsl_j, zLen_i, zLen_j, zRt_i, zRt_z, zRl2_l, zRv_n, List.getElem?_cons_zero, List.getElem?_cons_succ, List.length_cons, List.length_nil, z_set, z_set2, z_cut, List.set_cons_zero, List.set_cons_succ, Option.toList_some, Option.toList_none, List.cons_append, List.nil_append, zif, zW_ite, zfit_0, zfit_1, zfit_2, zfit_3, zisc_o, zRt_c, zRt_b, List.map_cons, List.map_nil, List.sum_cons, List.sum_nil, true_and, and_true, if_true, if_false, ite_true, ite_false, Nat.reduceLT, Nat.reduceLeDiff, Nat.reduceAdd, Nat.reduceEqDiff, eq_self, not_true_eq_false, not_false_eq_true, Nat.lt_irrefl, or_true, true_or, or_false, false_or, z_cell_lt, Value.category, h0, g0, hp0, hb0, sv, key]
theorem c_push (hP : pastAt h p F S K ko k) : zK (d + 1) 70 [.ref p] (h, u) Q = Q (none, (if k = 15 then pastSet h p (va_cpy S (va_cpy F F 3 0 42) 0 42 3) S K ko 15 else pastSet h p (va_cpy S F 0 (3 * k) 3) S K ko (k + 1), u)) := by
  obtain ⟨hp, hk, hko, h0, h1, h2, h3⟩ := id hP
  have hp0 : p < 1000 := by omega
  have hp1 : p + 1 < 1000 := by omega
  have hp2 : p + 2 < 1000 := by omega
  have q15 : (nI k = 15) = (k = 15) := nI_eqI (b := 15) (by omega) (by decide)
  have n0 : ∀ e, z_up h (p + 1) e p = h p := fun e => z_up_n h e (by omega)
  have key : ∀ G x, z_up (z_up h (p + 1) (zJ 45 G)) p (zO 5 [.ref (p + 1), .ref (p + 2), .ref (p + 3), .int (nI ko), .int (nI x)]) = pastSet h p G S K ko x := by
    intro G x
    apply pastSet_of
    · intro j hj; rw [z_up_n _ _ (by omega), z_up_n _ _ (by omega)]
    · rw [z_up_s]
    · rw [z_up_n _ _ (by omega), z_up_s]
    · rw [z_up_n _ _ (by omega), z_up_n _ _ (by omega)]; exact h2
    · rw [z_up_n _ _ (by omega), z_up_n _ _ (by omega)]; exact h3
  refine zK_of (k := 1) (by omega) ?_
  refine zK_in (M := MX5_push) rfl (Nat.le_of_ble_eq_true rfl) ?_
  show zW 0 MX5_push 0 ([.ref p], [], (h, u)) _
  by_cases c : k = 15
  · subst c
    simp only [if_true]
    have k14 := key (va_cpy F F 3 0 42) 14
    rw [show nI 14 = (15 : Int32) - 1 from by decide] at k14
    have s0 : pastSet h p (va_cpy F F 3 0 42) S K ko 14 p = zO 5 [.ref (p + 1), .ref (p + 2), .ref (p + 3), .int (nI ko), .int (nI 14)] := by simp [pastSet]
    have s1 : pastSet h p (va_cpy F F 3 0 42) S K ko 14 (p + 1) = zJ 45 (va_cpy F F 3 0 42) := by simp [pastSet]
    have s2 : pastSet h p (va_cpy F F 3 0 42) S K ko 14 (p + 2) = zJ 3 S := by simp [pastSet]
    have m0 : ∀ e, z_up (pastSet h p (va_cpy F F 3 0 42) S K ko 14) (p + 1) e p = zO 5 [.ref (p + 1), .ref (p + 2), .ref (p + 3), .int (nI ko), .int (nI 14)] := fun e => by rw [z_up_n _ _ (by omega), s0]
    have k15 : z_up (z_up (pastSet h p (va_cpy F F 3 0 42) S K ko 14) (p + 1) (zJ 45 (va_cpy S (va_cpy F F 3 0 42) 0 42 3))) p (zO 5 [.ref (p + 1), .ref (p + 2), .ref (p + 3), .int (nI ko), .int (nI (14 + 1))]) = pastSet h p (va_cpy S (va_cpy F F 3 0 42) 0 42 3) S K ko 15 := by
      apply pastSet_of
      · intro j hj; rw [z_up_n _ _ (by omega), z_up_n _ _ (by omega), pastSet_out hj]
      · rw [z_up_s]
      · rw [z_up_n _ _ (by omega), z_up_s]
      · rw [z_up_n _ _ (by omega), z_up_n _ _ (by omega), s2]
      · rw [z_up_n _ _ (by omega), z_up_n _ _ (by omega)]; simp [pastSet]
    simp only [eX5_push_0, eX5_push_1, eX5_push_4, eX5_push_6, eX5_push_9, eX5_push_10, eX5_push_13, eX5_push_14, eX5_push_15, eX5_push_18, eX5_push_19, eX5_push_21, eX5_push_24, eX5_push_25, eX5_push_26, eX5_push_29, eX5_push_30, eX5_push_31, eX5_push_34, eX5_push_35, eX5_push_38, eX5_push_39, eX5_push_40, eX5_push_43, eX5_push_44, eX5_push_45, eX5_push_48, eX5_push_49, eX5_push_50, eX5_push_53, eX5_push_54, eX5_push_55, eX5_push_58, eX5_push_59, eX5_push_60, eX5_push_63, rX5_push, zg_aload, zg_bipush, zg_dup, zg_getfield, zg_iadd, zg_icmp, zg_iconst, zg_imul, zg_isub, zg_putfield, zg_return, q10, q01, q00, ite_self, zLd_i, zLd_l, zLd_a, zInc_i, zGet_o, zGet2_s, zPut_o, zAld_i, zAll_j, zAst_i, zAsl_j, zLen_i, zLen_j, zRt_i, zRt_z, zRl2_l, zRv_n, List.getElem?_cons_zero, List.getElem?_cons_succ, List.length_cons, List.length_nil, z_set, z_set2, z_cut, List.set_cons_zero, List.set_cons_succ, Option.toList_some, Option.toList_none, List.cons_append, List.nil_append, zif, zW_ite, zfit_0, zfit_1, zfit_2, zfit_3, zisc_o, zRt_c, zRt_b, List.map_cons, List.map_nil, List.sum_cons, List.sum_nil, true_and, and_true, if_true, if_false, ite_true, ite_false, Nat.reduceLT, Nat.reduceLeDiff, Nat.reduceAdd, Nat.reduceEqDiff, eq_self, not_true_eq_false, not_false_eq_true, Nat.lt_irrefl, or_true, true_or, or_false, false_or, z_cell_lt, Value.category, h0, hp0, hp1, hp2, n0, show nI 15 = (15 : Int32) from rfl, zg_copyJ h1 h1, zg_copyJ s2 s1, k14, s0, m0, q_3k, nI_1, k15, show (3 : Int32).toNatClampNeg = 3 from by decide, show (0 : Int32).toNatClampNeg = 0 from by decide, show (42 : Int32).toNatClampNeg = 42 from by decide, show ((3 : Int32) < 0) = False from by decide, show ((42 : Int32) < 0) = False from by decide, show (nI (3 * 14)).toNatClampNeg = 42 from by decide, show (nI (3 * 14) < 0) = False from by decide]
    exact congrArg (fun z => ((none : Option Value), (z, u))) k15
  · rw [if_neg c]
    have i1 : (nI (3 * k)).toNatClampNeg = 3 * k := nI_clamp (by omega)
    have i2 : (nI (3 * k) < 0) = False := by simp only [nI_pos (show 3 * k < 2 ^ 31 by omega)]
    have i3 : 3 * k + 3 ≤ 45 := by omega
    simp only [eX5_push_0, eX5_push_1, eX5_push_4, eX5_push_6, eX5_push_9, eX5_push_10, eX5_push_13, eX5_push_14, eX5_push_15, eX5_push_18, eX5_push_19, eX5_push_21, eX5_push_24, eX5_push_25, eX5_push_26, eX5_push_29, eX5_push_30, eX5_push_31, eX5_push_34, eX5_push_35, eX5_push_38, eX5_push_39, eX5_push_40, eX5_push_43, eX5_push_44, eX5_push_45, eX5_push_48, eX5_push_49, eX5_push_50, eX5_push_53, eX5_push_54, eX5_push_55, eX5_push_58, eX5_push_59, eX5_push_60, eX5_push_63, rX5_push, zg_aload, zg_bipush, zg_dup, zg_getfield, zg_iadd, zg_icmp, zg_iconst, zg_imul, zg_isub, zg_putfield, zg_return, q10, q01, q00, ite_self, zLd_i, zLd_l, zLd_a, zInc_i, zGet_o, zGet2_s, zPut_o, zAld_i, zAll_j, zAst_i, zAsl_j, zLen_i, zLen_j, zRt_i, zRt_z, zRl2_l, zRv_n, List.getElem?_cons_zero, List.getElem?_cons_succ, List.length_cons, List.length_nil, z_set, z_set2, z_cut, List.set_cons_zero, List.set_cons_succ, Option.toList_some, Option.toList_none, List.cons_append, List.nil_append, zif, zW_ite, zfit_0, zfit_1, zfit_2, zfit_3, zisc_o, zRt_c, zRt_b, List.map_cons, List.map_nil, List.sum_cons, List.sum_nil, true_and, and_true, if_true, if_false, ite_true, ite_false, Nat.reduceLT, Nat.reduceLeDiff, Nat.reduceAdd, Nat.reduceEqDiff, eq_self, not_true_eq_false, not_false_eq_true, Nat.lt_irrefl, or_true, true_or, or_false, false_or, z_cell_lt, Value.category, h0, hp0, hp1, hp2, n0, q15, c, zg_copyJ h2 h1, q_3k, nI_1, key, show (3 : Int32).toNatClampNeg = 3 from by decide, show (0 : Int32).toNatClampNeg = 0 from by decide, show ((3 : Int32) < 0) = False from by decide, i1, i2, i3]
theorem c_fsteps (hP : pastAt h p F S K ko k) : zK (d + 1) 73 [.ref p] (h, u) Q = Q (none, (pastSet h p F S K ko 0, u)) := by
  obtain ⟨hp, hk, hko, h0, h1, h2, h3⟩ := id hP
  have hp0 : p < 1000 := by omega
  have key : z_up h p (zO 5 [.ref (p + 1), .ref (p + 2), .ref (p + 3), .int (nI ko), .int 0]) = pastSet h p F S K ko 0 := by
    apply pastSet_of
    · intro j hj; rw [z_up_n _ _ (by omega)]
    · rw [z_up_s]; rfl
    · rw [z_up_n _ _ (by omega)]; exact h1
    · rw [z_up_n _ _ (by omega)]; exact h2
    · rw [z_up_n _ _ (by omega)]; exact h3
  refine zK_of (k := 1) (by omega) ?_
  refine zK_in (M := MX5_forgetSteps) rfl (Nat.le_of_ble_eq_true rfl) ?_
  show zW 0 MX5_forgetSteps 0 ([.ref p], [], (h, u)) _
  simp only [eX5_forgetSteps_0, eX5_forgetSteps_1, eX5_forgetSteps_2, eX5_forgetSteps_5, rX5_forgetSteps, zg_aload, zg_iconst, zg_putfield, zg_return, q10, q01, q00, ite_self, zLd_i, zLd_l, zLd_a, zInc_i, zGet_o, zGet2_s, zPut_o, zAld_i, zAll_j, zAst_i, zAsl_j, zLen_i, zLen_j, zRt_i, zRt_z, zRl2_l, zRv_n, List.getElem?_cons_zero, List.getElem?_cons_succ, List.length_cons, List.length_nil, z_set, z_set2, z_cut, List.set_cons_zero, List.set_cons_succ, Option.toList_some, Option.toList_none, List.cons_append, List.nil_append, zif, zW_ite, zfit_0, zfit_1, zfit_2, zfit_3, zisc_o, zRt_c, zRt_b, List.map_cons, List.map_nil, List.sum_cons, List.sum_nil, true_and, and_true, if_true, if_false, ite_true, ite_false, Nat.reduceLT, Nat.reduceLeDiff, Nat.reduceAdd, Nat.reduceEqDiff, eq_self, not_true_eq_false, not_false_eq_true, Nat.lt_irrefl, or_true, true_or, or_false, false_or, z_cell_lt, Value.category, h0, hp0, key]
theorem c_fkept (hP : pastAt h p F S K ko k) : zK (d + 1) 74 [.ref p] (h, u) Q = Q (none, (pastSet h p F S K 0 k, u)) := by
  obtain ⟨hp, hk, hko, h0, h1, h2, h3⟩ := id hP
  have hp0 : p < 1000 := by omega
  have key : z_up h p (zO 5 [.ref (p + 1), .ref (p + 2), .ref (p + 3), .int 0, .int (nI k)]) = pastSet h p F S K 0 k := by
    apply pastSet_of
    · intro j hj; rw [z_up_n _ _ (by omega)]
    · rw [z_up_s]; rfl
    · rw [z_up_n _ _ (by omega)]; exact h1
    · rw [z_up_n _ _ (by omega)]; exact h2
    · rw [z_up_n _ _ (by omega)]; exact h3
  refine zK_of (k := 1) (by omega) ?_
  refine zK_in (M := MX5_forgetKept) rfl (Nat.le_of_ble_eq_true rfl) ?_
  show zW 0 MX5_forgetKept 0 ([.ref p], [], (h, u)) _
  simp only [eX5_forgetKept_0, eX5_forgetKept_1, eX5_forgetKept_2, eX5_forgetKept_5, rX5_forgetKept, zg_aload, zg_iconst, zg_putfield, zg_return, q10, q01, q00, ite_self, zLd_i, zLd_l, zLd_a, zInc_i, zGet_o, zGet2_s, zPut_o, zAld_i, zAll_j, zAst_i, zAsl_j, zLen_i, zLen_j, zRt_i, zRt_z, zRl2_l, zRv_n, List.getElem?_cons_zero, List.getElem?_cons_succ, List.length_cons, List.length_nil, z_set, z_set2, z_cut, List.set_cons_zero, List.set_cons_succ, Option.toList_some, Option.toList_none, List.cons_append, List.nil_append, zif, zW_ite, zfit_0, zfit_1, zfit_2, zfit_3, zisc_o, zRt_c, zRt_b, List.map_cons, List.map_nil, List.sum_cons, List.sum_nil, true_and, and_true, if_true, if_false, ite_true, ite_false, Nat.reduceLT, Nat.reduceLeDiff, Nat.reduceAdd, Nat.reduceEqDiff, eq_self, not_true_eq_false, not_false_eq_true, Nat.lt_irrefl, or_true, true_or, or_false, false_or, z_cell_lt, Value.category, h0, hp0, key]
theorem c_pop_no (hP : pastAt h p F S K ko 0) {v : Value} : zK (d + 1) 71 [.ref p, .ref b] (h, u) Q = Q (some (.int (-1)), (h, u)) := by
  obtain ⟨hp, hk, hko, h0, h1, h2, h3⟩ := id hP
  have hp0 : p < 1000 := by omega
  refine zK_of (k := 1) (by omega) ?_
  refine zK_in (M := MX5_pop) rfl (Nat.le_of_ble_eq_true rfl) ?_
  show zW 0 MX5_pop 0 ([.ref p, .ref b], [], (h, u)) _
  simp only [eX5_pop_0, eX5_pop_1, eX5_pop_4, eX5_pop_7, eX5_pop_8, eX5_pop_9, eX5_pop_10, eX5_pop_11, eX5_pop_14, eX5_pop_15, eX5_pop_16, eX5_pop_19, eX5_pop_20, eX5_pop_21, eX5_pop_24, eX5_pop_25, eX5_pop_28, eX5_pop_31, eX5_pop_32, eX5_pop_35, rX5_pop, zg_aload, zg_dup, zg_getfield, zg_iconst, zg_if, zg_ireturn, zg_isub, zg_iv2, zg_putfield, q10, q01, q00, ite_self, zLd_i, zLd_l, zLd_a, zInc_i, zGet_o, zGet2_s, zPut_o, zAld_i, zAll_j, zAst_i, zAsl_j, zLen_i, zLen_j, zRt_i, zRt_z, zRl2_l, zRv_n, List.getElem?_cons_zero, List.getElem?_cons_succ, List.length_cons, List.length_nil, z_set, z_set2, z_cut, List.set_cons_zero, List.set_cons_succ, Option.toList_some, Option.toList_none, List.cons_append, List.nil_append, zif, zW_ite, zfit_0, zfit_1, zfit_2, zfit_3, zisc_o, zRt_c, zRt_b, List.map_cons, List.map_nil, List.sum_cons, List.sum_nil, true_and, and_true, if_true, if_false, ite_true, ite_false, Nat.reduceLT, Nat.reduceLeDiff, Nat.reduceAdd, Nat.reduceEqDiff, eq_self, not_true_eq_false, not_false_eq_true, Nat.lt_irrefl, or_true, true_or, or_false, false_or, z_cell_lt, Value.category, h0, hp0, nI_0]
theorem c_pop (hP : pastAt h p F S K ko (k + 1)) (hT : toldAt h b n rm mt nt fm vr) (hd : p + 3 < b ∨ b + 3 < p) (hm' : ∀ i, mt' i < 128) (ht' : ∀ i, nt' i < 128) (hr' : ∀ i, rm' i ≤ 9) (om : ∀ i, 7 ≤ i → mt i = mt' i) (ot : ∀ i, 7 ≤ i → nt i = nt' i) (or_ : ∀ i, 7 ≤ i → rm i = rm' i) (f0 : F (3 * k) = lN (pk7 mt' 7)) (f1 : F (3 * k + 1) = lN (pk7 nt' 7)) (f2 : F (3 * k + 2) = lN (2 * pk7 rm' 7 + fm'.toNat)) : zK (d + 3) 71 [.ref p, .ref b] (h, u) Q = Q (some (.int (nI k)), (toldSet (pastSet h p F S K ko k) b n rm' mt' nt' fm' (vr + 1), u)) := by
  obtain ⟨hp, hk, hko, h0, h1, h2, h3⟩ := id hP
  have hp0 : p < 1000 := by omega
  obtain ⟨hb, g0, -⟩ := id hT
  have hb0 : b < 1000 := by omega
  have hP1 := pastSet_at (h := h) (F := F) (S := S) (K := K) hp (show k ≤ 15 by omega) hko
  have hT1 := toldAt_out (h' := pastSet h p F S K ko k) (fun j a1 a2 => pastSet_out (by omega)) hT
  have key : z_up h p (zO 5 [.ref (p + 1), .ref (p + 2), .ref (p + 3), .int (nI ko), .int (nI k)]) = pastSet h p F S K ko k := by
    apply pastSet_of
    · intro j hj; rw [z_up_n _ _ (by omega)]
    · rw [z_up_s]
    · rw [z_up_n _ _ (by omega)]; exact h1
    · rw [z_up_n _ _ (by omega)]; exact h2
    · rw [z_up_n _ _ (by omega)]; exact h3
  have s0 := hP1.2.2.2.1
  have s1 := hP1.2.2.2.2.1
  have t0 := hT1.2.1
  have ld := fun (d : Nat) (u : zU) (Q : zR → Prop) => c_load (d := d) (u := u) (Q := Q) hT1 (sl := k) s1 (by omega) (by decide) (show p + 1 < b ∨ b + 3 < p + 1 by omega) (by omega) hm' ht' hr' om ot or_ f0 f1 f2
  have q0 : (nI (k + 1) = 0) = False := by simp only [nI_ne0 (show 0 < k + 1 by omega) (show k + 1 < 2 ^ 31 by omega)]
  have z0' : toldSet (pastSet h p F S K ko k) b n rm' mt' nt' fm' (vr + 1) p = zO 5 [.ref (p + 1), .ref (p + 2), .ref (p + 3), .int (nI ko), .int (nI k)] := by rw [toldSet_out (by omega)]; exact s0
  refine zK_of (k := 3) (by omega) ?_
  refine zK_in (M := MX5_pop) rfl (Nat.le_of_ble_eq_true rfl) ?_
  show zW 2 MX5_pop 0 ([.ref p, .ref b], [], (h, u)) _
  simp only [eX5_pop_0, eX5_pop_1, eX5_pop_4, eX5_pop_7, eX5_pop_8, eX5_pop_9, eX5_pop_10, eX5_pop_11, eX5_pop_14, eX5_pop_15, eX5_pop_16, eX5_pop_19, eX5_pop_20, eX5_pop_21, eX5_pop_24, eX5_pop_25, eX5_pop_28, eX5_pop_31, eX5_pop_32, eX5_pop_35, rX5_pop, zg_aload, zg_dup, zg_getfield, zg_iconst, zg_if, zg_ireturn, zg_isub, zg_iv2, zg_putfield, q10, q01, q00, ite_self, zLd_i, zLd_l, zLd_a, zInc_i, zGet_o, zGet2_s, zPut_o, zAld_i, zAll_j, zAst_i, zAsl_j, zLen_i, zLen_j, zRt_i, zRt_z, zRl2_l, zRv_n, List.getElem?_cons_zero, List.getElem?_cons_succ, List.length_cons, List.length_nil, z_set, z_set2, z_cut, List.set_cons_zero, List.set_cons_succ, Option.toList_some, Option.toList_none, List.cons_append, List.nil_append, zif, zW_ite, zfit_0, zfit_1, zfit_2, zfit_3, zisc_o, zRt_c, zRt_b, List.map_cons, List.map_nil, List.sum_cons, List.sum_nil, true_and, and_true, if_true, if_false, ite_true, ite_false, Nat.reduceLT, Nat.reduceLeDiff, Nat.reduceAdd, Nat.reduceEqDiff, eq_self, not_true_eq_false, not_false_eq_true, Nat.lt_irrefl, or_true, true_or, or_false, false_or, z_cell_lt, Value.category, h0, hp0, hb0, q0, nI_pred, key, s0, t0, ld, z0']
theorem c_hold_no {i : Int32} (hi : i < 0 ∨ ¬ i < 3) : zK (d + 1) 75 [.ref p, .ref b, .int i] (h, u) Q = Q (some (.int 0), (h, u)) := by
  refine zK_of (k := 1) (by omega) ?_
  refine zK_in (M := MX5_hold) rfl (Nat.le_of_ble_eq_true rfl) ?_
  show zW 0 MX5_hold 0 ([.ref p, .ref b, .int i], [], (h, u)) _
  rcases hi with c | c
  · simp only [eX5_hold_0, eX5_hold_1, eX5_hold_4, eX5_hold_5, eX5_hold_6, eX5_hold_9, eX5_hold_10, eX5_hold_11, eX5_hold_12, eX5_hold_13, eX5_hold_16, eX5_hold_17, eX5_hold_20, eX5_hold_21, eX5_hold_22, eX5_hold_25, eX5_hold_26, eX5_hold_27, eX5_hold_28, eX5_hold_29, eX5_hold_32, eX5_hold_33, rX5_hold, zg_aload, zg_dup, zg_getfield, zg_icmp, zg_iconst, zg_if, zg_iload, zg_ior, zg_ireturn, zg_ishl, zg_iv2, zg_putfield, q10, q01, q00, ite_self, zLd_i, zLd_l, zLd_a, zInc_i, zGet_o, zGet2_s, zPut_o, zAld_i, zAll_j, zAst_i, zAsl_j, zLen_i, zLen_j, zRt_i, zRt_z, zRl2_l, zRv_n, List.getElem?_cons_zero, List.getElem?_cons_succ, List.length_cons, List.length_nil, z_set, z_set2, z_cut, List.set_cons_zero, List.set_cons_succ, Option.toList_some, Option.toList_none, List.cons_append, List.nil_append, zif, zW_ite, zfit_0, zfit_1, zfit_2, zfit_3, zisc_o, zRt_c, zRt_b, List.map_cons, List.map_nil, List.sum_cons, List.sum_nil, true_and, and_true, if_true, if_false, ite_true, ite_false, Nat.reduceLT, Nat.reduceLeDiff, Nat.reduceAdd, Nat.reduceEqDiff, eq_self, not_true_eq_false, not_false_eq_true, Nat.lt_irrefl, or_true, true_or, or_false, false_or, z_cell_lt, Value.category, c]
  · simp only [eX5_hold_0, eX5_hold_1, eX5_hold_4, eX5_hold_5, eX5_hold_6, eX5_hold_9, eX5_hold_10, eX5_hold_11, eX5_hold_12, eX5_hold_13, eX5_hold_16, eX5_hold_17, eX5_hold_20, eX5_hold_21, eX5_hold_22, eX5_hold_25, eX5_hold_26, eX5_hold_27, eX5_hold_28, eX5_hold_29, eX5_hold_32, eX5_hold_33, rX5_hold, zg_aload, zg_dup, zg_getfield, zg_icmp, zg_iconst, zg_if, zg_iload, zg_ior, zg_ireturn, zg_ishl, zg_iv2, zg_putfield, q10, q01, q00, ite_self, zLd_i, zLd_l, zLd_a, zInc_i, zGet_o, zGet2_s, zPut_o, zAld_i, zAll_j, zAst_i, zAsl_j, zLen_i, zLen_j, zRt_i, zRt_z, zRl2_l, zRv_n, List.getElem?_cons_zero, List.getElem?_cons_succ, List.length_cons, List.length_nil, z_set, z_set2, z_cut, List.set_cons_zero, List.set_cons_succ, Option.toList_some, Option.toList_none, List.cons_append, List.nil_append, zif, zW_ite, zfit_0, zfit_1, zfit_2, zfit_3, zisc_o, zRt_c, zRt_b, List.map_cons, List.map_nil, List.sum_cons, List.sum_nil, true_and, and_true, if_true, if_false, ite_true, ite_false, Nat.reduceLT, Nat.reduceLeDiff, Nat.reduceAdd, Nat.reduceEqDiff, eq_self, not_true_eq_false, not_false_eq_true, Nat.lt_irrefl, or_true, true_or, or_false, false_or, z_cell_lt, Value.category, c]
theorem c_hold (hP : pastAt h p F S K ko k) (hT : toldAt h b n rm mt nt fm vr) (hd : p + 3 < b ∨ b + 3 < p) {i : Nat} (hi : i < 3) : zK (d + 3) 75 [.ref p, .ref b, .int (nI i)] (h, u) Q = Q (some (.int 1), (pastSet h p F S (sv3 K i (pk7 mt 7) (pk7 nt 7) (2 * pk7 rm 7 + fm.toNat)) (ko ||| 2 ^ i) k, u)) := by
  obtain ⟨hp, hk, hko, h0, h1, h2, h3⟩ := id hP
  obtain ⟨hb, g0, -⟩ := id hT
  have hp0 : p < 1000 := by omega
  have hb0 : b < 1000 := by omega
  have c1 : ¬ nI i < 0 := nI_pos (by omega)
  have c2 : nI i < 3 := nI_lt (b := 3) hi (by decide)
  have sv := fun (d : Nat) (u : zU) (Q : zR → Prop) => c_save (d := d) (u := u) (Q := Q) hT (sl := i) h3 (by omega) (by decide) (show p + 3 < b ∨ b + 3 < p + 3 by omega) (by omega)
  have n0 : ∀ e, z_up h (p + 3) e p = h p := fun e => z_up_n h e (by omega)
  have key : ∀ G x, z_up (z_up h (p + 3) (zJ 9 G)) p (zO 5 [.ref (p + 1), .ref (p + 2), .ref (p + 3), .int (nI x), .int (nI k)]) = pastSet h p F S G x k := by
    intro G x
    apply pastSet_of
    · intro j hj; rw [z_up_n _ _ (by omega), z_up_n _ _ (by omega)]
    · rw [z_up_s]
    · rw [z_up_n _ _ (by omega), z_up_n _ _ (by omega)]; exact h1
    · rw [z_up_n _ _ (by omega), z_up_n _ _ (by omega)]; exact h2
    · rw [z_up_n _ _ (by omega), z_up_s]
  refine zK_of (k := 3) (by omega) ?_
  refine zK_in (M := MX5_hold) rfl (Nat.le_of_ble_eq_true rfl) ?_
  show zW 2 MX5_hold 0 ([.ref p, .ref b, .int (nI i)], [], (h, u)) _
  simp only [eX5_hold_0, eX5_hold_1, eX5_hold_4, eX5_hold_5, eX5_hold_6, eX5_hold_9, eX5_hold_10, eX5_hold_11, eX5_hold_12, eX5_hold_13, eX5_hold_16, eX5_hold_17, eX5_hold_20, eX5_hold_21, eX5_hold_22, eX5_hold_25, eX5_hold_26, eX5_hold_27, eX5_hold_28, eX5_hold_29, eX5_hold_32, eX5_hold_33, rX5_hold, zg_aload, zg_dup, zg_getfield, zg_icmp, zg_iconst, zg_if, zg_iload, zg_ior, zg_ireturn, zg_ishl, zg_iv2, zg_putfield, q10, q01, q00, ite_self, zLd_i, zLd_l, zLd_a, zInc_i, zGet_o, zGet2_s, zPut_o, zAld_i, zAll_j, zAst_i, zAsl_j, zLen_i, zLen_j, zRt_i, zRt_z, zRl2_l, zRv_n, List.getElem?_cons_zero, List.getElem?_cons_succ, List.length_cons, List.length_nil, z_set, z_set2, z_cut, List.set_cons_zero, List.set_cons_succ, Option.toList_some, Option.toList_none, List.cons_append, List.nil_append, zif, zW_ite, zfit_0, zfit_1, zfit_2, zfit_3, zisc_o, zRt_c, zRt_b, List.map_cons, List.map_nil, List.sum_cons, List.sum_nil, true_and, and_true, if_true, if_false, ite_true, ite_false, Nat.reduceLT, Nat.reduceLeDiff, Nat.reduceAdd, Nat.reduceEqDiff, eq_self, not_true_eq_false, not_false_eq_true, Nat.lt_irrefl, or_true, true_or, or_false, false_or, z_cell_lt, Value.category, h0, g0, hp0, hb0, c1, c2, sv, n0, q_shl _ (show i < 31 by omega), q_or, key]
theorem c_bring_no (hP : pastAt h p F S K ko k) {i : Int32} (hi : i < 0 ∨ ¬ i < 3 ∨ ∃ j : Nat, i = nI j ∧ j < 3 ∧ ko.testBit j = false) : zK (d + 1) 76 [.ref p, .ref b, .int i] (h, u) Q = Q (some (.int 0), (h, u)) := by
  obtain ⟨hp, hk, hko, h0, h1, h2, h3⟩ := id hP
  have hp0 : p < 1000 := by omega
  refine zK_of (k := 1) (by omega) ?_
  refine zK_in (M := MX5_bringBack) rfl (Nat.le_of_ble_eq_true rfl) ?_
  show zW 0 MX5_bringBack 0 ([.ref p, .ref b, .int i], [], (h, u)) _
  rcases hi with c | c | ⟨j, rfl, hj, c⟩
  · simp only [eX5_bringBack_0, eX5_bringBack_1, eX5_bringBack_4, eX5_bringBack_5, eX5_bringBack_6, eX5_bringBack_9, eX5_bringBack_10, eX5_bringBack_13, eX5_bringBack_14, eX5_bringBack_15, eX5_bringBack_16, eX5_bringBack_17, eX5_bringBack_20, eX5_bringBack_21, eX5_bringBack_22, eX5_bringBack_23, eX5_bringBack_24, eX5_bringBack_27, eX5_bringBack_28, eX5_bringBack_31, eX5_bringBack_32, eX5_bringBack_35, eX5_bringBack_36, rX5_bringBack, zg_aload, zg_getfield, zg_iand, zg_icmp, zg_iconst, zg_if, zg_iload, zg_ireturn, zg_ishr, zg_iv0, zg_iv2, q10, q01, q00, ite_self, zLd_i, zLd_l, zLd_a, zInc_i, zGet_o, zGet2_s, zPut_o, zAld_i, zAll_j, zAst_i, zAsl_j, zLen_i, zLen_j, zRt_i, zRt_z, zRl2_l, zRv_n, List.getElem?_cons_zero, List.getElem?_cons_succ, List.length_cons, List.length_nil, z_set, z_set2, z_cut, List.set_cons_zero, List.set_cons_succ, Option.toList_some, Option.toList_none, List.cons_append, List.nil_append, zif, zW_ite, zfit_0, zfit_1, zfit_2, zfit_3, zisc_o, zRt_c, zRt_b, List.map_cons, List.map_nil, List.sum_cons, List.sum_nil, true_and, and_true, if_true, if_false, ite_true, ite_false, Nat.reduceLT, Nat.reduceLeDiff, Nat.reduceAdd, Nat.reduceEqDiff, eq_self, not_true_eq_false, not_false_eq_true, Nat.lt_irrefl, or_true, true_or, or_false, false_or, z_cell_lt, Value.category, h0, hp0, c]
  · simp only [eX5_bringBack_0, eX5_bringBack_1, eX5_bringBack_4, eX5_bringBack_5, eX5_bringBack_6, eX5_bringBack_9, eX5_bringBack_10, eX5_bringBack_13, eX5_bringBack_14, eX5_bringBack_15, eX5_bringBack_16, eX5_bringBack_17, eX5_bringBack_20, eX5_bringBack_21, eX5_bringBack_22, eX5_bringBack_23, eX5_bringBack_24, eX5_bringBack_27, eX5_bringBack_28, eX5_bringBack_31, eX5_bringBack_32, eX5_bringBack_35, eX5_bringBack_36, rX5_bringBack, zg_aload, zg_getfield, zg_iand, zg_icmp, zg_iconst, zg_if, zg_iload, zg_ireturn, zg_ishr, zg_iv0, zg_iv2, q10, q01, q00, ite_self, zLd_i, zLd_l, zLd_a, zInc_i, zGet_o, zGet2_s, zPut_o, zAld_i, zAll_j, zAst_i, zAsl_j, zLen_i, zLen_j, zRt_i, zRt_z, zRl2_l, zRv_n, List.getElem?_cons_zero, List.getElem?_cons_succ, List.length_cons, List.length_nil, z_set, z_set2, z_cut, List.set_cons_zero, List.set_cons_succ, Option.toList_some, Option.toList_none, List.cons_append, List.nil_append, zif, zW_ite, zfit_0, zfit_1, zfit_2, zfit_3, zisc_o, zRt_c, zRt_b, List.map_cons, List.map_nil, List.sum_cons, List.sum_nil, true_and, and_true, if_true, if_false, ite_true, ite_false, Nat.reduceLT, Nat.reduceLeDiff, Nat.reduceAdd, Nat.reduceEqDiff, eq_self, not_true_eq_false, not_false_eq_true, Nat.lt_irrefl, or_true, true_or, or_false, false_or, z_cell_lt, Value.category, h0, hp0, c]
  · have c2 : nI j < 3 := nI_lt (b := 3) hj (by decide)
    have c1 : ¬ nI j < 0 := nI_pos (by omega)
    simp only [eX5_bringBack_0, eX5_bringBack_1, eX5_bringBack_4, eX5_bringBack_5, eX5_bringBack_6, eX5_bringBack_9, eX5_bringBack_10, eX5_bringBack_13, eX5_bringBack_14, eX5_bringBack_15, eX5_bringBack_16, eX5_bringBack_17, eX5_bringBack_20, eX5_bringBack_21, eX5_bringBack_22, eX5_bringBack_23, eX5_bringBack_24, eX5_bringBack_27, eX5_bringBack_28, eX5_bringBack_31, eX5_bringBack_32, eX5_bringBack_35, eX5_bringBack_36, rX5_bringBack, zg_aload, zg_getfield, zg_iand, zg_icmp, zg_iconst, zg_if, zg_iload, zg_ireturn, zg_ishr, zg_iv0, zg_iv2, q10, q01, q00, ite_self, zLd_i, zLd_l, zLd_a, zInc_i, zGet_o, zGet2_s, zPut_o, zAld_i, zAll_j, zAst_i, zAsl_j, zLen_i, zLen_j, zRt_i, zRt_z, zRl2_l, zRv_n, List.getElem?_cons_zero, List.getElem?_cons_succ, List.length_cons, List.length_nil, z_set, z_set2, z_cut, List.set_cons_zero, List.set_cons_succ, Option.toList_some, Option.toList_none, List.cons_append, List.nil_append, zif, zW_ite, zfit_0, zfit_1, zfit_2, zfit_3, zisc_o, zRt_c, zRt_b, List.map_cons, List.map_nil, List.sum_cons, List.sum_nil, true_and, and_true, if_true, if_false, ite_true, ite_false, Nat.reduceLT, Nat.reduceLeDiff, Nat.reduceAdd, Nat.reduceEqDiff, eq_self, not_true_eq_false, not_false_eq_true, Nat.lt_irrefl, or_true, true_or, or_false, false_or, z_cell_lt, Value.category, h0, hp0, c1, c2, q_bit _ (show ko < 128 by omega) _ (show j < 8 by omega), c, Bool.false_eq_true]
theorem c_bring (hP : pastAt h p F S K ko k) (hT : toldAt h b n rm mt nt fm vr) (hd : p + 3 < b ∨ b + 3 < p) {i : Nat} (hi : i < 3) (hki : ko.testBit i = true) (hm' : ∀ i, mt' i < 128) (ht' : ∀ i, nt' i < 128) (hr' : ∀ i, rm' i ≤ 9) (om : ∀ i, 7 ≤ i → mt i = mt' i) (ot : ∀ i, 7 ≤ i → nt i = nt' i) (or_ : ∀ i, 7 ≤ i → rm i = rm' i) (f0 : K (3 * i) = lN (pk7 mt' 7)) (f1 : K (3 * i + 1) = lN (pk7 nt' 7)) (f2 : K (3 * i + 2) = lN (2 * pk7 rm' 7 + fm'.toNat)) : zK (d + 3) 76 [.ref p, .ref b, .int (nI i)] (h, u) Q = Q (some (.int 1), (pastSet (toldSet h b n rm' mt' nt' fm' (vr + 1)) p F S K ko 0, u)) := by
  obtain ⟨hp, hk, hko, h0, h1, h2, h3⟩ := id hP
  obtain ⟨hb, g0, -⟩ := id hT
  have hp0 : p < 1000 := by omega
  have hb0 : b < 1000 := by omega
  have c2 : nI i < 3 := nI_lt (b := 3) hi (by decide)
  have c1 : ¬ nI i < 0 := nI_pos (by omega)
  have hP1 := pastAt_out (h' := toldSet h b n rm' mt' nt' fm' (vr + 1)) (fun j a1 a2 => toldSet_out (by omega)) hP
  have ld := fun (d : Nat) (u : zU) (Q : zR → Prop) => c_load (d := d) (u := u) (Q := Q) hT (sl := i) h3 (by omega) (by decide) (show p + 3 < b ∨ b + 3 < p + 3 by omega) (by omega) hm' ht' hr' om ot or_ f0 f1 f2
  have s0 := hP1.2.2.2.1
  refine zK_of (k := 3) (by omega) ?_
  refine zK_in (M := MX5_bringBack) rfl (Nat.le_of_ble_eq_true rfl) ?_
  show zW 2 MX5_bringBack 0 ([.ref p, .ref b, .int (nI i)], [], (h, u)) _
  simp only [eX5_bringBack_0, eX5_bringBack_1, eX5_bringBack_4, eX5_bringBack_5, eX5_bringBack_6, eX5_bringBack_9, eX5_bringBack_10, eX5_bringBack_13, eX5_bringBack_14, eX5_bringBack_15, eX5_bringBack_16, eX5_bringBack_17, eX5_bringBack_20, eX5_bringBack_21, eX5_bringBack_22, eX5_bringBack_23, eX5_bringBack_24, eX5_bringBack_27, eX5_bringBack_28, eX5_bringBack_31, eX5_bringBack_32, eX5_bringBack_35, eX5_bringBack_36, rX5_bringBack, zg_aload, zg_getfield, zg_iand, zg_icmp, zg_iconst, zg_if, zg_iload, zg_ireturn, zg_ishr, zg_iv0, zg_iv2, q10, q01, q00, ite_self, zLd_i, zLd_l, zLd_a, zInc_i, zGet_o, zGet2_s, zPut_o, zAld_i, zAll_j, zAst_i, zAsl_j, zLen_i, zLen_j, zRt_i, zRt_z, zRl2_l, zRv_n, List.getElem?_cons_zero, List.getElem?_cons_succ, List.length_cons, List.length_nil, z_set, z_set2, z_cut, List.set_cons_zero, List.set_cons_succ, Option.toList_some, Option.toList_none, List.cons_append, List.nil_append, zif, zW_ite, zfit_0, zfit_1, zfit_2, zfit_3, zisc_o, zRt_c, zRt_b, List.map_cons, List.map_nil, List.sum_cons, List.sum_nil, true_and, and_true, if_true, if_false, ite_true, ite_false, Nat.reduceLT, Nat.reduceLeDiff, Nat.reduceAdd, Nat.reduceEqDiff, eq_self, not_true_eq_false, not_false_eq_true, Nat.lt_irrefl, or_true, true_or, or_false, false_or, z_cell_lt, Value.category, h0, g0, hp0, hb0, c1, c2, q_bit _ (show ko < 128 by omega) _ (show i < 8 by omega), hki, ld, s0, c_fsteps hP1]
end PAST

