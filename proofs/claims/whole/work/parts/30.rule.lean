/-! A RULE: its codes and what they come to -/
theorem eX7_emit_0 {d : Nat} {S : zS} {Q : zR → Prop} : zW d MX7_emit 0 S Q = zGo d MX7_emit (.aload 0) z0 1 S Q := zW_step (I := .aload_n 0) rfl S Q
theorem eX7_emit_1 {d : Nat} {S : zS} {Q : zR → Prop} : zW d MX7_emit 1 S Q = zGo d MX7_emit (.getfield 21) (zf 0 7 3) 4 S Q := zW_step (I := .getfield 21) rfl S Q
theorem eX7_emit_4 {d : Nat} {S : zS} {Q : zR → Prop} : zW d MX7_emit 4 S Q = zGo d MX7_emit (.aload 0) z0 5 S Q := zW_step (I := .aload_n 0) rfl S Q
theorem eX7_emit_5 {d : Nat} {S : zS} {Q : zR → Prop} : zW d MX7_emit 5 S Q = zGo d MX7_emit (.getfield 11) (zf 3 7 0) 8 S Q := zW_step (I := .getfield 11) rfl S Q
theorem eX7_emit_8 {d : Nat} {S : zS} {Q : zR → Prop} : zW d MX7_emit 8 S Q = zGo d MX7_emit (.arraylength) z0 9 S Q := zW_step (I := .arraylength) rfl S Q
theorem eX7_emit_9 {d : Nat} {S : zS} {Q : zR → Prop} : zW d MX7_emit 9 S Q = zGo d MX7_emit (.if_icmp .ge 23) (zt 32) 12 S Q := zW_step (I := .if_icmp .ge 23) rfl S Q
theorem eX7_emit_12 {d : Nat} {S : zS} {Q : zR → Prop} : zW d MX7_emit 12 S Q = zGo d MX7_emit (.aload 0) z0 13 S Q := zW_step (I := .aload_n 0) rfl S Q
theorem eX7_emit_13 {d : Nat} {S : zS} {Q : zR → Prop} : zW d MX7_emit 13 S Q = zGo d MX7_emit (.getfield 11) (zf 3 7 0) 16 S Q := zW_step (I := .getfield 11) rfl S Q
theorem eX7_emit_16 {d : Nat} {S : zS} {Q : zR → Prop} : zW d MX7_emit 16 S Q = zGo d MX7_emit (.aload 0) z0 17 S Q := zW_step (I := .aload_n 0) rfl S Q
theorem eX7_emit_17 {d : Nat} {S : zS} {Q : zR → Prop} : zW d MX7_emit 17 S Q = zGo d MX7_emit (.getfield 21) (zf 0 7 3) 20 S Q := zW_step (I := .getfield 21) rfl S Q
theorem eX7_emit_20 {d : Nat} {S : zS} {Q : zR → Prop} : zW d MX7_emit 20 S Q = zGo d MX7_emit (.iload 1) z0 21 S Q := zW_step (I := .iload_n 1) rfl S Q
theorem eX7_emit_21 {d : Nat} {S : zS} {Q : zR → Prop} : zW d MX7_emit 21 S Q = zGo d MX7_emit (.iastore) z0 22 S Q := zW_step (I := .iastore) rfl S Q
theorem eX7_emit_22 {d : Nat} {S : zS} {Q : zR → Prop} : zW d MX7_emit 22 S Q = zGo d MX7_emit (.aload 0) z0 23 S Q := zW_step (I := .aload_n 0) rfl S Q
theorem eX7_emit_23 {d : Nat} {S : zS} {Q : zR → Prop} : zW d MX7_emit 23 S Q = zGo d MX7_emit (.dup) z0 24 S Q := zW_step (I := .dup) rfl S Q
theorem eX7_emit_24 {d : Nat} {S : zS} {Q : zR → Prop} : zW d MX7_emit 24 S Q = zGo d MX7_emit (.getfield 21) (zf 0 7 3) 27 S Q := zW_step (I := .getfield 21) rfl S Q
theorem eX7_emit_27 {d : Nat} {S : zS} {Q : zR → Prop} : zW d MX7_emit 27 S Q = zGo d MX7_emit (.iconst 1) (zv (.int 1)) 28 S Q := zW_step (I := .iconst 1) rfl S Q
theorem eX7_emit_28 {d : Nat} {S : zS} {Q : zR → Prop} : zW d MX7_emit 28 S Q = zGo d MX7_emit (.iadd) z0 29 S Q := zW_step (I := .iadd) rfl S Q
theorem eX7_emit_29 {d : Nat} {S : zS} {Q : zR → Prop} : zW d MX7_emit 29 S Q = zGo d MX7_emit (.putfield 21) (zf 0 7 3) 32 S Q := zW_step (I := .putfield 21) rfl S Q
theorem eX7_emit_32 {d : Nat} {S : zS} {Q : zR → Prop} : zW d MX7_emit 32 S Q = zGo d MX7_emit (.return_) z0 33 S Q := zW_step (I := .return_) rfl S Q
theorem rX7_emit : MX7_emit.2.2.2.2.1 = none := rfl
theorem eX7_here_0 {d : Nat} {S : zS} {Q : zR → Prop} : zW d MX7_here 0 S Q = zGo d MX7_here (.aload 0) z0 1 S Q := zW_step (I := .aload_n 0) rfl S Q
theorem eX7_here_1 {d : Nat} {S : zS} {Q : zR → Prop} : zW d MX7_here 1 S Q = zGo d MX7_here (.getfield 46) (zf 0 7 5) 4 S Q := zW_step (I := .getfield 46) rfl S Q
theorem eX7_here_4 {d : Nat} {S : zS} {Q : zR → Prop} : zW d MX7_here 4 S Q = zGo d MX7_here (.aload 0) z0 5 S Q := zW_step (I := .aload_n 0) rfl S Q
theorem eX7_here_5 {d : Nat} {S : zS} {Q : zR → Prop} : zW d MX7_here 5 S Q = zGo d MX7_here (.getfield 36) (zf 0 7 4) 8 S Q := zW_step (I := .getfield 36) rfl S Q
theorem eX7_here_8 {d : Nat} {S : zS} {Q : zR → Prop} : zW d MX7_here 8 S Q = zGo d MX7_here (.if_icmp .ge 15) (zt 23) 11 S Q := zW_step (I := .if_icmp .ge 15) rfl S Q
theorem eX7_here_11 {d : Nat} {S : zS} {Q : zR → Prop} : zW d MX7_here 11 S Q = zGo d MX7_here (.aload 0) z0 12 S Q := zW_step (I := .aload_n 0) rfl S Q
theorem eX7_here_12 {d : Nat} {S : zS} {Q : zR → Prop} : zW d MX7_here 12 S Q = zGo d MX7_here (.getfield 18) (zf 3 7 2) 15 S Q := zW_step (I := .getfield 18) rfl S Q
theorem eX7_here_15 {d : Nat} {S : zS} {Q : zR → Prop} : zW d MX7_here 15 S Q = zGo d MX7_here (.aload 0) z0 16 S Q := zW_step (I := .aload_n 0) rfl S Q
theorem eX7_here_16 {d : Nat} {S : zS} {Q : zR → Prop} : zW d MX7_here 16 S Q = zGo d MX7_here (.getfield 46) (zf 0 7 5) 19 S Q := zW_step (I := .getfield 46) rfl S Q
theorem eX7_here_19 {d : Nat} {S : zS} {Q : zR → Prop} : zW d MX7_here 19 S Q = zGo d MX7_here (.iaload) z0 20 S Q := zW_step (I := .iaload) rfl S Q
theorem eX7_here_20 {d : Nat} {S : zS} {Q : zR → Prop} : zW d MX7_here 20 S Q = zGo d MX7_here (.goto 4) (zt 24) 23 S Q := zW_step (I := .goto 4) rfl S Q
theorem eX7_here_23 {d : Nat} {S : zS} {Q : zR → Prop} : zW d MX7_here 23 S Q = zGo d MX7_here (.iconst (-1)) (zv (.int (-1))) 24 S Q := zW_step (I := .iconst (-1)) rfl S Q
theorem eX7_here_24 {d : Nat} {S : zS} {Q : zR → Prop} : zW d MX7_here 24 S Q = zGo d MX7_here (.ireturn) z0 25 S Q := zW_step (I := .ireturn) rfl S Q
theorem rX7_here : MX7_here.2.2.2.2.1 = some .int := rfl
theorem eX7_levelOf_0 {d : Nat} {S : zS} {Q : zR → Prop} : zW d MX7_levelOf 0 S Q = zGo d MX7_levelOf (.iload 0) z0 1 S Q := zW_step (I := .iload_n 0) rfl S Q
theorem eX7_levelOf_1 {d : Nat} {S : zS} {Q : zR → Prop} : zW d MX7_levelOf 1 S Q = zGo d MX7_levelOf (.tableswitch 105 42 62 #[103, 101, 105, 101, 105, 103, 105, 105, 105, 105, 105, 105, 105, 105, 105, 105, 105, 105, 99, 99, 99]) (106, 0, 0, .null, [(42, 104), (43, 102), (44, 106), (45, 102), (46, 106), (47, 104), (48, 106), (49, 106), (50, 106), (51, 106), (52, 106), (53, 106), (54, 106), (55, 106), (56, 106), (57, 106), (58, 106), (59, 106), (60, 100), (61, 100), (62, 100)]) 100 S Q := zW_step (I := .tableswitch 105 42 62 #[103, 101, 105, 101, 105, 103, 105, 105, 105, 105, 105, 105, 105, 105, 105, 105, 105, 105, 99, 99, 99]) rfl S Q
theorem eX7_levelOf_100 {d : Nat} {S : zS} {Q : zR → Prop} : zW d MX7_levelOf 100 S Q = zGo d MX7_levelOf (.iconst 0) (zv (.int 0)) 101 S Q := zW_step (I := .iconst 0) rfl S Q
theorem eX7_levelOf_101 {d : Nat} {S : zS} {Q : zR → Prop} : zW d MX7_levelOf 101 S Q = zGo d MX7_levelOf (.ireturn) z0 102 S Q := zW_step (I := .ireturn) rfl S Q
theorem eX7_levelOf_102 {d : Nat} {S : zS} {Q : zR → Prop} : zW d MX7_levelOf 102 S Q = zGo d MX7_levelOf (.iconst 1) (zv (.int 1)) 103 S Q := zW_step (I := .iconst 1) rfl S Q
theorem eX7_levelOf_103 {d : Nat} {S : zS} {Q : zR → Prop} : zW d MX7_levelOf 103 S Q = zGo d MX7_levelOf (.ireturn) z0 104 S Q := zW_step (I := .ireturn) rfl S Q
theorem eX7_levelOf_104 {d : Nat} {S : zS} {Q : zR → Prop} : zW d MX7_levelOf 104 S Q = zGo d MX7_levelOf (.iconst 2) (zv (.int 2)) 105 S Q := zW_step (I := .iconst 2) rfl S Q
theorem eX7_levelOf_105 {d : Nat} {S : zS} {Q : zR → Prop} : zW d MX7_levelOf 105 S Q = zGo d MX7_levelOf (.ireturn) z0 106 S Q := zW_step (I := .ireturn) rfl S Q
theorem eX7_levelOf_106 {d : Nat} {S : zS} {Q : zR → Prop} : zW d MX7_levelOf 106 S Q = zGo d MX7_levelOf (.iconst (-1)) (zv (.int (-1))) 107 S Q := zW_step (I := .iconst (-1)) rfl S Q
theorem eX7_levelOf_107 {d : Nat} {S : zS} {Q : zR → Prop} : zW d MX7_levelOf 107 S Q = zGo d MX7_levelOf (.ireturn) z0 108 S Q := zW_step (I := .ireturn) rfl S Q
theorem rX7_levelOf : MX7_levelOf.2.2.2.2.1 = some .int := rfl
theorem eX7_readNumber_0 {d : Nat} {S : zS} {Q : zR → Prop} : zW d MX7_readNumber 0 S Q = zGo d MX7_readNumber (.iconst 0) (zv (.int 0)) 1 S Q := zW_step (I := .iconst 0) rfl S Q
theorem eX7_readNumber_1 {d : Nat} {S : zS} {Q : zR → Prop} : zW d MX7_readNumber 1 S Q = zGo d MX7_readNumber (.istore 1) z0 2 S Q := zW_step (I := .istore_n 1) rfl S Q
theorem eX7_readNumber_2 {d : Nat} {S : zS} {Q : zR → Prop} : zW d MX7_readNumber 2 S Q = zGo d MX7_readNumber (.iconst 0) (zv (.int 0)) 3 S Q := zW_step (I := .iconst 0) rfl S Q
theorem eX7_readNumber_3 {d : Nat} {S : zS} {Q : zR → Prop} : zW d MX7_readNumber 3 S Q = zGo d MX7_readNumber (.istore 2) z0 4 S Q := zW_step (I := .istore_n 2) rfl S Q
theorem eX7_readNumber_4 {d : Nat} {S : zS} {Q : zR → Prop} : zW d MX7_readNumber 4 S Q = zGo d MX7_readNumber (.iload 2) z0 5 S Q := zW_step (I := .iload_n 2) rfl S Q
theorem eX7_readNumber_5 {d : Nat} {S : zS} {Q : zR → Prop} : zW d MX7_readNumber 5 S Q = zGo d MX7_readNumber (.iconst 3) (zv (.int 3)) 6 S Q := zW_step (I := .iconst 3) rfl S Q
theorem eX7_readNumber_6 {d : Nat} {S : zS} {Q : zR → Prop} : zW d MX7_readNumber 6 S Q = zGo d MX7_readNumber (.if_icmp .ge 50) (zt 56) 9 S Q := zW_step (I := .if_icmp .ge 50) rfl S Q
theorem eX7_readNumber_9 {d : Nat} {S : zS} {Q : zR → Prop} : zW d MX7_readNumber 9 S Q = zGo d MX7_readNumber (.aload 0) z0 10 S Q := zW_step (I := .aload_n 0) rfl S Q
theorem eX7_readNumber_10 {d : Nat} {S : zS} {Q : zR → Prop} : zW d MX7_readNumber 10 S Q = zGo d MX7_readNumber (.invokevirtual 59) (zc 85 1 7) 13 S Q := zW_step (I := .invokevirtual 59) rfl S Q
theorem eX7_readNumber_13 {d : Nat} {S : zS} {Q : zR → Prop} : zW d MX7_readNumber 13 S Q = zGo d MX7_readNumber (.bipush 48) (zv (.int 48)) 15 S Q := zW_step (I := .bipush 48) rfl S Q
theorem eX7_readNumber_15 {d : Nat} {S : zS} {Q : zR → Prop} : zW d MX7_readNumber 15 S Q = zGo d MX7_readNumber (.if_icmp .lt 41) (zt 56) 18 S Q := zW_step (I := .if_icmp .lt 41) rfl S Q
theorem eX7_readNumber_18 {d : Nat} {S : zS} {Q : zR → Prop} : zW d MX7_readNumber 18 S Q = zGo d MX7_readNumber (.aload 0) z0 19 S Q := zW_step (I := .aload_n 0) rfl S Q
theorem eX7_readNumber_19 {d : Nat} {S : zS} {Q : zR → Prop} : zW d MX7_readNumber 19 S Q = zGo d MX7_readNumber (.invokevirtual 59) (zc 85 1 7) 22 S Q := zW_step (I := .invokevirtual 59) rfl S Q
theorem eX7_readNumber_22 {d : Nat} {S : zS} {Q : zR → Prop} : zW d MX7_readNumber 22 S Q = zGo d MX7_readNumber (.bipush 57) (zv (.int 57)) 24 S Q := zW_step (I := .bipush 57) rfl S Q
theorem eX7_readNumber_24 {d : Nat} {S : zS} {Q : zR → Prop} : zW d MX7_readNumber 24 S Q = zGo d MX7_readNumber (.if_icmp .gt 32) (zt 56) 27 S Q := zW_step (I := .if_icmp .gt 32) rfl S Q
theorem eX7_readNumber_27 {d : Nat} {S : zS} {Q : zR → Prop} : zW d MX7_readNumber 27 S Q = zGo d MX7_readNumber (.bipush 10) (zv (.int 10)) 29 S Q := zW_step (I := .bipush 10) rfl S Q
theorem eX7_readNumber_29 {d : Nat} {S : zS} {Q : zR → Prop} : zW d MX7_readNumber 29 S Q = zGo d MX7_readNumber (.iload 1) z0 30 S Q := zW_step (I := .iload_n 1) rfl S Q
theorem eX7_readNumber_30 {d : Nat} {S : zS} {Q : zR → Prop} : zW d MX7_readNumber 30 S Q = zGo d MX7_readNumber (.imul) z0 31 S Q := zW_step (I := .imul) rfl S Q
theorem eX7_readNumber_31 {d : Nat} {S : zS} {Q : zR → Prop} : zW d MX7_readNumber 31 S Q = zGo d MX7_readNumber (.aload 0) z0 32 S Q := zW_step (I := .aload_n 0) rfl S Q
theorem eX7_readNumber_32 {d : Nat} {S : zS} {Q : zR → Prop} : zW d MX7_readNumber 32 S Q = zGo d MX7_readNumber (.invokevirtual 59) (zc 85 1 7) 35 S Q := zW_step (I := .invokevirtual 59) rfl S Q
theorem eX7_readNumber_35 {d : Nat} {S : zS} {Q : zR → Prop} : zW d MX7_readNumber 35 S Q = zGo d MX7_readNumber (.iadd) z0 36 S Q := zW_step (I := .iadd) rfl S Q
theorem eX7_readNumber_36 {d : Nat} {S : zS} {Q : zR → Prop} : zW d MX7_readNumber 36 S Q = zGo d MX7_readNumber (.bipush 48) (zv (.int 48)) 38 S Q := zW_step (I := .bipush 48) rfl S Q
theorem eX7_readNumber_38 {d : Nat} {S : zS} {Q : zR → Prop} : zW d MX7_readNumber 38 S Q = zGo d MX7_readNumber (.isub) z0 39 S Q := zW_step (I := .isub) rfl S Q
theorem eX7_readNumber_39 {d : Nat} {S : zS} {Q : zR → Prop} : zW d MX7_readNumber 39 S Q = zGo d MX7_readNumber (.istore 1) z0 40 S Q := zW_step (I := .istore_n 1) rfl S Q
theorem eX7_readNumber_40 {d : Nat} {S : zS} {Q : zR → Prop} : zW d MX7_readNumber 40 S Q = zGo d MX7_readNumber (.aload 0) z0 41 S Q := zW_step (I := .aload_n 0) rfl S Q
theorem eX7_readNumber_41 {d : Nat} {S : zS} {Q : zR → Prop} : zW d MX7_readNumber 41 S Q = zGo d MX7_readNumber (.dup) z0 42 S Q := zW_step (I := .dup) rfl S Q
theorem eX7_readNumber_42 {d : Nat} {S : zS} {Q : zR → Prop} : zW d MX7_readNumber 42 S Q = zGo d MX7_readNumber (.getfield 46) (zf 0 7 5) 45 S Q := zW_step (I := .getfield 46) rfl S Q
theorem eX7_readNumber_45 {d : Nat} {S : zS} {Q : zR → Prop} : zW d MX7_readNumber 45 S Q = zGo d MX7_readNumber (.iconst 1) (zv (.int 1)) 46 S Q := zW_step (I := .iconst 1) rfl S Q
theorem eX7_readNumber_46 {d : Nat} {S : zS} {Q : zR → Prop} : zW d MX7_readNumber 46 S Q = zGo d MX7_readNumber (.iadd) z0 47 S Q := zW_step (I := .iadd) rfl S Q
theorem eX7_readNumber_47 {d : Nat} {S : zS} {Q : zR → Prop} : zW d MX7_readNumber 47 S Q = zGo d MX7_readNumber (.putfield 46) (zf 0 7 5) 50 S Q := zW_step (I := .putfield 46) rfl S Q
theorem eX7_readNumber_50 {d : Nat} {S : zS} {Q : zR → Prop} : zW d MX7_readNumber 50 S Q = zGo d MX7_readNumber (.iinc 2 1) (zv (.int 1)) 53 S Q := zW_step (I := .iinc 2 1) rfl S Q
theorem eX7_readNumber_53 {d : Nat} {S : zS} {Q : zR → Prop} : zW d MX7_readNumber 53 S Q = zGo d MX7_readNumber (.goto (-49)) (zt 4) 56 S Q := zW_step (I := .goto (-49)) rfl S Q
theorem eX7_readNumber_56 {d : Nat} {S : zS} {Q : zR → Prop} : zW d MX7_readNumber 56 S Q = zGo d MX7_readNumber (.aload 0) z0 57 S Q := zW_step (I := .aload_n 0) rfl S Q
theorem eX7_readNumber_57 {d : Nat} {S : zS} {Q : zR → Prop} : zW d MX7_readNumber 57 S Q = zGo d MX7_readNumber (.iload 1) z0 58 S Q := zW_step (I := .iload_n 1) rfl S Q
theorem eX7_readNumber_58 {d : Nat} {S : zS} {Q : zR → Prop} : zW d MX7_readNumber 58 S Q = zGo d MX7_readNumber (.invokevirtual 48) (zc 84 2 7) 61 S Q := zW_step (I := .invokevirtual 48) rfl S Q
theorem eX7_readNumber_61 {d : Nat} {S : zS} {Q : zR → Prop} : zW d MX7_readNumber 61 S Q = zGo d MX7_readNumber (.return_) z0 62 S Q := zW_step (I := .return_) rfl S Q
theorem rX7_readNumber : MX7_readNumber.2.2.2.2.1 = none := rfl
theorem eX7_worth_0 {d : Nat} {S : zS} {Q : zR → Prop} : zW d MX7_worth 0 S Q = zGo d MX7_worth (.iconst 0) (zv (.int 0)) 1 S Q := zW_step (I := .iconst 0) rfl S Q
theorem eX7_worth_1 {d : Nat} {S : zS} {Q : zR → Prop} : zW d MX7_worth 1 S Q = zGo d MX7_worth (.istore 2) z0 2 S Q := zW_step (I := .istore_n 2) rfl S Q
theorem eX7_worth_2 {d : Nat} {S : zS} {Q : zR → Prop} : zW d MX7_worth 2 S Q = zGo d MX7_worth (.iconst 0) (zv (.int 0)) 3 S Q := zW_step (I := .iconst 0) rfl S Q
theorem eX7_worth_3 {d : Nat} {S : zS} {Q : zR → Prop} : zW d MX7_worth 3 S Q = zGo d MX7_worth (.istore 3) z0 4 S Q := zW_step (I := .istore_n 3) rfl S Q
theorem eX7_worth_4 {d : Nat} {S : zS} {Q : zR → Prop} : zW d MX7_worth 4 S Q = zGo d MX7_worth (.iload 3) z0 5 S Q := zW_step (I := .iload_n 3) rfl S Q
theorem eX7_worth_5 {d : Nat} {S : zS} {Q : zR → Prop} : zW d MX7_worth 5 S Q = zGo d MX7_worth (.aload 0) z0 6 S Q := zW_step (I := .aload_n 0) rfl S Q
theorem eX7_worth_6 {d : Nat} {S : zS} {Q : zR → Prop} : zW d MX7_worth 6 S Q = zGo d MX7_worth (.getfield 21) (zf 0 7 3) 9 S Q := zW_step (I := .getfield 21) rfl S Q
theorem eX7_worth_9 {d : Nat} {S : zS} {Q : zR → Prop} : zW d MX7_worth 9 S Q = zGo d MX7_worth (.if_icmp .ge 147) (zt 156) 12 S Q := zW_step (I := .if_icmp .ge 147) rfl S Q
theorem eX7_worth_12 {d : Nat} {S : zS} {Q : zR → Prop} : zW d MX7_worth 12 S Q = zGo d MX7_worth (.aload 0) z0 13 S Q := zW_step (I := .aload_n 0) rfl S Q
theorem eX7_worth_13 {d : Nat} {S : zS} {Q : zR → Prop} : zW d MX7_worth 13 S Q = zGo d MX7_worth (.getfield 11) (zf 3 7 0) 16 S Q := zW_step (I := .getfield 11) rfl S Q
theorem eX7_worth_16 {d : Nat} {S : zS} {Q : zR → Prop} : zW d MX7_worth 16 S Q = zGo d MX7_worth (.iload 3) z0 17 S Q := zW_step (I := .iload_n 3) rfl S Q
theorem eX7_worth_17 {d : Nat} {S : zS} {Q : zR → Prop} : zW d MX7_worth 17 S Q = zGo d MX7_worth (.iaload) z0 18 S Q := zW_step (I := .iaload) rfl S Q
theorem eX7_worth_18 {d : Nat} {S : zS} {Q : zR → Prop} : zW d MX7_worth 18 S Q = zGo d MX7_worth (.istore 4) z0 20 S Q := zW_step (I := .istore 4) rfl S Q
theorem eX7_worth_20 {d : Nat} {S : zS} {Q : zR → Prop} : zW d MX7_worth 20 S Q = zGo d MX7_worth (.iload 4) z0 22 S Q := zW_step (I := .iload 4) rfl S Q
theorem eX7_worth_22 {d : Nat} {S : zS} {Q : zR → Prop} : zW d MX7_worth 22 S Q = zGo d MX7_worth (.sipush 3000) (zv (.int 3000)) 25 S Q := zW_step (I := .sipush 3000) rfl S Q
theorem eX7_worth_25 {d : Nat} {S : zS} {Q : zR → Prop} : zW d MX7_worth 25 S Q = zGo d MX7_worth (.if_icmp .ne 28) (zt 53) 28 S Q := zW_step (I := .if_icmp .ne 28) rfl S Q
theorem eX7_worth_28 {d : Nat} {S : zS} {Q : zR → Prop} : zW d MX7_worth 28 S Q = zGo d MX7_worth (.iload 2) z0 29 S Q := zW_step (I := .iload_n 2) rfl S Q
theorem eX7_worth_29 {d : Nat} {S : zS} {Q : zR → Prop} : zW d MX7_worth 29 S Q = zGo d MX7_worth (.iconst 1) (zv (.int 1)) 30 S Q := zW_step (I := .iconst 1) rfl S Q
theorem eX7_worth_30 {d : Nat} {S : zS} {Q : zR → Prop} : zW d MX7_worth 30 S Q = zGo d MX7_worth (.if_icmp .lt 120) (zt 150) 33 S Q := zW_step (I := .if_icmp .lt 120) rfl S Q
theorem eX7_worth_33 {d : Nat} {S : zS} {Q : zR → Prop} : zW d MX7_worth 33 S Q = zGo d MX7_worth (.aload 0) z0 34 S Q := zW_step (I := .aload_n 0) rfl S Q
theorem eX7_worth_34 {d : Nat} {S : zS} {Q : zR → Prop} : zW d MX7_worth 34 S Q = zGo d MX7_worth (.getfield 15) (zf 3 7 1) 37 S Q := zW_step (I := .getfield 15) rfl S Q
theorem eX7_worth_37 {d : Nat} {S : zS} {Q : zR → Prop} : zW d MX7_worth 37 S Q = zGo d MX7_worth (.iload 2) z0 38 S Q := zW_step (I := .iload_n 2) rfl S Q
theorem eX7_worth_38 {d : Nat} {S : zS} {Q : zR → Prop} : zW d MX7_worth 38 S Q = zGo d MX7_worth (.iconst 1) (zv (.int 1)) 39 S Q := zW_step (I := .iconst 1) rfl S Q
theorem eX7_worth_39 {d : Nat} {S : zS} {Q : zR → Prop} : zW d MX7_worth 39 S Q = zGo d MX7_worth (.isub) z0 40 S Q := zW_step (I := .isub) rfl S Q
theorem eX7_worth_40 {d : Nat} {S : zS} {Q : zR → Prop} : zW d MX7_worth 40 S Q = zGo d MX7_worth (.aload 0) z0 41 S Q := zW_step (I := .aload_n 0) rfl S Q
theorem eX7_worth_41 {d : Nat} {S : zS} {Q : zR → Prop} : zW d MX7_worth 41 S Q = zGo d MX7_worth (.getfield 15) (zf 3 7 1) 44 S Q := zW_step (I := .getfield 15) rfl S Q
theorem eX7_worth_44 {d : Nat} {S : zS} {Q : zR → Prop} : zW d MX7_worth 44 S Q = zGo d MX7_worth (.iload 2) z0 45 S Q := zW_step (I := .iload_n 2) rfl S Q
theorem eX7_worth_45 {d : Nat} {S : zS} {Q : zR → Prop} : zW d MX7_worth 45 S Q = zGo d MX7_worth (.iconst 1) (zv (.int 1)) 46 S Q := zW_step (I := .iconst 1) rfl S Q
theorem eX7_worth_46 {d : Nat} {S : zS} {Q : zR → Prop} : zW d MX7_worth 46 S Q = zGo d MX7_worth (.isub) z0 47 S Q := zW_step (I := .isub) rfl S Q
theorem eX7_worth_47 {d : Nat} {S : zS} {Q : zR → Prop} : zW d MX7_worth 47 S Q = zGo d MX7_worth (.iaload) z0 48 S Q := zW_step (I := .iaload) rfl S Q
theorem eX7_worth_48 {d : Nat} {S : zS} {Q : zR → Prop} : zW d MX7_worth 48 S Q = zGo d MX7_worth (.ineg) z0 49 S Q := zW_step (I := .ineg) rfl S Q
theorem eX7_worth_49 {d : Nat} {S : zS} {Q : zR → Prop} : zW d MX7_worth 49 S Q = zGo d MX7_worth (.iastore) z0 50 S Q := zW_step (I := .iastore) rfl S Q
theorem eX7_worth_50 {d : Nat} {S : zS} {Q : zR → Prop} : zW d MX7_worth 50 S Q = zGo d MX7_worth (.goto 100) (zt 150) 53 S Q := zW_step (I := .goto 100) rfl S Q
theorem eX7_worth_53 {d : Nat} {S : zS} {Q : zR → Prop} : zW d MX7_worth 53 S Q = zGo d MX7_worth (.iload 4) z0 55 S Q := zW_step (I := .iload 4) rfl S Q
theorem eX7_worth_55 {d : Nat} {S : zS} {Q : zR → Prop} : zW d MX7_worth 55 S Q = zGo d MX7_worth (.sipush 2000) (zv (.int 2000)) 58 S Q := zW_step (I := .sipush 2000) rfl S Q
theorem eX7_worth_58 {d : Nat} {S : zS} {Q : zR → Prop} : zW d MX7_worth 58 S Q = zGo d MX7_worth (.if_icmp .lt 45) (zt 103) 61 S Q := zW_step (I := .if_icmp .lt 45) rfl S Q
theorem eX7_worth_61 {d : Nat} {S : zS} {Q : zR → Prop} : zW d MX7_worth 61 S Q = zGo d MX7_worth (.iload 2) z0 62 S Q := zW_step (I := .iload_n 2) rfl S Q
theorem eX7_worth_62 {d : Nat} {S : zS} {Q : zR → Prop} : zW d MX7_worth 62 S Q = zGo d MX7_worth (.iconst 2) (zv (.int 2)) 63 S Q := zW_step (I := .iconst 2) rfl S Q
theorem eX7_worth_63 {d : Nat} {S : zS} {Q : zR → Prop} : zW d MX7_worth 63 S Q = zGo d MX7_worth (.if_icmp .lt 87) (zt 150) 66 S Q := zW_step (I := .if_icmp .lt 87) rfl S Q
theorem eX7_worth_66 {d : Nat} {S : zS} {Q : zR → Prop} : zW d MX7_worth 66 S Q = zGo d MX7_worth (.iinc 2 (-1)) (zv (.int (-1))) 69 S Q := zW_step (I := .iinc 2 (-1)) rfl S Q
theorem eX7_worth_69 {d : Nat} {S : zS} {Q : zR → Prop} : zW d MX7_worth 69 S Q = zGo d MX7_worth (.aload 0) z0 70 S Q := zW_step (I := .aload_n 0) rfl S Q
theorem eX7_worth_70 {d : Nat} {S : zS} {Q : zR → Prop} : zW d MX7_worth 70 S Q = zGo d MX7_worth (.getfield 15) (zf 3 7 1) 73 S Q := zW_step (I := .getfield 15) rfl S Q
theorem eX7_worth_73 {d : Nat} {S : zS} {Q : zR → Prop} : zW d MX7_worth 73 S Q = zGo d MX7_worth (.iload 2) z0 74 S Q := zW_step (I := .iload_n 2) rfl S Q
theorem eX7_worth_74 {d : Nat} {S : zS} {Q : zR → Prop} : zW d MX7_worth 74 S Q = zGo d MX7_worth (.iconst 1) (zv (.int 1)) 75 S Q := zW_step (I := .iconst 1) rfl S Q
theorem eX7_worth_75 {d : Nat} {S : zS} {Q : zR → Prop} : zW d MX7_worth 75 S Q = zGo d MX7_worth (.isub) z0 76 S Q := zW_step (I := .isub) rfl S Q
theorem eX7_worth_76 {d : Nat} {S : zS} {Q : zR → Prop} : zW d MX7_worth 76 S Q = zGo d MX7_worth (.iload 4) z0 78 S Q := zW_step (I := .iload 4) rfl S Q
theorem eX7_worth_78 {d : Nat} {S : zS} {Q : zR → Prop} : zW d MX7_worth 78 S Q = zGo d MX7_worth (.sipush 2000) (zv (.int 2000)) 81 S Q := zW_step (I := .sipush 2000) rfl S Q
theorem eX7_worth_81 {d : Nat} {S : zS} {Q : zR → Prop} : zW d MX7_worth 81 S Q = zGo d MX7_worth (.isub) z0 82 S Q := zW_step (I := .isub) rfl S Q
theorem eX7_worth_82 {d : Nat} {S : zS} {Q : zR → Prop} : zW d MX7_worth 82 S Q = zGo d MX7_worth (.aload 0) z0 83 S Q := zW_step (I := .aload_n 0) rfl S Q
theorem eX7_worth_83 {d : Nat} {S : zS} {Q : zR → Prop} : zW d MX7_worth 83 S Q = zGo d MX7_worth (.getfield 15) (zf 3 7 1) 86 S Q := zW_step (I := .getfield 15) rfl S Q
theorem eX7_worth_86 {d : Nat} {S : zS} {Q : zR → Prop} : zW d MX7_worth 86 S Q = zGo d MX7_worth (.iload 2) z0 87 S Q := zW_step (I := .iload_n 2) rfl S Q
theorem eX7_worth_87 {d : Nat} {S : zS} {Q : zR → Prop} : zW d MX7_worth 87 S Q = zGo d MX7_worth (.iconst 1) (zv (.int 1)) 88 S Q := zW_step (I := .iconst 1) rfl S Q
theorem eX7_worth_88 {d : Nat} {S : zS} {Q : zR → Prop} : zW d MX7_worth 88 S Q = zGo d MX7_worth (.isub) z0 89 S Q := zW_step (I := .isub) rfl S Q
theorem eX7_worth_89 {d : Nat} {S : zS} {Q : zR → Prop} : zW d MX7_worth 89 S Q = zGo d MX7_worth (.iaload) z0 90 S Q := zW_step (I := .iaload) rfl S Q
theorem eX7_worth_90 {d : Nat} {S : zS} {Q : zR → Prop} : zW d MX7_worth 90 S Q = zGo d MX7_worth (.aload 0) z0 91 S Q := zW_step (I := .aload_n 0) rfl S Q
theorem eX7_worth_91 {d : Nat} {S : zS} {Q : zR → Prop} : zW d MX7_worth 91 S Q = zGo d MX7_worth (.getfield 15) (zf 3 7 1) 94 S Q := zW_step (I := .getfield 15) rfl S Q
theorem eX7_worth_94 {d : Nat} {S : zS} {Q : zR → Prop} : zW d MX7_worth 94 S Q = zGo d MX7_worth (.iload 2) z0 95 S Q := zW_step (I := .iload_n 2) rfl S Q
theorem eX7_worth_95 {d : Nat} {S : zS} {Q : zR → Prop} : zW d MX7_worth 95 S Q = zGo d MX7_worth (.iaload) z0 96 S Q := zW_step (I := .iaload) rfl S Q
theorem eX7_worth_96 {d : Nat} {S : zS} {Q : zR → Prop} : zW d MX7_worth 96 S Q = zGo d MX7_worth (.invokestatic 80) (zc 92 3 0) 99 S Q := zW_step (I := .invokestatic 80) rfl S Q
theorem eX7_worth_99 {d : Nat} {S : zS} {Q : zR → Prop} : zW d MX7_worth 99 S Q = zGo d MX7_worth (.iastore) z0 100 S Q := zW_step (I := .iastore) rfl S Q
theorem eX7_worth_100 {d : Nat} {S : zS} {Q : zR → Prop} : zW d MX7_worth 100 S Q = zGo d MX7_worth (.goto 50) (zt 150) 103 S Q := zW_step (I := .goto 50) rfl S Q
theorem eX7_worth_103 {d : Nat} {S : zS} {Q : zR → Prop} : zW d MX7_worth 103 S Q = zGo d MX7_worth (.iload 2) z0 104 S Q := zW_step (I := .iload_n 2) rfl S Q
theorem eX7_worth_104 {d : Nat} {S : zS} {Q : zR → Prop} : zW d MX7_worth 104 S Q = zGo d MX7_worth (.aload 0) z0 105 S Q := zW_step (I := .aload_n 0) rfl S Q
theorem eX7_worth_105 {d : Nat} {S : zS} {Q : zR → Prop} : zW d MX7_worth 105 S Q = zGo d MX7_worth (.getfield 15) (zf 3 7 1) 108 S Q := zW_step (I := .getfield 15) rfl S Q
theorem eX7_worth_108 {d : Nat} {S : zS} {Q : zR → Prop} : zW d MX7_worth 108 S Q = zGo d MX7_worth (.arraylength) z0 109 S Q := zW_step (I := .arraylength) rfl S Q
theorem eX7_worth_109 {d : Nat} {S : zS} {Q : zR → Prop} : zW d MX7_worth 109 S Q = zGo d MX7_worth (.if_icmp .ge 41) (zt 150) 112 S Q := zW_step (I := .if_icmp .ge 41) rfl S Q
theorem eX7_worth_112 {d : Nat} {S : zS} {Q : zR → Prop} : zW d MX7_worth 112 S Q = zGo d MX7_worth (.iload 4) z0 114 S Q := zW_step (I := .iload 4) rfl S Q
theorem eX7_worth_114 {d : Nat} {S : zS} {Q : zR → Prop} : zW d MX7_worth 114 S Q = zGo d MX7_worth (.sipush 1000) (zv (.int 1000)) 117 S Q := zW_step (I := .sipush 1000) rfl S Q
theorem eX7_worth_117 {d : Nat} {S : zS} {Q : zR → Prop} : zW d MX7_worth 117 S Q = zGo d MX7_worth (.isub) z0 118 S Q := zW_step (I := .isub) rfl S Q
theorem eX7_worth_118 {d : Nat} {S : zS} {Q : zR → Prop} : zW d MX7_worth 118 S Q = zGo d MX7_worth (.istore 5) z0 120 S Q := zW_step (I := .istore 5) rfl S Q
theorem eX7_worth_120 {d : Nat} {S : zS} {Q : zR → Prop} : zW d MX7_worth 120 S Q = zGo d MX7_worth (.aload 0) z0 121 S Q := zW_step (I := .aload_n 0) rfl S Q
theorem eX7_worth_121 {d : Nat} {S : zS} {Q : zR → Prop} : zW d MX7_worth 121 S Q = zGo d MX7_worth (.getfield 15) (zf 3 7 1) 124 S Q := zW_step (I := .getfield 15) rfl S Q
theorem eX7_worth_124 {d : Nat} {S : zS} {Q : zR → Prop} : zW d MX7_worth 124 S Q = zGo d MX7_worth (.iload 2) z0 125 S Q := zW_step (I := .iload_n 2) rfl S Q
theorem eX7_worth_125 {d : Nat} {S : zS} {Q : zR → Prop} : zW d MX7_worth 125 S Q = zGo d MX7_worth (.iload 5) z0 127 S Q := zW_step (I := .iload 5) rfl S Q
theorem eX7_worth_127 {d : Nat} {S : zS} {Q : zR → Prop} : zW d MX7_worth 127 S Q = zGo d MX7_worth (.ifCond .lt 17) (zt 144) 130 S Q := zW_step (I := .ifCond .lt 17) rfl S Q
theorem eX7_worth_130 {d : Nat} {S : zS} {Q : zR → Prop} : zW d MX7_worth 130 S Q = zGo d MX7_worth (.iload 5) z0 132 S Q := zW_step (I := .iload 5) rfl S Q
theorem eX7_worth_132 {d : Nat} {S : zS} {Q : zR → Prop} : zW d MX7_worth 132 S Q = zGo d MX7_worth (.aload 1) z0 133 S Q := zW_step (I := .aload_n 1) rfl S Q
theorem eX7_worth_133 {d : Nat} {S : zS} {Q : zR → Prop} : zW d MX7_worth 133 S Q = zGo d MX7_worth (.arraylength) z0 134 S Q := zW_step (I := .arraylength) rfl S Q
theorem eX7_worth_134 {d : Nat} {S : zS} {Q : zR → Prop} : zW d MX7_worth 134 S Q = zGo d MX7_worth (.if_icmp .ge 10) (zt 144) 137 S Q := zW_step (I := .if_icmp .ge 10) rfl S Q
theorem eX7_worth_137 {d : Nat} {S : zS} {Q : zR → Prop} : zW d MX7_worth 137 S Q = zGo d MX7_worth (.aload 1) z0 138 S Q := zW_step (I := .aload_n 1) rfl S Q
theorem eX7_worth_138 {d : Nat} {S : zS} {Q : zR → Prop} : zW d MX7_worth 138 S Q = zGo d MX7_worth (.iload 5) z0 140 S Q := zW_step (I := .iload 5) rfl S Q
theorem eX7_worth_140 {d : Nat} {S : zS} {Q : zR → Prop} : zW d MX7_worth 140 S Q = zGo d MX7_worth (.iaload) z0 141 S Q := zW_step (I := .iaload) rfl S Q
theorem eX7_worth_141 {d : Nat} {S : zS} {Q : zR → Prop} : zW d MX7_worth 141 S Q = zGo d MX7_worth (.goto 5) (zt 146) 144 S Q := zW_step (I := .goto 5) rfl S Q
theorem eX7_worth_144 {d : Nat} {S : zS} {Q : zR → Prop} : zW d MX7_worth 144 S Q = zGo d MX7_worth (.iload 4) z0 146 S Q := zW_step (I := .iload 4) rfl S Q
theorem eX7_worth_146 {d : Nat} {S : zS} {Q : zR → Prop} : zW d MX7_worth 146 S Q = zGo d MX7_worth (.iastore) z0 147 S Q := zW_step (I := .iastore) rfl S Q
theorem eX7_worth_147 {d : Nat} {S : zS} {Q : zR → Prop} : zW d MX7_worth 147 S Q = zGo d MX7_worth (.iinc 2 1) (zv (.int 1)) 150 S Q := zW_step (I := .iinc 2 1) rfl S Q
theorem eX7_worth_150 {d : Nat} {S : zS} {Q : zR → Prop} : zW d MX7_worth 150 S Q = zGo d MX7_worth (.iinc 3 1) (zv (.int 1)) 153 S Q := zW_step (I := .iinc 3 1) rfl S Q
theorem eX7_worth_153 {d : Nat} {S : zS} {Q : zR → Prop} : zW d MX7_worth 153 S Q = zGo d MX7_worth (.goto (-149)) (zt 4) 156 S Q := zW_step (I := .goto (-149)) rfl S Q
theorem eX7_worth_156 {d : Nat} {S : zS} {Q : zR → Prop} : zW d MX7_worth 156 S Q = zGo d MX7_worth (.bipush (-99)) (zv (.int (-99))) 158 S Q := zW_step (I := .bipush (-99)) rfl S Q
theorem eX7_worth_158 {d : Nat} {S : zS} {Q : zR → Prop} : zW d MX7_worth 158 S Q = zGo d MX7_worth (.bipush 99) (zv (.int 99)) 160 S Q := zW_step (I := .bipush 99) rfl S Q
theorem eX7_worth_160 {d : Nat} {S : zS} {Q : zR → Prop} : zW d MX7_worth 160 S Q = zGo d MX7_worth (.aload 0) z0 161 S Q := zW_step (I := .aload_n 0) rfl S Q
theorem eX7_worth_161 {d : Nat} {S : zS} {Q : zR → Prop} : zW d MX7_worth 161 S Q = zGo d MX7_worth (.getfield 15) (zf 3 7 1) 164 S Q := zW_step (I := .getfield 15) rfl S Q
theorem eX7_worth_164 {d : Nat} {S : zS} {Q : zR → Prop} : zW d MX7_worth 164 S Q = zGo d MX7_worth (.iconst 0) (zv (.int 0)) 165 S Q := zW_step (I := .iconst 0) rfl S Q
theorem eX7_worth_165 {d : Nat} {S : zS} {Q : zR → Prop} : zW d MX7_worth 165 S Q = zGo d MX7_worth (.iaload) z0 166 S Q := zW_step (I := .iaload) rfl S Q
theorem eX7_worth_166 {d : Nat} {S : zS} {Q : zR → Prop} : zW d MX7_worth 166 S Q = zGo d MX7_worth (.invokestatic 30) (zt 995) 169 S Q := zW_step (I := .invokestatic 30) rfl S Q
theorem eX7_worth_169 {d : Nat} {S : zS} {Q : zR → Prop} : zW d MX7_worth 169 S Q = zGo d MX7_worth (.invokestatic 84) (zt 994) 172 S Q := zW_step (I := .invokestatic 84) rfl S Q
theorem eX7_worth_172 {d : Nat} {S : zS} {Q : zR → Prop} : zW d MX7_worth 172 S Q = zGo d MX7_worth (.ireturn) z0 173 S Q := zW_step (I := .ireturn) rfl S Q
theorem rX7_worth : MX7_worth.2.2.2.2.1 = some .int := rfl
theorem eX7_done_0 {d : Nat} {S : zS} {Q : zR → Prop} : zW d MX7_done 0 S Q = zGo d MX7_done (.iload 0) z0 1 S Q := zW_step (I := .iload_n 0) rfl S Q
theorem eX7_done_1 {d : Nat} {S : zS} {Q : zR → Prop} : zW d MX7_done 1 S Q = zGo d MX7_done (.lookupswitch 105 #[(42, 67), (43, 59), (45, 63), (47, 71), (60, 83), (62, 94)]) (106, 0, 0, .null, [(42, 68), (43, 60), (45, 64), (47, 72), (60, 84), (62, 95)]) 60 S Q := zW_step (I := .lookupswitch 105 #[(42, 67), (43, 59), (45, 63), (47, 71), (60, 83), (62, 94)]) rfl S Q
theorem eX7_done_60 {d : Nat} {S : zS} {Q : zR → Prop} : zW d MX7_done 60 S Q = zGo d MX7_done (.iload 1) z0 61 S Q := zW_step (I := .iload_n 1) rfl S Q
theorem eX7_done_61 {d : Nat} {S : zS} {Q : zR → Prop} : zW d MX7_done 61 S Q = zGo d MX7_done (.iload 2) z0 62 S Q := zW_step (I := .iload_n 2) rfl S Q
theorem eX7_done_62 {d : Nat} {S : zS} {Q : zR → Prop} : zW d MX7_done 62 S Q = zGo d MX7_done (.iadd) z0 63 S Q := zW_step (I := .iadd) rfl S Q
theorem eX7_done_63 {d : Nat} {S : zS} {Q : zR → Prop} : zW d MX7_done 63 S Q = zGo d MX7_done (.ireturn) z0 64 S Q := zW_step (I := .ireturn) rfl S Q
theorem eX7_done_64 {d : Nat} {S : zS} {Q : zR → Prop} : zW d MX7_done 64 S Q = zGo d MX7_done (.iload 1) z0 65 S Q := zW_step (I := .iload_n 1) rfl S Q
theorem eX7_done_65 {d : Nat} {S : zS} {Q : zR → Prop} : zW d MX7_done 65 S Q = zGo d MX7_done (.iload 2) z0 66 S Q := zW_step (I := .iload_n 2) rfl S Q
theorem eX7_done_66 {d : Nat} {S : zS} {Q : zR → Prop} : zW d MX7_done 66 S Q = zGo d MX7_done (.isub) z0 67 S Q := zW_step (I := .isub) rfl S Q
theorem eX7_done_67 {d : Nat} {S : zS} {Q : zR → Prop} : zW d MX7_done 67 S Q = zGo d MX7_done (.ireturn) z0 68 S Q := zW_step (I := .ireturn) rfl S Q
theorem eX7_done_68 {d : Nat} {S : zS} {Q : zR → Prop} : zW d MX7_done 68 S Q = zGo d MX7_done (.iload 1) z0 69 S Q := zW_step (I := .iload_n 1) rfl S Q
theorem eX7_done_69 {d : Nat} {S : zS} {Q : zR → Prop} : zW d MX7_done 69 S Q = zGo d MX7_done (.iload 2) z0 70 S Q := zW_step (I := .iload_n 2) rfl S Q
theorem eX7_done_70 {d : Nat} {S : zS} {Q : zR → Prop} : zW d MX7_done 70 S Q = zGo d MX7_done (.imul) z0 71 S Q := zW_step (I := .imul) rfl S Q
theorem eX7_done_71 {d : Nat} {S : zS} {Q : zR → Prop} : zW d MX7_done 71 S Q = zGo d MX7_done (.ireturn) z0 72 S Q := zW_step (I := .ireturn) rfl S Q
theorem eX7_done_72 {d : Nat} {S : zS} {Q : zR → Prop} : zW d MX7_done 72 S Q = zGo d MX7_done (.iload 2) z0 73 S Q := zW_step (I := .iload_n 2) rfl S Q
theorem eX7_done_73 {d : Nat} {S : zS} {Q : zR → Prop} : zW d MX7_done 73 S Q = zGo d MX7_done (.ifCond .ne 7) (zt 80) 76 S Q := zW_step (I := .ifCond .ne 7) rfl S Q
theorem eX7_done_76 {d : Nat} {S : zS} {Q : zR → Prop} : zW d MX7_done 76 S Q = zGo d MX7_done (.iconst 0) (zv (.int 0)) 77 S Q := zW_step (I := .iconst 0) rfl S Q
theorem eX7_done_77 {d : Nat} {S : zS} {Q : zR → Prop} : zW d MX7_done 77 S Q = zGo d MX7_done (.goto 6) (zt 83) 80 S Q := zW_step (I := .goto 6) rfl S Q
theorem eX7_done_80 {d : Nat} {S : zS} {Q : zR → Prop} : zW d MX7_done 80 S Q = zGo d MX7_done (.iload 1) z0 81 S Q := zW_step (I := .iload_n 1) rfl S Q
theorem eX7_done_81 {d : Nat} {S : zS} {Q : zR → Prop} : zW d MX7_done 81 S Q = zGo d MX7_done (.iload 2) z0 82 S Q := zW_step (I := .iload_n 2) rfl S Q
theorem eX7_done_82 {d : Nat} {S : zS} {Q : zR → Prop} : zW d MX7_done 82 S Q = zGo d MX7_done (.idiv) z0 83 S Q := zW_step (I := .idiv) rfl S Q
theorem eX7_done_83 {d : Nat} {S : zS} {Q : zR → Prop} : zW d MX7_done 83 S Q = zGo d MX7_done (.ireturn) z0 84 S Q := zW_step (I := .ireturn) rfl S Q
theorem eX7_done_84 {d : Nat} {S : zS} {Q : zR → Prop} : zW d MX7_done 84 S Q = zGo d MX7_done (.iload 1) z0 85 S Q := zW_step (I := .iload_n 1) rfl S Q
theorem eX7_done_85 {d : Nat} {S : zS} {Q : zR → Prop} : zW d MX7_done 85 S Q = zGo d MX7_done (.iload 2) z0 86 S Q := zW_step (I := .iload_n 2) rfl S Q
theorem eX7_done_86 {d : Nat} {S : zS} {Q : zR → Prop} : zW d MX7_done 86 S Q = zGo d MX7_done (.if_icmp .ge 7) (zt 93) 89 S Q := zW_step (I := .if_icmp .ge 7) rfl S Q
theorem eX7_done_89 {d : Nat} {S : zS} {Q : zR → Prop} : zW d MX7_done 89 S Q = zGo d MX7_done (.iconst 1) (zv (.int 1)) 90 S Q := zW_step (I := .iconst 1) rfl S Q
theorem eX7_done_90 {d : Nat} {S : zS} {Q : zR → Prop} : zW d MX7_done 90 S Q = zGo d MX7_done (.goto 4) (zt 94) 93 S Q := zW_step (I := .goto 4) rfl S Q
theorem eX7_done_93 {d : Nat} {S : zS} {Q : zR → Prop} : zW d MX7_done 93 S Q = zGo d MX7_done (.iconst 0) (zv (.int 0)) 94 S Q := zW_step (I := .iconst 0) rfl S Q
theorem eX7_done_94 {d : Nat} {S : zS} {Q : zR → Prop} : zW d MX7_done 94 S Q = zGo d MX7_done (.ireturn) z0 95 S Q := zW_step (I := .ireturn) rfl S Q
theorem eX7_done_95 {d : Nat} {S : zS} {Q : zR → Prop} : zW d MX7_done 95 S Q = zGo d MX7_done (.iload 1) z0 96 S Q := zW_step (I := .iload_n 1) rfl S Q
theorem eX7_done_96 {d : Nat} {S : zS} {Q : zR → Prop} : zW d MX7_done 96 S Q = zGo d MX7_done (.iload 2) z0 97 S Q := zW_step (I := .iload_n 2) rfl S Q
theorem eX7_done_97 {d : Nat} {S : zS} {Q : zR → Prop} : zW d MX7_done 97 S Q = zGo d MX7_done (.if_icmp .le 7) (zt 104) 100 S Q := zW_step (I := .if_icmp .le 7) rfl S Q
theorem eX7_done_100 {d : Nat} {S : zS} {Q : zR → Prop} : zW d MX7_done 100 S Q = zGo d MX7_done (.iconst 1) (zv (.int 1)) 101 S Q := zW_step (I := .iconst 1) rfl S Q
theorem eX7_done_101 {d : Nat} {S : zS} {Q : zR → Prop} : zW d MX7_done 101 S Q = zGo d MX7_done (.goto 4) (zt 105) 104 S Q := zW_step (I := .goto 4) rfl S Q
theorem eX7_done_104 {d : Nat} {S : zS} {Q : zR → Prop} : zW d MX7_done 104 S Q = zGo d MX7_done (.iconst 0) (zv (.int 0)) 105 S Q := zW_step (I := .iconst 0) rfl S Q
theorem eX7_done_105 {d : Nat} {S : zS} {Q : zR → Prop} : zW d MX7_done 105 S Q = zGo d MX7_done (.ireturn) z0 106 S Q := zW_step (I := .ireturn) rfl S Q
theorem eX7_done_106 {d : Nat} {S : zS} {Q : zR → Prop} : zW d MX7_done 106 S Q = zGo d MX7_done (.iload 1) z0 107 S Q := zW_step (I := .iload_n 1) rfl S Q
theorem eX7_done_107 {d : Nat} {S : zS} {Q : zR → Prop} : zW d MX7_done 107 S Q = zGo d MX7_done (.iload 2) z0 108 S Q := zW_step (I := .iload_n 2) rfl S Q
theorem eX7_done_108 {d : Nat} {S : zS} {Q : zR → Prop} : zW d MX7_done 108 S Q = zGo d MX7_done (.if_icmp .ne 7) (zt 115) 111 S Q := zW_step (I := .if_icmp .ne 7) rfl S Q
theorem eX7_done_111 {d : Nat} {S : zS} {Q : zR → Prop} : zW d MX7_done 111 S Q = zGo d MX7_done (.iconst 1) (zv (.int 1)) 112 S Q := zW_step (I := .iconst 1) rfl S Q
theorem eX7_done_112 {d : Nat} {S : zS} {Q : zR → Prop} : zW d MX7_done 112 S Q = zGo d MX7_done (.goto 4) (zt 116) 115 S Q := zW_step (I := .goto 4) rfl S Q
theorem eX7_done_115 {d : Nat} {S : zS} {Q : zR → Prop} : zW d MX7_done 115 S Q = zGo d MX7_done (.iconst 0) (zv (.int 0)) 116 S Q := zW_step (I := .iconst 0) rfl S Q
theorem eX7_done_116 {d : Nat} {S : zS} {Q : zR → Prop} : zW d MX7_done 116 S Q = zGo d MX7_done (.ireturn) z0 117 S Q := zW_step (I := .ireturn) rfl S Q
theorem rX7_done : MX7_done.2.2.2.2.1 = some .int := rfl
theorem eJ0_length_8abf5_0 {d : Nat} {S : zS} {Q : zR → Prop} : zW d MJ0_length_8abf5 0 S Q = zGo d MJ0_length_8abf5 (.aload 0) z0 1 S Q := zW_step (I := .aload_n 0) rfl S Q
theorem eJ0_length_8abf5_1 {d : Nat} {S : zS} {Q : zR → Prop} : zW d MJ0_length_8abf5 1 S Q = zGo d MJ0_length_8abf5 (.getfield 9) (zf 0 200 0) 4 S Q := zW_step (I := .getfield 9) rfl S Q
theorem eJ0_length_8abf5_4 {d : Nat} {S : zS} {Q : zR → Prop} : zW d MJ0_length_8abf5 4 S Q = zGo d MJ0_length_8abf5 (.arraylength) z0 5 S Q := zW_step (I := .arraylength) rfl S Q
theorem eJ0_length_8abf5_5 {d : Nat} {S : zS} {Q : zR → Prop} : zW d MJ0_length_8abf5 5 S Q = zGo d MJ0_length_8abf5 (.aload 0) z0 6 S Q := zW_step (I := .aload_n 0) rfl S Q
theorem eJ0_length_8abf5_6 {d : Nat} {S : zS} {Q : zR → Prop} : zW d MJ0_length_8abf5 6 S Q = zGo d MJ0_length_8abf5 (.invokevirtual 335) (zc 298 1 200) 9 S Q := zW_step (I := .invokevirtual 335) rfl S Q
theorem eJ0_length_8abf5_9 {d : Nat} {S : zS} {Q : zR → Prop} : zW d MJ0_length_8abf5 9 S Q = zGo d MJ0_length_8abf5 (.ishr) z0 10 S Q := zW_step (I := .ishr) rfl S Q
theorem eJ0_length_8abf5_10 {d : Nat} {S : zS} {Q : zR → Prop} : zW d MJ0_length_8abf5 10 S Q = zGo d MJ0_length_8abf5 (.ireturn) z0 11 S Q := zW_step (I := .ireturn) rfl S Q
theorem rJ0_length_8abf5 : MJ0_length_8abf5.2.2.2.2.1 = some .int := rfl
theorem eJ0_indexOf_0f7a4_0 {d : Nat} {S : zS} {Q : zR → Prop} : zW d MJ0_indexOf_0f7a4 0 S Q = zGo d MJ0_indexOf_0f7a4 (.aload 0) z0 1 S Q := zW_step (I := .aload_n 0) rfl S Q
theorem eJ0_indexOf_0f7a4_1 {d : Nat} {S : zS} {Q : zR → Prop} : zW d MJ0_indexOf_0f7a4 1 S Q = zGo d MJ0_indexOf_0f7a4 (.iload 1) z0 2 S Q := zW_step (I := .iload_n 1) rfl S Q
theorem eJ0_indexOf_0f7a4_2 {d : Nat} {S : zS} {Q : zR → Prop} : zW d MJ0_indexOf_0f7a4 2 S Q = zGo d MJ0_indexOf_0f7a4 (.iconst 0) (zv (.int 0)) 3 S Q := zW_step (I := .iconst 0) rfl S Q
theorem eJ0_indexOf_0f7a4_3 {d : Nat} {S : zS} {Q : zR → Prop} : zW d MJ0_indexOf_0f7a4 3 S Q = zGo d MJ0_indexOf_0f7a4 (.invokevirtual 633) (zc 297 3 200) 6 S Q := zW_step (I := .invokevirtual 633) rfl S Q
theorem eJ0_indexOf_0f7a4_6 {d : Nat} {S : zS} {Q : zR → Prop} : zW d MJ0_indexOf_0f7a4 6 S Q = zGo d MJ0_indexOf_0f7a4 (.ireturn) z0 7 S Q := zW_step (I := .ireturn) rfl S Q
theorem rJ0_indexOf_0f7a4 : MJ0_indexOf_0f7a4.2.2.2.2.1 = some .int := rfl
theorem eJ0_indexOf_7cf53_0 {d : Nat} {S : zS} {Q : zR → Prop} : zW d MJ0_indexOf_7cf53 0 S Q = zGo d MJ0_indexOf_7cf53 (.aload 0) z0 1 S Q := zW_step (I := .aload_n 0) rfl S Q
theorem eJ0_indexOf_7cf53_1 {d : Nat} {S : zS} {Q : zR → Prop} : zW d MJ0_indexOf_7cf53 1 S Q = zGo d MJ0_indexOf_7cf53 (.invokevirtual 492) (zc 299 1 200) 4 S Q := zW_step (I := .invokevirtual 492) rfl S Q
theorem eJ0_indexOf_7cf53_4 {d : Nat} {S : zS} {Q : zR → Prop} : zW d MJ0_indexOf_7cf53 4 S Q = zGo d MJ0_indexOf_7cf53 (.ifCond .eq 19) (zt 23) 7 S Q := zW_step (I := .ifCond .eq 19) rfl S Q
theorem eJ0_indexOf_7cf53_7 {d : Nat} {S : zS} {Q : zR → Prop} : zW d MJ0_indexOf_7cf53 7 S Q = zGo d MJ0_indexOf_7cf53 (.aload 0) z0 8 S Q := zW_step (I := .aload_n 0) rfl S Q
theorem eJ0_indexOf_7cf53_8 {d : Nat} {S : zS} {Q : zR → Prop} : zW d MJ0_indexOf_7cf53 8 S Q = zGo d MJ0_indexOf_7cf53 (.getfield 9) (zf 0 200 0) 11 S Q := zW_step (I := .getfield 9) rfl S Q
theorem eJ0_indexOf_7cf53_11 {d : Nat} {S : zS} {Q : zR → Prop} : zW d MJ0_indexOf_7cf53 11 S Q = zGo d MJ0_indexOf_7cf53 (.iload 1) z0 12 S Q := zW_step (I := .iload_n 1) rfl S Q
theorem eJ0_indexOf_7cf53_12 {d : Nat} {S : zS} {Q : zR → Prop} : zW d MJ0_indexOf_7cf53 12 S Q = zGo d MJ0_indexOf_7cf53 (.iload 2) z0 13 S Q := zW_step (I := .iload_n 2) rfl S Q
theorem eJ0_indexOf_7cf53_13 {d : Nat} {S : zS} {Q : zR → Prop} : zW d MJ0_indexOf_7cf53 13 S Q = zGo d MJ0_indexOf_7cf53 (.aload 0) z0 14 S Q := zW_step (I := .aload_n 0) rfl S Q
theorem eJ0_indexOf_7cf53_14 {d : Nat} {S : zS} {Q : zR → Prop} : zW d MJ0_indexOf_7cf53 14 S Q = zGo d MJ0_indexOf_7cf53 (.invokevirtual 505) (zc 294 1 200) 17 S Q := zW_step (I := .invokevirtual 505) rfl S Q
theorem eJ0_indexOf_7cf53_17 {d : Nat} {S : zS} {Q : zR → Prop} : zW d MJ0_indexOf_7cf53 17 S Q = zGo d MJ0_indexOf_7cf53 (.invokestatic 637) (zc 302 4 0) 20 S Q := zW_step (I := .invokestatic 637) rfl S Q
theorem eJ0_indexOf_7cf53_20 {d : Nat} {S : zS} {Q : zR → Prop} : zW d MJ0_indexOf_7cf53 20 S Q = zGo d MJ0_indexOf_7cf53 (.goto 16) (zt 36) 23 S Q := zW_step (I := .goto 16) rfl S Q
theorem eJ0_indexOf_7cf53_23 {d : Nat} {S : zS} {Q : zR → Prop} : zW d MJ0_indexOf_7cf53 23 S Q = zGo d MJ0_indexOf_7cf53 (.aload 0) z0 24 S Q := zW_step (I := .aload_n 0) rfl S Q
theorem eJ0_indexOf_7cf53_24 {d : Nat} {S : zS} {Q : zR → Prop} : zW d MJ0_indexOf_7cf53 24 S Q = zGo d MJ0_indexOf_7cf53 (.getfield 9) (zf 0 200 0) 27 S Q := zW_step (I := .getfield 9) rfl S Q
theorem eJ0_indexOf_7cf53_27 {d : Nat} {S : zS} {Q : zR → Prop} : zW d MJ0_indexOf_7cf53 27 S Q = zGo d MJ0_indexOf_7cf53 (.iload 1) z0 28 S Q := zW_step (I := .iload_n 1) rfl S Q
theorem eJ0_indexOf_7cf53_28 {d : Nat} {S : zS} {Q : zR → Prop} : zW d MJ0_indexOf_7cf53 28 S Q = zGo d MJ0_indexOf_7cf53 (.iload 2) z0 29 S Q := zW_step (I := .iload_n 2) rfl S Q
theorem eJ0_indexOf_7cf53_29 {d : Nat} {S : zS} {Q : zR → Prop} : zW d MJ0_indexOf_7cf53 29 S Q = zGo d MJ0_indexOf_7cf53 (.aload 0) z0 30 S Q := zW_step (I := .aload_n 0) rfl S Q
theorem eJ0_indexOf_7cf53_30 {d : Nat} {S : zS} {Q : zR → Prop} : zW d MJ0_indexOf_7cf53 30 S Q = zGo d MJ0_indexOf_7cf53 (.invokevirtual 505) (zc 294 1 200) 33 S Q := zW_step (I := .invokevirtual 505) rfl S Q
theorem eJ0_indexOf_7cf53_36 {d : Nat} {S : zS} {Q : zR → Prop} : zW d MJ0_indexOf_7cf53 36 S Q = zGo d MJ0_indexOf_7cf53 (.ireturn) z0 37 S Q := zW_step (I := .ireturn) rfl S Q
theorem rJ0_indexOf_7cf53 : MJ0_indexOf_7cf53.2.2.2.2.1 = some .int := rfl
theorem eJ0_coder_7d493_0 {d : Nat} {S : zS} {Q : zR → Prop} : zW d MJ0_coder_7d493 0 S Q = zGo d MJ0_coder_7d493 (.getstatic 38) (zv (.int 1)) 3 S Q := zW_step (I := .getstatic 38) rfl S Q
theorem eJ0_coder_7d493_3 {d : Nat} {S : zS} {Q : zR → Prop} : zW d MJ0_coder_7d493 3 S Q = zGo d MJ0_coder_7d493 (.ifCond .eq 10) (zt 13) 6 S Q := zW_step (I := .ifCond .eq 10) rfl S Q
theorem eJ0_coder_7d493_6 {d : Nat} {S : zS} {Q : zR → Prop} : zW d MJ0_coder_7d493 6 S Q = zGo d MJ0_coder_7d493 (.aload 0) z0 7 S Q := zW_step (I := .aload_n 0) rfl S Q
theorem eJ0_coder_7d493_7 {d : Nat} {S : zS} {Q : zR → Prop} : zW d MJ0_coder_7d493 7 S Q = zGo d MJ0_coder_7d493 (.getfield 15) (zf 0 200 1) 10 S Q := zW_step (I := .getfield 15) rfl S Q
theorem eJ0_coder_7d493_10 {d : Nat} {S : zS} {Q : zR → Prop} : zW d MJ0_coder_7d493 10 S Q = zGo d MJ0_coder_7d493 (.goto 4) (zt 14) 13 S Q := zW_step (I := .goto 4) rfl S Q
theorem eJ0_coder_7d493_13 {d : Nat} {S : zS} {Q : zR → Prop} : zW d MJ0_coder_7d493 13 S Q = zGo d MJ0_coder_7d493 (.iconst 1) (zv (.int 1)) 14 S Q := zW_step (I := .iconst 1) rfl S Q
theorem eJ0_coder_7d493_14 {d : Nat} {S : zS} {Q : zR → Prop} : zW d MJ0_coder_7d493 14 S Q = zGo d MJ0_coder_7d493 (.ireturn) z0 15 S Q := zW_step (I := .ireturn) rfl S Q
theorem rJ0_coder_7d493 : MJ0_coder_7d493.2.2.2.2.1 = some .byte := rfl
theorem eJ0_isLatin1_aae02_0 {d : Nat} {S : zS} {Q : zR → Prop} : zW d MJ0_isLatin1_aae02 0 S Q = zGo d MJ0_isLatin1_aae02 (.getstatic 38) (zv (.int 1)) 3 S Q := zW_step (I := .getstatic 38) rfl S Q
theorem eJ0_isLatin1_aae02_3 {d : Nat} {S : zS} {Q : zR → Prop} : zW d MJ0_isLatin1_aae02 3 S Q = zGo d MJ0_isLatin1_aae02 (.ifCond .eq 14) (zt 17) 6 S Q := zW_step (I := .ifCond .eq 14) rfl S Q
theorem eJ0_isLatin1_aae02_6 {d : Nat} {S : zS} {Q : zR → Prop} : zW d MJ0_isLatin1_aae02 6 S Q = zGo d MJ0_isLatin1_aae02 (.aload 0) z0 7 S Q := zW_step (I := .aload_n 0) rfl S Q
theorem eJ0_isLatin1_aae02_7 {d : Nat} {S : zS} {Q : zR → Prop} : zW d MJ0_isLatin1_aae02 7 S Q = zGo d MJ0_isLatin1_aae02 (.getfield 15) (zf 0 200 1) 10 S Q := zW_step (I := .getfield 15) rfl S Q
theorem eJ0_isLatin1_aae02_10 {d : Nat} {S : zS} {Q : zR → Prop} : zW d MJ0_isLatin1_aae02 10 S Q = zGo d MJ0_isLatin1_aae02 (.ifCond .ne 7) (zt 17) 13 S Q := zW_step (I := .ifCond .ne 7) rfl S Q
theorem eJ0_isLatin1_aae02_13 {d : Nat} {S : zS} {Q : zR → Prop} : zW d MJ0_isLatin1_aae02 13 S Q = zGo d MJ0_isLatin1_aae02 (.iconst 1) (zv (.int 1)) 14 S Q := zW_step (I := .iconst 1) rfl S Q
theorem eJ0_isLatin1_aae02_14 {d : Nat} {S : zS} {Q : zR → Prop} : zW d MJ0_isLatin1_aae02 14 S Q = zGo d MJ0_isLatin1_aae02 (.goto 4) (zt 18) 17 S Q := zW_step (I := .goto 4) rfl S Q
theorem eJ0_isLatin1_aae02_17 {d : Nat} {S : zS} {Q : zR → Prop} : zW d MJ0_isLatin1_aae02 17 S Q = zGo d MJ0_isLatin1_aae02 (.iconst 0) (zv (.int 0)) 18 S Q := zW_step (I := .iconst 0) rfl S Q
theorem eJ0_isLatin1_aae02_18 {d : Nat} {S : zS} {Q : zR → Prop} : zW d MJ0_isLatin1_aae02 18 S Q = zGo d MJ0_isLatin1_aae02 (.ireturn) z0 19 S Q := zW_step (I := .ireturn) rfl S Q
theorem rJ0_isLatin1_aae02 : MJ0_isLatin1_aae02.2.2.2.2.1 = some .boolean := rfl
theorem eJ1_canEncode_9a6ad_0 {d : Nat} {S : zS} {Q : zR → Prop} : zW d MJ1_canEncode_9a6ad 0 S Q = zGo d MJ1_canEncode_9a6ad (.iload 0) z0 1 S Q := zW_step (I := .iload_n 0) rfl S Q
theorem eJ1_canEncode_9a6ad_1 {d : Nat} {S : zS} {Q : zR → Prop} : zW d MJ1_canEncode_9a6ad 1 S Q = zGo d MJ1_canEncode_9a6ad (.ifCond .lt 14) (zt 15) 4 S Q := zW_step (I := .ifCond .lt 14) rfl S Q
theorem eJ1_canEncode_9a6ad_4 {d : Nat} {S : zS} {Q : zR → Prop} : zW d MJ1_canEncode_9a6ad 4 S Q = zGo d MJ1_canEncode_9a6ad (.iload 0) z0 5 S Q := zW_step (I := .iload_n 0) rfl S Q
theorem eJ1_canEncode_9a6ad_5 {d : Nat} {S : zS} {Q : zR → Prop} : zW d MJ1_canEncode_9a6ad 5 S Q = zGo d MJ1_canEncode_9a6ad (.sipush 255) (zv (.int 255)) 8 S Q := zW_step (I := .sipush 255) rfl S Q
theorem eJ1_canEncode_9a6ad_8 {d : Nat} {S : zS} {Q : zR → Prop} : zW d MJ1_canEncode_9a6ad 8 S Q = zGo d MJ1_canEncode_9a6ad (.if_icmp .gt 7) (zt 15) 11 S Q := zW_step (I := .if_icmp .gt 7) rfl S Q
theorem eJ1_canEncode_9a6ad_11 {d : Nat} {S : zS} {Q : zR → Prop} : zW d MJ1_canEncode_9a6ad 11 S Q = zGo d MJ1_canEncode_9a6ad (.iconst 1) (zv (.int 1)) 12 S Q := zW_step (I := .iconst 1) rfl S Q
theorem eJ1_canEncode_9a6ad_12 {d : Nat} {S : zS} {Q : zR → Prop} : zW d MJ1_canEncode_9a6ad 12 S Q = zGo d MJ1_canEncode_9a6ad (.goto 4) (zt 16) 15 S Q := zW_step (I := .goto 4) rfl S Q
theorem eJ1_canEncode_9a6ad_15 {d : Nat} {S : zS} {Q : zR → Prop} : zW d MJ1_canEncode_9a6ad 15 S Q = zGo d MJ1_canEncode_9a6ad (.iconst 0) (zv (.int 0)) 16 S Q := zW_step (I := .iconst 0) rfl S Q
theorem eJ1_canEncode_9a6ad_16 {d : Nat} {S : zS} {Q : zR → Prop} : zW d MJ1_canEncode_9a6ad 16 S Q = zGo d MJ1_canEncode_9a6ad (.ireturn) z0 17 S Q := zW_step (I := .ireturn) rfl S Q
theorem rJ1_canEncode_9a6ad : MJ1_canEncode_9a6ad.2.2.2.2.1 = some .boolean := rfl
theorem eJ1_indexOf_4cfef_0 {d : Nat} {S : zS} {Q : zR → Prop} : zW d MJ1_indexOf_4cfef 0 S Q = zGo d MJ1_indexOf_4cfef (.iload 1) z0 1 S Q := zW_step (I := .iload_n 1) rfl S Q
theorem eJ1_indexOf_4cfef_1 {d : Nat} {S : zS} {Q : zR → Prop} : zW d MJ1_indexOf_4cfef 1 S Q = zGo d MJ1_indexOf_4cfef (.invokestatic 88) (zc 301 1 0) 4 S Q := zW_step (I := .invokestatic 88) rfl S Q
theorem eJ1_indexOf_4cfef_4 {d : Nat} {S : zS} {Q : zR → Prop} : zW d MJ1_indexOf_4cfef 4 S Q = zGo d MJ1_indexOf_4cfef (.ifCond .ne 5) (zt 9) 7 S Q := zW_step (I := .ifCond .ne 5) rfl S Q
theorem eJ1_indexOf_4cfef_7 {d : Nat} {S : zS} {Q : zR → Prop} : zW d MJ1_indexOf_4cfef 7 S Q = zGo d MJ1_indexOf_4cfef (.iconst (-1)) (zv (.int (-1))) 8 S Q := zW_step (I := .iconst (-1)) rfl S Q
theorem eJ1_indexOf_4cfef_8 {d : Nat} {S : zS} {Q : zR → Prop} : zW d MJ1_indexOf_4cfef 8 S Q = zGo d MJ1_indexOf_4cfef (.ireturn) z0 9 S Q := zW_step (I := .ireturn) rfl S Q
theorem eJ1_indexOf_4cfef_9 {d : Nat} {S : zS} {Q : zR → Prop} : zW d MJ1_indexOf_4cfef 9 S Q = zGo d MJ1_indexOf_4cfef (.iload 2) z0 10 S Q := zW_step (I := .iload_n 2) rfl S Q
theorem eJ1_indexOf_4cfef_10 {d : Nat} {S : zS} {Q : zR → Prop} : zW d MJ1_indexOf_4cfef 10 S Q = zGo d MJ1_indexOf_4cfef (.iconst 0) (zv (.int 0)) 11 S Q := zW_step (I := .iconst 0) rfl S Q
theorem eJ1_indexOf_4cfef_11 {d : Nat} {S : zS} {Q : zR → Prop} : zW d MJ1_indexOf_4cfef 11 S Q = zGo d MJ1_indexOf_4cfef (.invokestatic 92) (zt 994) 14 S Q := zW_step (I := .invokestatic 92) rfl S Q
theorem eJ1_indexOf_4cfef_14 {d : Nat} {S : zS} {Q : zR → Prop} : zW d MJ1_indexOf_4cfef 14 S Q = zGo d MJ1_indexOf_4cfef (.istore 2) z0 15 S Q := zW_step (I := .istore_n 2) rfl S Q
theorem eJ1_indexOf_4cfef_15 {d : Nat} {S : zS} {Q : zR → Prop} : zW d MJ1_indexOf_4cfef 15 S Q = zGo d MJ1_indexOf_4cfef (.iload 3) z0 16 S Q := zW_step (I := .iload_n 3) rfl S Q
theorem eJ1_indexOf_4cfef_16 {d : Nat} {S : zS} {Q : zR → Prop} : zW d MJ1_indexOf_4cfef 16 S Q = zGo d MJ1_indexOf_4cfef (.aload 0) z0 17 S Q := zW_step (I := .aload_n 0) rfl S Q
theorem eJ1_indexOf_4cfef_17 {d : Nat} {S : zS} {Q : zR → Prop} : zW d MJ1_indexOf_4cfef 17 S Q = zGo d MJ1_indexOf_4cfef (.arraylength) z0 18 S Q := zW_step (I := .arraylength) rfl S Q
theorem eJ1_indexOf_4cfef_18 {d : Nat} {S : zS} {Q : zR → Prop} : zW d MJ1_indexOf_4cfef 18 S Q = zGo d MJ1_indexOf_4cfef (.invokestatic 38) (zt 995) 21 S Q := zW_step (I := .invokestatic 38) rfl S Q
theorem eJ1_indexOf_4cfef_21 {d : Nat} {S : zS} {Q : zR → Prop} : zW d MJ1_indexOf_4cfef 21 S Q = zGo d MJ1_indexOf_4cfef (.istore 3) z0 22 S Q := zW_step (I := .istore_n 3) rfl S Q
theorem eJ1_indexOf_4cfef_22 {d : Nat} {S : zS} {Q : zR → Prop} : zW d MJ1_indexOf_4cfef 22 S Q = zGo d MJ1_indexOf_4cfef (.iload 2) z0 23 S Q := zW_step (I := .iload_n 2) rfl S Q
theorem eJ1_indexOf_4cfef_23 {d : Nat} {S : zS} {Q : zR → Prop} : zW d MJ1_indexOf_4cfef 23 S Q = zGo d MJ1_indexOf_4cfef (.iload 3) z0 24 S Q := zW_step (I := .iload_n 3) rfl S Q
theorem eJ1_indexOf_4cfef_24 {d : Nat} {S : zS} {Q : zR → Prop} : zW d MJ1_indexOf_4cfef 24 S Q = zGo d MJ1_indexOf_4cfef (.if_icmp .lt 5) (zt 29) 27 S Q := zW_step (I := .if_icmp .lt 5) rfl S Q
theorem eJ1_indexOf_4cfef_27 {d : Nat} {S : zS} {Q : zR → Prop} : zW d MJ1_indexOf_4cfef 27 S Q = zGo d MJ1_indexOf_4cfef (.iconst (-1)) (zv (.int (-1))) 28 S Q := zW_step (I := .iconst (-1)) rfl S Q
theorem eJ1_indexOf_4cfef_28 {d : Nat} {S : zS} {Q : zR → Prop} : zW d MJ1_indexOf_4cfef 28 S Q = zGo d MJ1_indexOf_4cfef (.ireturn) z0 29 S Q := zW_step (I := .ireturn) rfl S Q
theorem eJ1_indexOf_4cfef_29 {d : Nat} {S : zS} {Q : zR → Prop} : zW d MJ1_indexOf_4cfef 29 S Q = zGo d MJ1_indexOf_4cfef (.aload 0) z0 30 S Q := zW_step (I := .aload_n 0) rfl S Q
theorem eJ1_indexOf_4cfef_30 {d : Nat} {S : zS} {Q : zR → Prop} : zW d MJ1_indexOf_4cfef 30 S Q = zGo d MJ1_indexOf_4cfef (.iload 1) z0 31 S Q := zW_step (I := .iload_n 1) rfl S Q
theorem eJ1_indexOf_4cfef_31 {d : Nat} {S : zS} {Q : zR → Prop} : zW d MJ1_indexOf_4cfef 31 S Q = zGo d MJ1_indexOf_4cfef (.iload 2) z0 32 S Q := zW_step (I := .iload_n 2) rfl S Q
theorem eJ1_indexOf_4cfef_32 {d : Nat} {S : zS} {Q : zR → Prop} : zW d MJ1_indexOf_4cfef 32 S Q = zGo d MJ1_indexOf_4cfef (.iload 3) z0 33 S Q := zW_step (I := .iload_n 3) rfl S Q
theorem eJ1_indexOf_4cfef_33 {d : Nat} {S : zS} {Q : zR → Prop} : zW d MJ1_indexOf_4cfef 33 S Q = zGo d MJ1_indexOf_4cfef (.invokestatic 95) (zc 303 4 0) 36 S Q := zW_step (I := .invokestatic 95) rfl S Q
theorem eJ1_indexOf_4cfef_36 {d : Nat} {S : zS} {Q : zR → Prop} : zW d MJ1_indexOf_4cfef 36 S Q = zGo d MJ1_indexOf_4cfef (.ireturn) z0 37 S Q := zW_step (I := .ireturn) rfl S Q
theorem rJ1_indexOf_4cfef : MJ1_indexOf_4cfef.2.2.2.2.1 = some .int := rfl
theorem eJ1_indexOfChar_4cfef_0 {d : Nat} {S : zS} {Q : zR → Prop} : zW d MJ1_indexOfChar_4cfef 0 S Q = zGo d MJ1_indexOfChar_4cfef (.iload 1) z0 1 S Q := zW_step (I := .iload_n 1) rfl S Q
theorem eJ1_indexOfChar_4cfef_1 {d : Nat} {S : zS} {Q : zR → Prop} : zW d MJ1_indexOfChar_4cfef 1 S Q = zGo d MJ1_indexOfChar_4cfef (.i2b) z0 2 S Q := zW_step (I := .i2b) rfl S Q
theorem eJ1_indexOfChar_4cfef_2 {d : Nat} {S : zS} {Q : zR → Prop} : zW d MJ1_indexOfChar_4cfef 2 S Q = zGo d MJ1_indexOfChar_4cfef (.istore 4) z0 4 S Q := zW_step (I := .istore 4) rfl S Q
theorem eJ1_indexOfChar_4cfef_4 {d : Nat} {S : zS} {Q : zR → Prop} : zW d MJ1_indexOfChar_4cfef 4 S Q = zGo d MJ1_indexOfChar_4cfef (.iload 2) z0 5 S Q := zW_step (I := .iload_n 2) rfl S Q
theorem eJ1_indexOfChar_4cfef_5 {d : Nat} {S : zS} {Q : zR → Prop} : zW d MJ1_indexOfChar_4cfef 5 S Q = zGo d MJ1_indexOfChar_4cfef (.istore 5) z0 7 S Q := zW_step (I := .istore 5) rfl S Q
theorem eJ1_indexOfChar_4cfef_7 {d : Nat} {S : zS} {Q : zR → Prop} : zW d MJ1_indexOfChar_4cfef 7 S Q = zGo d MJ1_indexOfChar_4cfef (.iload 5) z0 9 S Q := zW_step (I := .iload 5) rfl S Q
theorem eJ1_indexOfChar_4cfef_9 {d : Nat} {S : zS} {Q : zR → Prop} : zW d MJ1_indexOfChar_4cfef 9 S Q = zGo d MJ1_indexOfChar_4cfef (.iload 3) z0 10 S Q := zW_step (I := .iload_n 3) rfl S Q
theorem eJ1_indexOfChar_4cfef_10 {d : Nat} {S : zS} {Q : zR → Prop} : zW d MJ1_indexOfChar_4cfef 10 S Q = zGo d MJ1_indexOfChar_4cfef (.if_icmp .ge 21) (zt 31) 13 S Q := zW_step (I := .if_icmp .ge 21) rfl S Q
theorem eJ1_indexOfChar_4cfef_13 {d : Nat} {S : zS} {Q : zR → Prop} : zW d MJ1_indexOfChar_4cfef 13 S Q = zGo d MJ1_indexOfChar_4cfef (.aload 0) z0 14 S Q := zW_step (I := .aload_n 0) rfl S Q
theorem eJ1_indexOfChar_4cfef_14 {d : Nat} {S : zS} {Q : zR → Prop} : zW d MJ1_indexOfChar_4cfef 14 S Q = zGo d MJ1_indexOfChar_4cfef (.iload 5) z0 16 S Q := zW_step (I := .iload 5) rfl S Q
theorem eJ1_indexOfChar_4cfef_16 {d : Nat} {S : zS} {Q : zR → Prop} : zW d MJ1_indexOfChar_4cfef 16 S Q = zGo d MJ1_indexOfChar_4cfef (.baload) (zb 2) 17 S Q := zW_step (I := .baload) rfl S Q
theorem eJ1_indexOfChar_4cfef_17 {d : Nat} {S : zS} {Q : zR → Prop} : zW d MJ1_indexOfChar_4cfef 17 S Q = zGo d MJ1_indexOfChar_4cfef (.iload 4) z0 19 S Q := zW_step (I := .iload 4) rfl S Q
theorem eJ1_indexOfChar_4cfef_19 {d : Nat} {S : zS} {Q : zR → Prop} : zW d MJ1_indexOfChar_4cfef 19 S Q = zGo d MJ1_indexOfChar_4cfef (.if_icmp .ne 6) (zt 25) 22 S Q := zW_step (I := .if_icmp .ne 6) rfl S Q
theorem eJ1_indexOfChar_4cfef_22 {d : Nat} {S : zS} {Q : zR → Prop} : zW d MJ1_indexOfChar_4cfef 22 S Q = zGo d MJ1_indexOfChar_4cfef (.iload 5) z0 24 S Q := zW_step (I := .iload 5) rfl S Q
theorem eJ1_indexOfChar_4cfef_24 {d : Nat} {S : zS} {Q : zR → Prop} : zW d MJ1_indexOfChar_4cfef 24 S Q = zGo d MJ1_indexOfChar_4cfef (.ireturn) z0 25 S Q := zW_step (I := .ireturn) rfl S Q
theorem eJ1_indexOfChar_4cfef_25 {d : Nat} {S : zS} {Q : zR → Prop} : zW d MJ1_indexOfChar_4cfef 25 S Q = zGo d MJ1_indexOfChar_4cfef (.iinc 5 1) (zv (.int 1)) 28 S Q := zW_step (I := .iinc 5 1) rfl S Q
theorem eJ1_indexOfChar_4cfef_28 {d : Nat} {S : zS} {Q : zR → Prop} : zW d MJ1_indexOfChar_4cfef 28 S Q = zGo d MJ1_indexOfChar_4cfef (.goto (-21)) (zt 7) 31 S Q := zW_step (I := .goto (-21)) rfl S Q
theorem eJ1_indexOfChar_4cfef_31 {d : Nat} {S : zS} {Q : zR → Prop} : zW d MJ1_indexOfChar_4cfef 31 S Q = zGo d MJ1_indexOfChar_4cfef (.iconst (-1)) (zv (.int (-1))) 32 S Q := zW_step (I := .iconst (-1)) rfl S Q
theorem eJ1_indexOfChar_4cfef_32 {d : Nat} {S : zS} {Q : zR → Prop} : zW d MJ1_indexOfChar_4cfef 32 S Q = zGo d MJ1_indexOfChar_4cfef (.ireturn) z0 33 S Q := zW_step (I := .ireturn) rfl S Q
theorem rJ1_indexOfChar_4cfef : MJ1_indexOfChar_4cfef.2.2.2.2.1 = some .int := rfl
def dnV (x a b : Int32) : Int32 := if x = 42 then a * b else if x = 43 then a + b else if x = 45 then a - b else if x = 47 then (if b = 0 then 0 else a / b) else if x = 60 then (if a < b then 1 else 0) else if x = 62 then (if b < a then 1 else 0) else (if a = b then 1 else 0)
def lvV (x : Int32) : Int32 := if x = 60 ∨ x = 61 ∨ x = 62 then 0 else if x = 43 ∨ x = 45 then 1 else if x = 42 ∨ x = 47 then 2 else -1
def ruleAt (h : Nat → zE) (r : Nat) (cd st : Nat → Int32) (sg : Nat → Nat) (sz sp p : Nat) : Prop := r + 3 < 1000 ∧ h r = zO 7 [.ref (r + 1), .ref (r + 2), .ref (r + 3), .int (nI sz), .int (nI sp), .int (nI p)] ∧ h (r + 1) = zI 0 40 cd ∧ h (r + 2) = zI 0 40 st ∧ h (r + 3) = zI 0 40 (fun i => nI (sg i)) ∧ sz ≤ 40 ∧ sp ≤ 40 ∧ p ≤ sp ∧ (∀ i, sg i < 256)
def ruleSet (h : Nat → zE) (r : Nat) (cd st : Nat → Int32) (sg : Nat → Nat) (sz sp p : Nat) : Nat → zE := fun j => if j = r then zO 7 [.ref (r + 1), .ref (r + 2), .ref (r + 3), .int (nI sz), .int (nI sp), .int (nI p)] else if j = r + 1 then zI 0 40 cd else if j = r + 2 then zI 0 40 st else if j = r + 3 then zI 0 40 (fun i => nI (sg i)) else h j
def hereV (sg : Nat → Nat) (sp p : Nat) : Int32 := if p < sp then nI (sg p) else -1
/-- codes, how many -/
def emV (cd : Nat → Int32) (sz : Nat) (x : Int32) : (Nat → Int32) × Nat := if sz < 40 then (upd cd sz x, sz + 1) else (cd, sz)
def idxF (g : Nat → Int32) (x : Int32) : Nat → Nat → Int32
  | 0, _ => -1
  | k + 1, o => if g o = x then nI o else idxF g x k (o + 1)
section RULE
variable {h h' : Nat → zE} {r sz sz' sp sp' p p' : Nat} {cd cd' st st' : Nat → Int32} {sg sg' : Nat → Nat} {d : Nat} {u : zU} {Q : zR → Prop}
theorem ruleSet_at (hr : r + 3 < 1000) (h1 : sz ≤ 40) (h2 : sp ≤ 40) (h3 : p ≤ sp) (h4 : ∀ i, sg i < 256) : ruleAt (ruleSet h r cd st sg sz sp p) r cd st sg sz sp p := by
  refine ⟨hr, ?_, ?_, ?_, ?_, h1, h2, h3, h4⟩ <;> simp [ruleSet]
theorem ruleSet_out {j : Nat} (hj : j < r ∨ r + 3 < j) : ruleSet h r cd st sg sz sp p j = h j := by
  unfold ruleSet
  rw [if_neg (by omega), if_neg (by omega), if_neg (by omega), if_neg (by omega)]
theorem ruleSet_of (ho : ∀ j, j < r ∨ r + 3 < j → h' j = h j) (h0 : h' r = zO 7 [.ref (r + 1), .ref (r + 2), .ref (r + 3), .int (nI sz), .int (nI sp), .int (nI p)]) (h1 : h' (r + 1) = zI 0 40 cd) (h2 : h' (r + 2) = zI 0 40 st) (h3 : h' (r + 3) = zI 0 40 (fun i => nI (sg i))) : h' = ruleSet h r cd st sg sz sp p := by
  funext j
  unfold ruleSet
  by_cases c0 : j = r
  · rw [if_pos c0, c0, h0]
  · rw [if_neg c0]
    by_cases c1 : j = r + 1
    · rw [if_pos c1, c1, h1]
    · rw [if_neg c1]
      by_cases c2 : j = r + 2
      · rw [if_pos c2, c2, h2]
      · rw [if_neg c2]
        by_cases c3 : j = r + 3
        · rw [if_pos c3, c3, h3]
        · rw [if_neg c3]
          exact ho j (by omega)
theorem ruleSet_self (hR : ruleAt h r cd st sg sz sp p) : ruleSet h r cd st sg sz sp p = h := (ruleSet_of (fun _ _ => rfl) hR.2.1 hR.2.2.1 hR.2.2.2.1 hR.2.2.2.2.1).symm
theorem ruleSet_set : ruleSet (ruleSet h r cd st sg sz sp p) r cd' st' sg' sz' sp' p' = ruleSet h r cd' st' sg' sz' sp' p' := by
  funext j
  by_cases c : j < r ∨ r + 3 < j
  · rw [ruleSet_out c, ruleSet_out c, ruleSet_out c]
  · unfold ruleSet
    by_cases c0 : j = r
    · simp [c0]
    · by_cases c1 : j = r + 1
      · simp [c1]
      · by_cases c2 : j = r + 2
        · simp [c2]
        · have c3 : j = r + 3 := by omega
          simp [c3]
theorem rule_up0 (hR : ruleAt h r cd st sg sz sp p) : z_up h r (zO 7 [.ref (r + 1), .ref (r + 2), .ref (r + 3), .int (nI sz'), .int (nI sp'), .int (nI p')]) = ruleSet h r cd st sg sz' sp' p' := by
  obtain ⟨hf, h0, h1, h2, h3, -⟩ := hR
  apply ruleSet_of
  · intro j hj; rw [z_up_n _ _ (by omega)]
  · rw [z_up_s]
  · rw [z_up_n _ _ (by omega)]; exact h1
  · rw [z_up_n _ _ (by omega)]; exact h2
  · rw [z_up_n _ _ (by omega)]; exact h3
theorem rule_up1 (hR : ruleAt h r cd st sg sz sp p) : z_up h (r + 1) (zI 0 40 cd') = ruleSet h r cd' st sg sz sp p := by
  obtain ⟨hf, h0, h1, h2, h3, -⟩ := hR
  apply ruleSet_of
  · intro j hj; rw [z_up_n _ _ (by omega)]
  · rw [z_up_n _ _ (by omega)]; exact h0
  · rw [z_up_s]
  · rw [z_up_n _ _ (by omega)]; exact h2
  · rw [z_up_n _ _ (by omega)]; exact h3
theorem rule_up2 (hR : ruleAt h r cd st sg sz sp p) : z_up h (r + 2) (zI 0 40 st') = ruleSet h r cd st' sg sz sp p := by
  obtain ⟨hf, h0, h1, h2, h3, -⟩ := hR
  apply ruleSet_of
  · intro j hj; rw [z_up_n _ _ (by omega)]
  · rw [z_up_n _ _ (by omega)]; exact h0
  · rw [z_up_n _ _ (by omega)]; exact h1
  · rw [z_up_s]
  · rw [z_up_n _ _ (by omega)]; exact h3
theorem rule_up3 (hR : ruleAt h r cd st sg sz sp p) : z_up h (r + 3) (zI 0 40 (fun i => nI (sg' i))) = ruleSet h r cd st sg' sz sp p := by
  obtain ⟨hf, h0, h1, h2, h3, -⟩ := hR
  apply ruleSet_of
  · intro j hj; rw [z_up_n _ _ (by omega)]
  · rw [z_up_n _ _ (by omega)]; exact h0
  · rw [z_up_n _ _ (by omega)]; exact h1
  · rw [z_up_n _ _ (by omega)]; exact h2
  · rw [z_up_s]
theorem i_lit {x : Int32} (a : Int) (b : Int32) (hb : b.toInt = a) : (x.toInt = a) = (x = b) := by rw [← hb]; exact propext Int32.toInt_inj
theorem c_done {x a b : Int32} : zK (d + 1) 92 [.int x, .int a, .int b] (h, u) Q = Q (some (.int (dnV x a b)), (h, u)) := by
  refine zK_of (k := 1) (by omega) ?_
  refine zK_in (M := MX7_done) rfl (Nat.le_of_ble_eq_true rfl) ?_
  show zW 0 MX7_done 0 ([.int x, .int a, .int b], [], (h, u)) _
  have e42 := i_lit (x := x) 42 42 (by decide)
  have e43 := i_lit (x := x) 43 43 (by decide)
  have e45 := i_lit (x := x) 45 45 (by decide)
  have e47 := i_lit (x := x) 47 47 (by decide)
  have e60 := i_lit (x := x) 60 60 (by decide)
  have e62 := i_lit (x := x) 62 62 (by decide)
  unfold dnV
  simp only [eX7_done_0, eX7_done_1, eX7_done_60, eX7_done_61, eX7_done_62, eX7_done_63, eX7_done_64, eX7_done_65, eX7_done_66, eX7_done_67, eX7_done_68, eX7_done_69, eX7_done_70, eX7_done_71, eX7_done_72, eX7_done_73, eX7_done_76, eX7_done_77, eX7_done_80, eX7_done_81, eX7_done_82, eX7_done_83, eX7_done_84, eX7_done_85, eX7_done_86, eX7_done_89, eX7_done_90, eX7_done_93, eX7_done_94, eX7_done_95, eX7_done_96, eX7_done_97, eX7_done_100, eX7_done_101, eX7_done_104, eX7_done_105, eX7_done_106, eX7_done_107, eX7_done_108, eX7_done_111, eX7_done_112, eX7_done_115, eX7_done_116, rX7_done, zg_goto, zg_iadd, zg_icmp, zg_iconst, zg_idiv, zg_if, zg_iload, zg_imul, zg_ireturn, zg_isub, zg_lsw, q10, q01, q00, ite_self, zLd_i, zLd_l, zLd_a, zInc_i, zGet_o, zGet2_s, zPut_o, zAld_i, zAll_j, zAst_i, zAsl_j, zLen_i, zLen_j, zRt_i, zRt_z, zRl2_l, zRv_n, List.getElem?_cons_zero, List.getElem?_cons_succ, List.length_cons, List.length_nil, z_set, z_set2, z_cut, List.set_cons_zero, List.set_cons_succ, Option.toList_some, Option.toList_none, List.cons_append, List.nil_append, zif, zW_ite, zfit_0, zfit_1, zfit_2, zfit_3, zisc_o, zRt_c, zRt_b, List.map_cons, List.map_nil, List.sum_cons, List.sum_nil, true_and, and_true, if_true, if_false, ite_true, ite_false, Nat.reduceLT, Nat.reduceLeDiff, Nat.reduceAdd, Nat.reduceEqDiff, eq_self, not_true_eq_false, not_false_eq_true, Nat.lt_irrefl, or_true, true_or, or_false, false_or, z_cell_lt, Value.category, zsw, e42, e43, e45, e47, e60, e62]
  repeat' split
  all_goals simp_all
theorem c_lev {x : Int32} : zK (d + 1) 87 [.int x] (h, u) Q = Q (some (.int (lvV x)), (h, u)) := by
  refine zK_of (k := 1) (by omega) ?_
  refine zK_in (M := MX7_levelOf) rfl (Nat.le_of_ble_eq_true rfl) ?_
  show zW 0 MX7_levelOf 0 ([.int x], [], (h, u)) _
  have e42 := i_lit (x := x) 42 42 (by decide)
  have e43 := i_lit (x := x) 43 43 (by decide)
  have e45 := i_lit (x := x) 45 45 (by decide)
  have e47 := i_lit (x := x) 47 47 (by decide)
  have e60 := i_lit (x := x) 60 60 (by decide)
  have e61 := i_lit (x := x) 61 61 (by decide)
  have e62 := i_lit (x := x) 62 62 (by decide)
  unfold lvV
  simp only [eX7_levelOf_0, eX7_levelOf_1, eX7_levelOf_100, eX7_levelOf_101, eX7_levelOf_102, eX7_levelOf_103, eX7_levelOf_104, eX7_levelOf_105, eX7_levelOf_106, eX7_levelOf_107, rX7_levelOf, zg_iconst, zg_iload, zg_ireturn, zg_tsw, q10, q01, q00, ite_self, zLd_i, zLd_l, zLd_a, zInc_i, zGet_o, zGet2_s, zPut_o, zAld_i, zAll_j, zAst_i, zAsl_j, zLen_i, zLen_j, zRt_i, zRt_z, zRl2_l, zRv_n, List.getElem?_cons_zero, List.getElem?_cons_succ, List.length_cons, List.length_nil, z_set, z_set2, z_cut, List.set_cons_zero, List.set_cons_succ, Option.toList_some, Option.toList_none, List.cons_append, List.nil_append, zif, zW_ite, zfit_0, zfit_1, zfit_2, zfit_3, zisc_o, zRt_c, zRt_b, List.map_cons, List.map_nil, List.sum_cons, List.sum_nil, true_and, and_true, if_true, if_false, ite_true, ite_false, Nat.reduceLT, Nat.reduceLeDiff, Nat.reduceAdd, Nat.reduceEqDiff, eq_self, not_true_eq_false, not_false_eq_true, Nat.lt_irrefl, or_true, true_or, or_false, false_or, z_cell_lt, Value.category, zsw, e42, e43, e45, e47, e60, e61, e62]
  by_cases r1 : x = 42
  · subst r1; simp
  by_cases r2 : x = 43
  · subst r2; simp
  by_cases r3 : x = 45
  · subst r3; simp
  by_cases r4 : x = 47
  · subst r4; simp
  by_cases r5 : x = 60
  · subst r5; simp
  by_cases r6 : x = 61
  · subst r6; simp
  by_cases r7 : x = 62
  · subst r7; simp
  simp [r1, r2, r3, r4, r5, r6, r7]
theorem c_here (hR : ruleAt h r cd st sg sz sp p) : zK (d + 1) 85 [.ref r] (h, u) Q = Q (some (.int (hereV sg sp p)), (h, u)) := by
  obtain ⟨hr, h0, h1, h2, h3, b1, b2, b3, b4⟩ := id hR
  have hr0 : r < 1000 := by omega
  have hr3 : r + 3 < 1000 := by omega
  have c1 : (nI p < nI sp) = (p < sp) := nI_ult (by omega) (by omega)
  refine zK_of (k := 1) (by omega) ?_
  refine zK_in (M := MX7_here) rfl (Nat.le_of_ble_eq_true rfl) ?_
  show zW 0 MX7_here 0 ([.ref r], [], (h, u)) _
  unfold hereV
  by_cases c : p < sp
  · have i1 : vp_in (nI p) 40 := vp_in_nI (show p < 40 by omega) (by decide)
    have i2 : (nI p).toNatClampNeg = p := nI_clamp (by omega)
    simp only [eX7_here_0, eX7_here_1, eX7_here_4, eX7_here_5, eX7_here_8, eX7_here_11, eX7_here_12, eX7_here_15, eX7_here_16, eX7_here_19, eX7_here_20, eX7_here_23, eX7_here_24, rX7_here, zg_aload, zg_getfield, zg_goto, zg_iaload, zg_icmp, zg_iconst, zg_ireturn, q10, q01, q00, ite_self, zLd_i, zLd_l, zLd_a, zInc_i, zGet_o, zGet2_s, zPut_o, zAld_i, zAll_j, zAst_i, zAsl_j, zLen_i, zLen_j, zRt_i, zRt_z, zRl2_l, zRv_n, List.getElem?_cons_zero, List.getElem?_cons_succ, List.length_cons, List.length_nil, z_set, z_set2, z_cut, List.set_cons_zero, List.set_cons_succ, Option.toList_some, Option.toList_none, List.cons_append, List.nil_append, zif, zW_ite, zfit_0, zfit_1, zfit_2, zfit_3, zisc_o, zRt_c, zRt_b, List.map_cons, List.map_nil, List.sum_cons, List.sum_nil, true_and, and_true, if_true, if_false, ite_true, ite_false, Nat.reduceLT, Nat.reduceLeDiff, Nat.reduceAdd, Nat.reduceEqDiff, eq_self, not_true_eq_false, not_false_eq_true, Nat.lt_irrefl, or_true, true_or, or_false, false_or, z_cell_lt, Value.category, h0, h3, hr0, hr3, c1, c, i1, i2]
  · simp only [eX7_here_0, eX7_here_1, eX7_here_4, eX7_here_5, eX7_here_8, eX7_here_11, eX7_here_12, eX7_here_15, eX7_here_16, eX7_here_19, eX7_here_20, eX7_here_23, eX7_here_24, rX7_here, zg_aload, zg_getfield, zg_goto, zg_iaload, zg_icmp, zg_iconst, zg_ireturn, q10, q01, q00, ite_self, zLd_i, zLd_l, zLd_a, zInc_i, zGet_o, zGet2_s, zPut_o, zAld_i, zAll_j, zAst_i, zAsl_j, zLen_i, zLen_j, zRt_i, zRt_z, zRl2_l, zRv_n, List.getElem?_cons_zero, List.getElem?_cons_succ, List.length_cons, List.length_nil, z_set, z_set2, z_cut, List.set_cons_zero, List.set_cons_succ, Option.toList_some, Option.toList_none, List.cons_append, List.nil_append, zif, zW_ite, zfit_0, zfit_1, zfit_2, zfit_3, zisc_o, zRt_c, zRt_b, List.map_cons, List.map_nil, List.sum_cons, List.sum_nil, true_and, and_true, if_true, if_false, ite_true, ite_false, Nat.reduceLT, Nat.reduceLeDiff, Nat.reduceAdd, Nat.reduceEqDiff, eq_self, not_true_eq_false, not_false_eq_true, Nat.lt_irrefl, or_true, true_or, or_false, false_or, z_cell_lt, Value.category, h0, h3, hr0, hr3, c1, c]
theorem c_emit (hR : ruleAt h r cd st sg sz sp p) {x : Int32} : zK (d + 1) 84 [.ref r, .int x] (h, u) Q = Q (none, (ruleSet h r (emV cd sz x).1 st sg (emV cd sz x).2 sp p, u)) := by
  obtain ⟨hr, h0, h1, h2, h3, b1, b2, b3, b4⟩ := id hR
  have hr0 : r < 1000 := by omega
  have hr1 : r + 1 < 1000 := by omega
  have c1 : (nI sz < nI 40) = (sz < 40) := nI_ult (by omega) (by omega)
  refine zK_of (k := 1) (by omega) ?_
  refine zK_in (M := MX7_emit) rfl (Nat.le_of_ble_eq_true rfl) ?_
  show zW 0 MX7_emit 0 ([.ref r, .int x], [], (h, u)) _
  unfold emV
  by_cases c : sz < 40
  · have i1 : vp_in (nI sz) 40 := vp_in_nI (show sz < 40 by omega) (by decide)
    have i2 : (nI sz).toNatClampNeg = sz := nI_clamp (by omega)
    have s0 : ∀ cd', ruleSet h r cd' st sg sz sp p r = zO 7 [.ref (r + 1), .ref (r + 2), .ref (r + 3), .int (nI sz), .int (nI sp), .int (nI p)] := fun cd' => by simp [ruleSet]
    have k1 := rule_up1 hR (cd' := upd cd sz x)
    have k2 := rule_up0 (ruleSet_at (h := h) (cd := upd cd sz x) (st := st) (sg := sg) hr b1 b2 b3 b4) (sz' := sz + 1) (sp' := sp) (p' := p)
    rw [ruleSet_set] at k2
    simp only [eX7_emit_0, eX7_emit_1, eX7_emit_4, eX7_emit_5, eX7_emit_8, eX7_emit_9, eX7_emit_12, eX7_emit_13, eX7_emit_16, eX7_emit_17, eX7_emit_20, eX7_emit_21, eX7_emit_22, eX7_emit_23, eX7_emit_24, eX7_emit_27, eX7_emit_28, eX7_emit_29, eX7_emit_32, rX7_emit, zg_aload, zg_arraylength, zg_dup, zg_getfield, zg_iadd, zg_iastore, zg_icmp, zg_iconst, zg_iload, zg_putfield, zg_return, q10, q01, q00, ite_self, zLd_i, zLd_l, zLd_a, zInc_i, zGet_o, zGet2_s, zPut_o, zAld_i, zAll_j, zAst_i, zAsl_j, zLen_i, zLen_j, zRt_i, zRt_z, zRl2_l, zRv_n, List.getElem?_cons_zero, List.getElem?_cons_succ, List.length_cons, List.length_nil, z_set, z_set2, z_cut, List.set_cons_zero, List.set_cons_succ, Option.toList_some, Option.toList_none, List.cons_append, List.nil_append, zif, zW_ite, zfit_0, zfit_1, zfit_2, zfit_3, zisc_o, zRt_c, zRt_b, List.map_cons, List.map_nil, List.sum_cons, List.sum_nil, true_and, and_true, if_true, if_false, ite_true, ite_false, Nat.reduceLT, Nat.reduceLeDiff, Nat.reduceAdd, Nat.reduceEqDiff, eq_self, not_true_eq_false, not_false_eq_true, Nat.lt_irrefl, or_true, true_or, or_false, false_or, z_cell_lt, Value.category, h0, h1, hr0, hr1, c1, c, i1, i2, k1, s0, nI_1, k2]
  · simp only [eX7_emit_0, eX7_emit_1, eX7_emit_4, eX7_emit_5, eX7_emit_8, eX7_emit_9, eX7_emit_12, eX7_emit_13, eX7_emit_16, eX7_emit_17, eX7_emit_20, eX7_emit_21, eX7_emit_22, eX7_emit_23, eX7_emit_24, eX7_emit_27, eX7_emit_28, eX7_emit_29, eX7_emit_32, rX7_emit, zg_aload, zg_arraylength, zg_dup, zg_getfield, zg_iadd, zg_iastore, zg_icmp, zg_iconst, zg_iload, zg_putfield, zg_return, q10, q01, q00, ite_self, zLd_i, zLd_l, zLd_a, zInc_i, zGet_o, zGet2_s, zPut_o, zAld_i, zAll_j, zAst_i, zAsl_j, zLen_i, zLen_j, zRt_i, zRt_z, zRl2_l, zRv_n, List.getElem?_cons_zero, List.getElem?_cons_succ, List.length_cons, List.length_nil, z_set, z_set2, z_cut, List.set_cons_zero, List.set_cons_succ, Option.toList_some, Option.toList_none, List.cons_append, List.nil_append, zif, zW_ite, zfit_0, zfit_1, zfit_2, zfit_3, zisc_o, zRt_c, zRt_b, List.map_cons, List.map_nil, List.sum_cons, List.sum_nil, true_and, and_true, if_true, if_false, ite_true, ite_false, Nat.reduceLT, Nat.reduceLeDiff, Nat.reduceAdd, Nat.reduceEqDiff, eq_self, not_true_eq_false, not_false_eq_true, Nat.lt_irrefl, or_true, true_or, or_false, false_or, z_cell_lt, Value.category, h0, h1, hr0, hr1, c1, c]
    rw [ruleSet_self hR]
end RULE

