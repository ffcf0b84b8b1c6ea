/-! where a sign stands in a word; reading a rule -/
theorem eX7_readThing_0 {d : Nat} {S : zS} {Q : zR → Prop} : zW d MX7_readThing 0 S Q = zGo d MX7_readThing (.aload 0) z0 1 S Q := zW_step (I := .aload_n 0) rfl S Q
theorem eX7_readThing_1 {d : Nat} {S : zS} {Q : zR → Prop} : zW d MX7_readThing 1 S Q = zGo d MX7_readThing (.invokevirtual 59) (zc 85 1 7) 4 S Q := zW_step (I := .invokevirtual 59) rfl S Q
theorem eX7_readThing_4 {d : Nat} {S : zS} {Q : zR → Prop} : zW d MX7_readThing 4 S Q = zGo d MX7_readThing (.istore 2) z0 5 S Q := zW_step (I := .istore_n 2) rfl S Q
theorem eX7_readThing_5 {d : Nat} {S : zS} {Q : zR → Prop} : zW d MX7_readThing 5 S Q = zGo d MX7_readThing (.iload 2) z0 6 S Q := zW_step (I := .iload_n 2) rfl S Q
theorem eX7_readThing_6 {d : Nat} {S : zS} {Q : zR → Prop} : zW d MX7_readThing 6 S Q = zGo d MX7_readThing (.bipush 40) (zv (.int 40)) 8 S Q := zW_step (I := .bipush 40) rfl S Q
theorem eX7_readThing_8 {d : Nat} {S : zS} {Q : zR → Prop} : zW d MX7_readThing 8 S Q = zGo d MX7_readThing (.if_icmp .ne 60) (zt 68) 11 S Q := zW_step (I := .if_icmp .ne 60) rfl S Q
theorem eX7_readThing_11 {d : Nat} {S : zS} {Q : zR → Prop} : zW d MX7_readThing 11 S Q = zGo d MX7_readThing (.iload 1) z0 12 S Q := zW_step (I := .iload_n 1) rfl S Q
theorem eX7_readThing_12 {d : Nat} {S : zS} {Q : zR → Prop} : zW d MX7_readThing 12 S Q = zGo d MX7_readThing (.iconst 4) (zv (.int 4)) 13 S Q := zW_step (I := .iconst 4) rfl S Q
theorem eX7_readThing_13 {d : Nat} {S : zS} {Q : zR → Prop} : zW d MX7_readThing 13 S Q = zGo d MX7_readThing (.if_icmp .ge 55) (zt 68) 16 S Q := zW_step (I := .if_icmp .ge 55) rfl S Q
theorem eX7_readThing_16 {d : Nat} {S : zS} {Q : zR → Prop} : zW d MX7_readThing 16 S Q = zGo d MX7_readThing (.aload 0) z0 17 S Q := zW_step (I := .aload_n 0) rfl S Q
theorem eX7_readThing_17 {d : Nat} {S : zS} {Q : zR → Prop} : zW d MX7_readThing 17 S Q = zGo d MX7_readThing (.dup) z0 18 S Q := zW_step (I := .dup) rfl S Q
theorem eX7_readThing_18 {d : Nat} {S : zS} {Q : zR → Prop} : zW d MX7_readThing 18 S Q = zGo d MX7_readThing (.getfield 46) (zf 0 7 5) 21 S Q := zW_step (I := .getfield 46) rfl S Q
theorem eX7_readThing_21 {d : Nat} {S : zS} {Q : zR → Prop} : zW d MX7_readThing 21 S Q = zGo d MX7_readThing (.iconst 1) (zv (.int 1)) 22 S Q := zW_step (I := .iconst 1) rfl S Q
theorem eX7_readThing_22 {d : Nat} {S : zS} {Q : zR → Prop} : zW d MX7_readThing 22 S Q = zGo d MX7_readThing (.iadd) z0 23 S Q := zW_step (I := .iadd) rfl S Q
theorem eX7_readThing_23 {d : Nat} {S : zS} {Q : zR → Prop} : zW d MX7_readThing 23 S Q = zGo d MX7_readThing (.putfield 46) (zf 0 7 5) 26 S Q := zW_step (I := .putfield 46) rfl S Q
theorem eX7_readThing_26 {d : Nat} {S : zS} {Q : zR → Prop} : zW d MX7_readThing 26 S Q = zGo d MX7_readThing (.aload 0) z0 27 S Q := zW_step (I := .aload_n 0) rfl S Q
theorem eX7_readThing_27 {d : Nat} {S : zS} {Q : zR → Prop} : zW d MX7_readThing 27 S Q = zGo d MX7_readThing (.iconst 0) (zv (.int 0)) 28 S Q := zW_step (I := .iconst 0) rfl S Q
theorem eX7_readThing_28 {d : Nat} {S : zS} {Q : zR → Prop} : zW d MX7_readThing 28 S Q = zGo d MX7_readThing (.iload 1) z0 29 S Q := zW_step (I := .iload_n 1) rfl S Q
theorem eX7_readThing_29 {d : Nat} {S : zS} {Q : zR → Prop} : zW d MX7_readThing 29 S Q = zGo d MX7_readThing (.iconst 1) (zv (.int 1)) 30 S Q := zW_step (I := .iconst 1) rfl S Q
theorem eX7_readThing_30 {d : Nat} {S : zS} {Q : zR → Prop} : zW d MX7_readThing 30 S Q = zGo d MX7_readThing (.iadd) z0 31 S Q := zW_step (I := .iadd) rfl S Q
theorem eX7_readThing_31 {d : Nat} {S : zS} {Q : zR → Prop} : zW d MX7_readThing 31 S Q = zGo d MX7_readThing (.invokevirtual 52) (zc 86 3 7) 34 S Q := zW_step (I := .invokevirtual 52) rfl S Q
theorem eX7_readThing_34 {d : Nat} {S : zS} {Q : zR → Prop} : zW d MX7_readThing 34 S Q = zGo d MX7_readThing (.ifCond .eq 16) (zt 50) 37 S Q := zW_step (I := .ifCond .eq 16) rfl S Q
theorem eX7_readThing_37 {d : Nat} {S : zS} {Q : zR → Prop} : zW d MX7_readThing 37 S Q = zGo d MX7_readThing (.aload 0) z0 38 S Q := zW_step (I := .aload_n 0) rfl S Q
theorem eX7_readThing_38 {d : Nat} {S : zS} {Q : zR → Prop} : zW d MX7_readThing 38 S Q = zGo d MX7_readThing (.invokevirtual 59) (zc 85 1 7) 41 S Q := zW_step (I := .invokevirtual 59) rfl S Q
theorem eX7_readThing_41 {d : Nat} {S : zS} {Q : zR → Prop} : zW d MX7_readThing 41 S Q = zGo d MX7_readThing (.bipush 41) (zv (.int 41)) 43 S Q := zW_step (I := .bipush 41) rfl S Q
theorem eX7_readThing_43 {d : Nat} {S : zS} {Q : zR → Prop} : zW d MX7_readThing 43 S Q = zGo d MX7_readThing (.if_icmp .ne 7) (zt 50) 46 S Q := zW_step (I := .if_icmp .ne 7) rfl S Q
theorem eX7_readThing_46 {d : Nat} {S : zS} {Q : zR → Prop} : zW d MX7_readThing 46 S Q = zGo d MX7_readThing (.iconst 1) (zv (.int 1)) 47 S Q := zW_step (I := .iconst 1) rfl S Q
theorem eX7_readThing_47 {d : Nat} {S : zS} {Q : zR → Prop} : zW d MX7_readThing 47 S Q = zGo d MX7_readThing (.goto 4) (zt 51) 50 S Q := zW_step (I := .goto 4) rfl S Q
theorem eX7_readThing_50 {d : Nat} {S : zS} {Q : zR → Prop} : zW d MX7_readThing 50 S Q = zGo d MX7_readThing (.iconst 0) (zv (.int 0)) 51 S Q := zW_step (I := .iconst 0) rfl S Q
theorem eX7_readThing_51 {d : Nat} {S : zS} {Q : zR → Prop} : zW d MX7_readThing 51 S Q = zGo d MX7_readThing (.istore 3) z0 52 S Q := zW_step (I := .istore_n 3) rfl S Q
theorem eX7_readThing_52 {d : Nat} {S : zS} {Q : zR → Prop} : zW d MX7_readThing 52 S Q = zGo d MX7_readThing (.iload 3) z0 53 S Q := zW_step (I := .iload_n 3) rfl S Q
theorem eX7_readThing_53 {d : Nat} {S : zS} {Q : zR → Prop} : zW d MX7_readThing 53 S Q = zGo d MX7_readThing (.ifCond .eq 13) (zt 66) 56 S Q := zW_step (I := .ifCond .eq 13) rfl S Q
theorem eX7_readThing_56 {d : Nat} {S : zS} {Q : zR → Prop} : zW d MX7_readThing 56 S Q = zGo d MX7_readThing (.aload 0) z0 57 S Q := zW_step (I := .aload_n 0) rfl S Q
theorem eX7_readThing_57 {d : Nat} {S : zS} {Q : zR → Prop} : zW d MX7_readThing 57 S Q = zGo d MX7_readThing (.dup) z0 58 S Q := zW_step (I := .dup) rfl S Q
theorem eX7_readThing_58 {d : Nat} {S : zS} {Q : zR → Prop} : zW d MX7_readThing 58 S Q = zGo d MX7_readThing (.getfield 46) (zf 0 7 5) 61 S Q := zW_step (I := .getfield 46) rfl S Q
theorem eX7_readThing_61 {d : Nat} {S : zS} {Q : zR → Prop} : zW d MX7_readThing 61 S Q = zGo d MX7_readThing (.iconst 1) (zv (.int 1)) 62 S Q := zW_step (I := .iconst 1) rfl S Q
theorem eX7_readThing_62 {d : Nat} {S : zS} {Q : zR → Prop} : zW d MX7_readThing 62 S Q = zGo d MX7_readThing (.iadd) z0 63 S Q := zW_step (I := .iadd) rfl S Q
theorem eX7_readThing_63 {d : Nat} {S : zS} {Q : zR → Prop} : zW d MX7_readThing 63 S Q = zGo d MX7_readThing (.putfield 46) (zf 0 7 5) 66 S Q := zW_step (I := .putfield 46) rfl S Q
theorem eX7_readThing_66 {d : Nat} {S : zS} {Q : zR → Prop} : zW d MX7_readThing 66 S Q = zGo d MX7_readThing (.iload 3) z0 67 S Q := zW_step (I := .iload_n 3) rfl S Q
theorem eX7_readThing_67 {d : Nat} {S : zS} {Q : zR → Prop} : zW d MX7_readThing 67 S Q = zGo d MX7_readThing (.ireturn) z0 68 S Q := zW_step (I := .ireturn) rfl S Q
theorem eX7_readThing_68 {d : Nat} {S : zS} {Q : zR → Prop} : zW d MX7_readThing 68 S Q = zGo d MX7_readThing (.iload 2) z0 69 S Q := zW_step (I := .iload_n 2) rfl S Q
theorem eX7_readThing_69 {d : Nat} {S : zS} {Q : zR → Prop} : zW d MX7_readThing 69 S Q = zGo d MX7_readThing (.bipush 48) (zv (.int 48)) 71 S Q := zW_step (I := .bipush 48) rfl S Q
theorem eX7_readThing_71 {d : Nat} {S : zS} {Q : zR → Prop} : zW d MX7_readThing 71 S Q = zGo d MX7_readThing (.if_icmp .lt 15) (zt 86) 74 S Q := zW_step (I := .if_icmp .lt 15) rfl S Q
theorem eX7_readThing_74 {d : Nat} {S : zS} {Q : zR → Prop} : zW d MX7_readThing 74 S Q = zGo d MX7_readThing (.iload 2) z0 75 S Q := zW_step (I := .iload_n 2) rfl S Q
theorem eX7_readThing_75 {d : Nat} {S : zS} {Q : zR → Prop} : zW d MX7_readThing 75 S Q = zGo d MX7_readThing (.bipush 57) (zv (.int 57)) 77 S Q := zW_step (I := .bipush 57) rfl S Q
theorem eX7_readThing_77 {d : Nat} {S : zS} {Q : zR → Prop} : zW d MX7_readThing 77 S Q = zGo d MX7_readThing (.if_icmp .gt 9) (zt 86) 80 S Q := zW_step (I := .if_icmp .gt 9) rfl S Q
theorem eX7_readThing_80 {d : Nat} {S : zS} {Q : zR → Prop} : zW d MX7_readThing 80 S Q = zGo d MX7_readThing (.aload 0) z0 81 S Q := zW_step (I := .aload_n 0) rfl S Q
theorem eX7_readThing_81 {d : Nat} {S : zS} {Q : zR → Prop} : zW d MX7_readThing 81 S Q = zGo d MX7_readThing (.invokevirtual 70) (zc 90 1 7) 84 S Q := zW_step (I := .invokevirtual 70) rfl S Q
theorem eX7_readThing_84 {d : Nat} {S : zS} {Q : zR → Prop} : zW d MX7_readThing 84 S Q = zGo d MX7_readThing (.iconst 1) (zv (.int 1)) 85 S Q := zW_step (I := .iconst 1) rfl S Q
theorem eX7_readThing_85 {d : Nat} {S : zS} {Q : zR → Prop} : zW d MX7_readThing 85 S Q = zGo d MX7_readThing (.ireturn) z0 86 S Q := zW_step (I := .ireturn) rfl S Q
theorem eX7_readThing_86 {d : Nat} {S : zS} {Q : zR → Prop} : zW d MX7_readThing 86 S Q = zGo d MX7_readThing (.iload 2) z0 87 S Q := zW_step (I := .iload_n 2) rfl S Q
theorem eX7_readThing_87 {d : Nat} {S : zS} {Q : zR → Prop} : zW d MX7_readThing 87 S Q = zGo d MX7_readThing (.ifCond .ge 7) (zt 94) 90 S Q := zW_step (I := .ifCond .ge 7) rfl S Q
theorem eX7_readThing_90 {d : Nat} {S : zS} {Q : zR → Prop} : zW d MX7_readThing 90 S Q = zGo d MX7_readThing (.iconst (-1)) (zv (.int (-1))) 91 S Q := zW_step (I := .iconst (-1)) rfl S Q
theorem eX7_readThing_91 {d : Nat} {S : zS} {Q : zR → Prop} : zW d MX7_readThing 91 S Q = zGo d MX7_readThing (.goto 10) (zt 101) 94 S Q := zW_step (I := .goto 10) rfl S Q
theorem eX7_readThing_94 {d : Nat} {S : zS} {Q : zR → Prop} : zW d MX7_readThing 94 S Q = zGo d MX7_readThing (.ldc 73) (zv (.ref 1001)) 96 S Q := zW_step (I := .ldc 73) rfl S Q
theorem eX7_readThing_96 {d : Nat} {S : zS} {Q : zR → Prop} : zW d MX7_readThing 96 S Q = zGo d MX7_readThing (.iload 2) z0 97 S Q := zW_step (I := .iload_n 2) rfl S Q
theorem eX7_readThing_97 {d : Nat} {S : zS} {Q : zR → Prop} : zW d MX7_readThing 97 S Q = zGo d MX7_readThing (.i2c) z0 98 S Q := zW_step (I := .i2c) rfl S Q
theorem eX7_readThing_98 {d : Nat} {S : zS} {Q : zR → Prop} : zW d MX7_readThing 98 S Q = zGo d MX7_readThing (.invokevirtual 75) (zc 296 2 200) 101 S Q := zW_step (I := .invokevirtual 75) rfl S Q
theorem eX7_readThing_101 {d : Nat} {S : zS} {Q : zR → Prop} : zW d MX7_readThing 101 S Q = zGo d MX7_readThing (.istore 3) z0 102 S Q := zW_step (I := .istore_n 3) rfl S Q
theorem eX7_readThing_102 {d : Nat} {S : zS} {Q : zR → Prop} : zW d MX7_readThing 102 S Q = zGo d MX7_readThing (.iload 3) z0 103 S Q := zW_step (I := .iload_n 3) rfl S Q
theorem eX7_readThing_103 {d : Nat} {S : zS} {Q : zR → Prop} : zW d MX7_readThing 103 S Q = zGo d MX7_readThing (.ifCond .ge 5) (zt 108) 106 S Q := zW_step (I := .ifCond .ge 5) rfl S Q
theorem eX7_readThing_106 {d : Nat} {S : zS} {Q : zR → Prop} : zW d MX7_readThing 106 S Q = zGo d MX7_readThing (.iconst 0) (zv (.int 0)) 107 S Q := zW_step (I := .iconst 0) rfl S Q
theorem eX7_readThing_107 {d : Nat} {S : zS} {Q : zR → Prop} : zW d MX7_readThing 107 S Q = zGo d MX7_readThing (.ireturn) z0 108 S Q := zW_step (I := .ireturn) rfl S Q
theorem eX7_readThing_108 {d : Nat} {S : zS} {Q : zR → Prop} : zW d MX7_readThing 108 S Q = zGo d MX7_readThing (.aload 0) z0 109 S Q := zW_step (I := .aload_n 0) rfl S Q
theorem eX7_readThing_109 {d : Nat} {S : zS} {Q : zR → Prop} : zW d MX7_readThing 109 S Q = zGo d MX7_readThing (.sipush 1000) (zv (.int 1000)) 112 S Q := zW_step (I := .sipush 1000) rfl S Q
theorem eX7_readThing_112 {d : Nat} {S : zS} {Q : zR → Prop} : zW d MX7_readThing 112 S Q = zGo d MX7_readThing (.iload 3) z0 113 S Q := zW_step (I := .iload_n 3) rfl S Q
theorem eX7_readThing_113 {d : Nat} {S : zS} {Q : zR → Prop} : zW d MX7_readThing 113 S Q = zGo d MX7_readThing (.iadd) z0 114 S Q := zW_step (I := .iadd) rfl S Q
theorem eX7_readThing_114 {d : Nat} {S : zS} {Q : zR → Prop} : zW d MX7_readThing 114 S Q = zGo d MX7_readThing (.invokevirtual 48) (zc 84 2 7) 117 S Q := zW_step (I := .invokevirtual 48) rfl S Q
theorem eX7_readThing_117 {d : Nat} {S : zS} {Q : zR → Prop} : zW d MX7_readThing 117 S Q = zGo d MX7_readThing (.aload 0) z0 118 S Q := zW_step (I := .aload_n 0) rfl S Q
theorem eX7_readThing_118 {d : Nat} {S : zS} {Q : zR → Prop} : zW d MX7_readThing 118 S Q = zGo d MX7_readThing (.dup) z0 119 S Q := zW_step (I := .dup) rfl S Q
theorem eX7_readThing_119 {d : Nat} {S : zS} {Q : zR → Prop} : zW d MX7_readThing 119 S Q = zGo d MX7_readThing (.getfield 46) (zf 0 7 5) 122 S Q := zW_step (I := .getfield 46) rfl S Q
theorem eX7_readThing_122 {d : Nat} {S : zS} {Q : zR → Prop} : zW d MX7_readThing 122 S Q = zGo d MX7_readThing (.iconst 1) (zv (.int 1)) 123 S Q := zW_step (I := .iconst 1) rfl S Q
theorem eX7_readThing_123 {d : Nat} {S : zS} {Q : zR → Prop} : zW d MX7_readThing 123 S Q = zGo d MX7_readThing (.iadd) z0 124 S Q := zW_step (I := .iadd) rfl S Q
theorem eX7_readThing_124 {d : Nat} {S : zS} {Q : zR → Prop} : zW d MX7_readThing 124 S Q = zGo d MX7_readThing (.putfield 46) (zf 0 7 5) 127 S Q := zW_step (I := .putfield 46) rfl S Q
theorem eX7_readThing_127 {d : Nat} {S : zS} {Q : zR → Prop} : zW d MX7_readThing 127 S Q = zGo d MX7_readThing (.iconst 1) (zv (.int 1)) 128 S Q := zW_step (I := .iconst 1) rfl S Q
theorem eX7_readThing_128 {d : Nat} {S : zS} {Q : zR → Prop} : zW d MX7_readThing 128 S Q = zGo d MX7_readThing (.ireturn) z0 129 S Q := zW_step (I := .ireturn) rfl S Q
theorem rX7_readThing : MX7_readThing.2.2.2.2.1 = some .boolean := rfl
theorem eX7_readWithin_0 {d : Nat} {S : zS} {Q : zR → Prop} : zW d MX7_readWithin 0 S Q = zGo d MX7_readWithin (.iload 1) z0 1 S Q := zW_step (I := .iload_n 1) rfl S Q
theorem eX7_readWithin_1 {d : Nat} {S : zS} {Q : zR → Prop} : zW d MX7_readWithin 1 S Q = zGo d MX7_readWithin (.iconst 2) (zv (.int 2)) 2 S Q := zW_step (I := .iconst 2) rfl S Q
theorem eX7_readWithin_2 {d : Nat} {S : zS} {Q : zR → Prop} : zW d MX7_readWithin 2 S Q = zGo d MX7_readWithin (.if_icmp .ge 12) (zt 14) 5 S Q := zW_step (I := .if_icmp .ge 12) rfl S Q
theorem eX7_readWithin_5 {d : Nat} {S : zS} {Q : zR → Prop} : zW d MX7_readWithin 5 S Q = zGo d MX7_readWithin (.aload 0) z0 6 S Q := zW_step (I := .aload_n 0) rfl S Q
theorem eX7_readWithin_6 {d : Nat} {S : zS} {Q : zR → Prop} : zW d MX7_readWithin 6 S Q = zGo d MX7_readWithin (.iload 1) z0 7 S Q := zW_step (I := .iload_n 1) rfl S Q
theorem eX7_readWithin_7 {d : Nat} {S : zS} {Q : zR → Prop} : zW d MX7_readWithin 7 S Q = zGo d MX7_readWithin (.iconst 1) (zv (.int 1)) 8 S Q := zW_step (I := .iconst 1) rfl S Q
theorem eX7_readWithin_8 {d : Nat} {S : zS} {Q : zR → Prop} : zW d MX7_readWithin 8 S Q = zGo d MX7_readWithin (.iadd) z0 9 S Q := zW_step (I := .iadd) rfl S Q
theorem eX7_readWithin_9 {d : Nat} {S : zS} {Q : zR → Prop} : zW d MX7_readWithin 9 S Q = zGo d MX7_readWithin (.iload 2) z0 10 S Q := zW_step (I := .iload_n 2) rfl S Q
theorem eX7_readWithin_10 {d : Nat} {S : zS} {Q : zR → Prop} : zW d MX7_readWithin 10 S Q = zGo d MX7_readWithin (.invokevirtual 52) (zc 86 3 7) 13 S Q := zW_step (I := .invokevirtual 52) rfl S Q
theorem eX7_readWithin_13 {d : Nat} {S : zS} {Q : zR → Prop} : zW d MX7_readWithin 13 S Q = zGo d MX7_readWithin (.ireturn) z0 14 S Q := zW_step (I := .ireturn) rfl S Q
theorem eX7_readWithin_14 {d : Nat} {S : zS} {Q : zR → Prop} : zW d MX7_readWithin 14 S Q = zGo d MX7_readWithin (.iconst 0) (zv (.int 0)) 15 S Q := zW_step (I := .iconst 0) rfl S Q
theorem eX7_readWithin_15 {d : Nat} {S : zS} {Q : zR → Prop} : zW d MX7_readWithin 15 S Q = zGo d MX7_readWithin (.istore 3) z0 16 S Q := zW_step (I := .istore_n 3) rfl S Q
theorem eX7_readWithin_16 {d : Nat} {S : zS} {Q : zR → Prop} : zW d MX7_readWithin 16 S Q = zGo d MX7_readWithin (.iconst 0) (zv (.int 0)) 17 S Q := zW_step (I := .iconst 0) rfl S Q
theorem eX7_readWithin_17 {d : Nat} {S : zS} {Q : zR → Prop} : zW d MX7_readWithin 17 S Q = zGo d MX7_readWithin (.istore 4) z0 19 S Q := zW_step (I := .istore 4) rfl S Q
theorem eX7_readWithin_19 {d : Nat} {S : zS} {Q : zR → Prop} : zW d MX7_readWithin 19 S Q = zGo d MX7_readWithin (.iload 4) z0 21 S Q := zW_step (I := .iload 4) rfl S Q
theorem eX7_readWithin_21 {d : Nat} {S : zS} {Q : zR → Prop} : zW d MX7_readWithin 21 S Q = zGo d MX7_readWithin (.bipush 40) (zv (.int 40)) 23 S Q := zW_step (I := .bipush 40) rfl S Q
theorem eX7_readWithin_23 {d : Nat} {S : zS} {Q : zR → Prop} : zW d MX7_readWithin 23 S Q = zGo d MX7_readWithin (.if_icmp .ge 38) (zt 61) 26 S Q := zW_step (I := .if_icmp .ge 38) rfl S Q
theorem eX7_readWithin_26 {d : Nat} {S : zS} {Q : zR → Prop} : zW d MX7_readWithin 26 S Q = zGo d MX7_readWithin (.aload 0) z0 27 S Q := zW_step (I := .aload_n 0) rfl S Q
theorem eX7_readWithin_27 {d : Nat} {S : zS} {Q : zR → Prop} : zW d MX7_readWithin 27 S Q = zGo d MX7_readWithin (.invokevirtual 59) (zc 85 1 7) 30 S Q := zW_step (I := .invokevirtual 59) rfl S Q
theorem eX7_readWithin_30 {d : Nat} {S : zS} {Q : zR → Prop} : zW d MX7_readWithin 30 S Q = zGo d MX7_readWithin (.bipush 45) (zv (.int 45)) 32 S Q := zW_step (I := .bipush 45) rfl S Q
theorem eX7_readWithin_32 {d : Nat} {S : zS} {Q : zR → Prop} : zW d MX7_readWithin 32 S Q = zGo d MX7_readWithin (.if_icmp .ne 29) (zt 61) 35 S Q := zW_step (I := .if_icmp .ne 29) rfl S Q
theorem eX7_readWithin_35 {d : Nat} {S : zS} {Q : zR → Prop} : zW d MX7_readWithin 35 S Q = zGo d MX7_readWithin (.iload 3) z0 36 S Q := zW_step (I := .iload_n 3) rfl S Q
theorem eX7_readWithin_36 {d : Nat} {S : zS} {Q : zR → Prop} : zW d MX7_readWithin 36 S Q = zGo d MX7_readWithin (.ifCond .ne 7) (zt 43) 39 S Q := zW_step (I := .ifCond .ne 7) rfl S Q
theorem eX7_readWithin_39 {d : Nat} {S : zS} {Q : zR → Prop} : zW d MX7_readWithin 39 S Q = zGo d MX7_readWithin (.iconst 1) (zv (.int 1)) 40 S Q := zW_step (I := .iconst 1) rfl S Q
theorem eX7_readWithin_40 {d : Nat} {S : zS} {Q : zR → Prop} : zW d MX7_readWithin 40 S Q = zGo d MX7_readWithin (.goto 4) (zt 44) 43 S Q := zW_step (I := .goto 4) rfl S Q
theorem eX7_readWithin_43 {d : Nat} {S : zS} {Q : zR → Prop} : zW d MX7_readWithin 43 S Q = zGo d MX7_readWithin (.iconst 0) (zv (.int 0)) 44 S Q := zW_step (I := .iconst 0) rfl S Q
theorem eX7_readWithin_44 {d : Nat} {S : zS} {Q : zR → Prop} : zW d MX7_readWithin 44 S Q = zGo d MX7_readWithin (.istore 3) z0 45 S Q := zW_step (I := .istore_n 3) rfl S Q
theorem eX7_readWithin_45 {d : Nat} {S : zS} {Q : zR → Prop} : zW d MX7_readWithin 45 S Q = zGo d MX7_readWithin (.aload 0) z0 46 S Q := zW_step (I := .aload_n 0) rfl S Q
theorem eX7_readWithin_46 {d : Nat} {S : zS} {Q : zR → Prop} : zW d MX7_readWithin 46 S Q = zGo d MX7_readWithin (.dup) z0 47 S Q := zW_step (I := .dup) rfl S Q
theorem eX7_readWithin_47 {d : Nat} {S : zS} {Q : zR → Prop} : zW d MX7_readWithin 47 S Q = zGo d MX7_readWithin (.getfield 46) (zf 0 7 5) 50 S Q := zW_step (I := .getfield 46) rfl S Q
theorem eX7_readWithin_50 {d : Nat} {S : zS} {Q : zR → Prop} : zW d MX7_readWithin 50 S Q = zGo d MX7_readWithin (.iconst 1) (zv (.int 1)) 51 S Q := zW_step (I := .iconst 1) rfl S Q
theorem eX7_readWithin_51 {d : Nat} {S : zS} {Q : zR → Prop} : zW d MX7_readWithin 51 S Q = zGo d MX7_readWithin (.iadd) z0 52 S Q := zW_step (I := .iadd) rfl S Q
theorem eX7_readWithin_52 {d : Nat} {S : zS} {Q : zR → Prop} : zW d MX7_readWithin 52 S Q = zGo d MX7_readWithin (.putfield 46) (zf 0 7 5) 55 S Q := zW_step (I := .putfield 46) rfl S Q
theorem eX7_readWithin_55 {d : Nat} {S : zS} {Q : zR → Prop} : zW d MX7_readWithin 55 S Q = zGo d MX7_readWithin (.iinc 4 1) (zv (.int 1)) 58 S Q := zW_step (I := .iinc 4 1) rfl S Q
theorem eX7_readWithin_58 {d : Nat} {S : zS} {Q : zR → Prop} : zW d MX7_readWithin 58 S Q = zGo d MX7_readWithin (.goto (-39)) (zt 19) 61 S Q := zW_step (I := .goto (-39)) rfl S Q
theorem eX7_readWithin_61 {d : Nat} {S : zS} {Q : zR → Prop} : zW d MX7_readWithin 61 S Q = zGo d MX7_readWithin (.aload 0) z0 62 S Q := zW_step (I := .aload_n 0) rfl S Q
theorem eX7_readWithin_62 {d : Nat} {S : zS} {Q : zR → Prop} : zW d MX7_readWithin 62 S Q = zGo d MX7_readWithin (.iload 2) z0 63 S Q := zW_step (I := .iload_n 2) rfl S Q
theorem eX7_readWithin_63 {d : Nat} {S : zS} {Q : zR → Prop} : zW d MX7_readWithin 63 S Q = zGo d MX7_readWithin (.invokevirtual 66) (zc 89 2 7) 66 S Q := zW_step (I := .invokevirtual 66) rfl S Q
theorem eX7_readWithin_66 {d : Nat} {S : zS} {Q : zR → Prop} : zW d MX7_readWithin 66 S Q = zGo d MX7_readWithin (.istore 4) z0 68 S Q := zW_step (I := .istore 4) rfl S Q
theorem eX7_readWithin_68 {d : Nat} {S : zS} {Q : zR → Prop} : zW d MX7_readWithin 68 S Q = zGo d MX7_readWithin (.iload 3) z0 69 S Q := zW_step (I := .iload_n 3) rfl S Q
theorem eX7_readWithin_69 {d : Nat} {S : zS} {Q : zR → Prop} : zW d MX7_readWithin 69 S Q = zGo d MX7_readWithin (.ifCond .eq 10) (zt 79) 72 S Q := zW_step (I := .ifCond .eq 10) rfl S Q
theorem eX7_readWithin_72 {d : Nat} {S : zS} {Q : zR → Prop} : zW d MX7_readWithin 72 S Q = zGo d MX7_readWithin (.aload 0) z0 73 S Q := zW_step (I := .aload_n 0) rfl S Q
theorem eX7_readWithin_73 {d : Nat} {S : zS} {Q : zR → Prop} : zW d MX7_readWithin 73 S Q = zGo d MX7_readWithin (.sipush 3000) (zv (.int 3000)) 76 S Q := zW_step (I := .sipush 3000) rfl S Q
theorem eX7_readWithin_76 {d : Nat} {S : zS} {Q : zR → Prop} : zW d MX7_readWithin 76 S Q = zGo d MX7_readWithin (.invokevirtual 48) (zc 84 2 7) 79 S Q := zW_step (I := .invokevirtual 48) rfl S Q
theorem eX7_readWithin_79 {d : Nat} {S : zS} {Q : zR → Prop} : zW d MX7_readWithin 79 S Q = zGo d MX7_readWithin (.iload 4) z0 81 S Q := zW_step (I := .iload 4) rfl S Q
theorem eX7_readWithin_81 {d : Nat} {S : zS} {Q : zR → Prop} : zW d MX7_readWithin 81 S Q = zGo d MX7_readWithin (.ireturn) z0 82 S Q := zW_step (I := .ireturn) rfl S Q
theorem rX7_readWithin : MX7_readWithin.2.2.2.2.1 = some .boolean := rfl
theorem eX7_readLevel_0 {d : Nat} {S : zS} {Q : zR → Prop} : zW d MX7_readLevel 0 S Q = zGo d MX7_readLevel (.aload 0) z0 1 S Q := zW_step (I := .aload_n 0) rfl S Q
theorem eX7_readLevel_1 {d : Nat} {S : zS} {Q : zR → Prop} : zW d MX7_readLevel 1 S Q = zGo d MX7_readLevel (.iload 1) z0 2 S Q := zW_step (I := .iload_n 1) rfl S Q
theorem eX7_readLevel_2 {d : Nat} {S : zS} {Q : zR → Prop} : zW d MX7_readLevel 2 S Q = zGo d MX7_readLevel (.iload 2) z0 3 S Q := zW_step (I := .iload_n 2) rfl S Q
theorem eX7_readLevel_3 {d : Nat} {S : zS} {Q : zR → Prop} : zW d MX7_readLevel 3 S Q = zGo d MX7_readLevel (.invokevirtual 56) (zc 88 3 7) 6 S Q := zW_step (I := .invokevirtual 56) rfl S Q
theorem eX7_readLevel_6 {d : Nat} {S : zS} {Q : zR → Prop} : zW d MX7_readLevel 6 S Q = zGo d MX7_readLevel (.istore 3) z0 7 S Q := zW_step (I := .istore_n 3) rfl S Q
theorem eX7_readLevel_7 {d : Nat} {S : zS} {Q : zR → Prop} : zW d MX7_readLevel 7 S Q = zGo d MX7_readLevel (.iload 1) z0 8 S Q := zW_step (I := .iload_n 1) rfl S Q
theorem eX7_readLevel_8 {d : Nat} {S : zS} {Q : zR → Prop} : zW d MX7_readLevel 8 S Q = zGo d MX7_readLevel (.ifCond .ne 7) (zt 15) 11 S Q := zW_step (I := .ifCond .ne 7) rfl S Q
theorem eX7_readLevel_11 {d : Nat} {S : zS} {Q : zR → Prop} : zW d MX7_readLevel 11 S Q = zGo d MX7_readLevel (.iconst 1) (zv (.int 1)) 12 S Q := zW_step (I := .iconst 1) rfl S Q
theorem eX7_readLevel_12 {d : Nat} {S : zS} {Q : zR → Prop} : zW d MX7_readLevel 12 S Q = zGo d MX7_readLevel (.goto 5) (zt 17) 15 S Q := zW_step (I := .goto 5) rfl S Q
theorem eX7_readLevel_15 {d : Nat} {S : zS} {Q : zR → Prop} : zW d MX7_readLevel 15 S Q = zGo d MX7_readLevel (.bipush 40) (zv (.int 40)) 17 S Q := zW_step (I := .bipush 40) rfl S Q
theorem eX7_readLevel_17 {d : Nat} {S : zS} {Q : zR → Prop} : zW d MX7_readLevel 17 S Q = zGo d MX7_readLevel (.istore 4) z0 19 S Q := zW_step (I := .istore 4) rfl S Q
theorem eX7_readLevel_19 {d : Nat} {S : zS} {Q : zR → Prop} : zW d MX7_readLevel 19 S Q = zGo d MX7_readLevel (.iconst 0) (zv (.int 0)) 20 S Q := zW_step (I := .iconst 0) rfl S Q
theorem eX7_readLevel_20 {d : Nat} {S : zS} {Q : zR → Prop} : zW d MX7_readLevel 20 S Q = zGo d MX7_readLevel (.istore 5) z0 22 S Q := zW_step (I := .istore 5) rfl S Q
theorem eX7_readLevel_22 {d : Nat} {S : zS} {Q : zR → Prop} : zW d MX7_readLevel 22 S Q = zGo d MX7_readLevel (.iload 5) z0 24 S Q := zW_step (I := .iload 5) rfl S Q
theorem eX7_readLevel_24 {d : Nat} {S : zS} {Q : zR → Prop} : zW d MX7_readLevel 24 S Q = zGo d MX7_readLevel (.iload 4) z0 26 S Q := zW_step (I := .iload 4) rfl S Q
theorem eX7_readLevel_26 {d : Nat} {S : zS} {Q : zR → Prop} : zW d MX7_readLevel 26 S Q = zGo d MX7_readLevel (.if_icmp .ge 57) (zt 83) 29 S Q := zW_step (I := .if_icmp .ge 57) rfl S Q
theorem eX7_readLevel_29 {d : Nat} {S : zS} {Q : zR → Prop} : zW d MX7_readLevel 29 S Q = zGo d MX7_readLevel (.iload 3) z0 30 S Q := zW_step (I := .iload_n 3) rfl S Q
theorem eX7_readLevel_30 {d : Nat} {S : zS} {Q : zR → Prop} : zW d MX7_readLevel 30 S Q = zGo d MX7_readLevel (.ifCond .eq 53) (zt 83) 33 S Q := zW_step (I := .ifCond .eq 53) rfl S Q
theorem eX7_readLevel_33 {d : Nat} {S : zS} {Q : zR → Prop} : zW d MX7_readLevel 33 S Q = zGo d MX7_readLevel (.aload 0) z0 34 S Q := zW_step (I := .aload_n 0) rfl S Q
theorem eX7_readLevel_34 {d : Nat} {S : zS} {Q : zR → Prop} : zW d MX7_readLevel 34 S Q = zGo d MX7_readLevel (.invokevirtual 59) (zc 85 1 7) 37 S Q := zW_step (I := .invokevirtual 59) rfl S Q
theorem eX7_readLevel_37 {d : Nat} {S : zS} {Q : zR → Prop} : zW d MX7_readLevel 37 S Q = zGo d MX7_readLevel (.invokestatic 63) (zc 87 1 0) 40 S Q := zW_step (I := .invokestatic 63) rfl S Q
theorem eX7_readLevel_40 {d : Nat} {S : zS} {Q : zR → Prop} : zW d MX7_readLevel 40 S Q = zGo d MX7_readLevel (.iload 1) z0 41 S Q := zW_step (I := .iload_n 1) rfl S Q
theorem eX7_readLevel_41 {d : Nat} {S : zS} {Q : zR → Prop} : zW d MX7_readLevel 41 S Q = zGo d MX7_readLevel (.if_icmp .ne 42) (zt 83) 44 S Q := zW_step (I := .if_icmp .ne 42) rfl S Q
theorem eX7_readLevel_44 {d : Nat} {S : zS} {Q : zR → Prop} : zW d MX7_readLevel 44 S Q = zGo d MX7_readLevel (.aload 0) z0 45 S Q := zW_step (I := .aload_n 0) rfl S Q
theorem eX7_readLevel_45 {d : Nat} {S : zS} {Q : zR → Prop} : zW d MX7_readLevel 45 S Q = zGo d MX7_readLevel (.invokevirtual 59) (zc 85 1 7) 48 S Q := zW_step (I := .invokevirtual 59) rfl S Q
theorem eX7_readLevel_48 {d : Nat} {S : zS} {Q : zR → Prop} : zW d MX7_readLevel 48 S Q = zGo d MX7_readLevel (.istore 6) z0 50 S Q := zW_step (I := .istore 6) rfl S Q
theorem eX7_readLevel_50 {d : Nat} {S : zS} {Q : zR → Prop} : zW d MX7_readLevel 50 S Q = zGo d MX7_readLevel (.aload 0) z0 51 S Q := zW_step (I := .aload_n 0) rfl S Q
theorem eX7_readLevel_51 {d : Nat} {S : zS} {Q : zR → Prop} : zW d MX7_readLevel 51 S Q = zGo d MX7_readLevel (.dup) z0 52 S Q := zW_step (I := .dup) rfl S Q
theorem eX7_readLevel_52 {d : Nat} {S : zS} {Q : zR → Prop} : zW d MX7_readLevel 52 S Q = zGo d MX7_readLevel (.getfield 46) (zf 0 7 5) 55 S Q := zW_step (I := .getfield 46) rfl S Q
theorem eX7_readLevel_55 {d : Nat} {S : zS} {Q : zR → Prop} : zW d MX7_readLevel 55 S Q = zGo d MX7_readLevel (.iconst 1) (zv (.int 1)) 56 S Q := zW_step (I := .iconst 1) rfl S Q
theorem eX7_readLevel_56 {d : Nat} {S : zS} {Q : zR → Prop} : zW d MX7_readLevel 56 S Q = zGo d MX7_readLevel (.iadd) z0 57 S Q := zW_step (I := .iadd) rfl S Q
theorem eX7_readLevel_57 {d : Nat} {S : zS} {Q : zR → Prop} : zW d MX7_readLevel 57 S Q = zGo d MX7_readLevel (.putfield 46) (zf 0 7 5) 60 S Q := zW_step (I := .putfield 46) rfl S Q
theorem eX7_readLevel_60 {d : Nat} {S : zS} {Q : zR → Prop} : zW d MX7_readLevel 60 S Q = zGo d MX7_readLevel (.aload 0) z0 61 S Q := zW_step (I := .aload_n 0) rfl S Q
theorem eX7_readLevel_61 {d : Nat} {S : zS} {Q : zR → Prop} : zW d MX7_readLevel 61 S Q = zGo d MX7_readLevel (.iload 1) z0 62 S Q := zW_step (I := .iload_n 1) rfl S Q
theorem eX7_readLevel_62 {d : Nat} {S : zS} {Q : zR → Prop} : zW d MX7_readLevel 62 S Q = zGo d MX7_readLevel (.iload 2) z0 63 S Q := zW_step (I := .iload_n 2) rfl S Q
theorem eX7_readLevel_63 {d : Nat} {S : zS} {Q : zR → Prop} : zW d MX7_readLevel 63 S Q = zGo d MX7_readLevel (.invokevirtual 56) (zc 88 3 7) 66 S Q := zW_step (I := .invokevirtual 56) rfl S Q
theorem eX7_readLevel_66 {d : Nat} {S : zS} {Q : zR → Prop} : zW d MX7_readLevel 66 S Q = zGo d MX7_readLevel (.istore 3) z0 67 S Q := zW_step (I := .istore_n 3) rfl S Q
theorem eX7_readLevel_67 {d : Nat} {S : zS} {Q : zR → Prop} : zW d MX7_readLevel 67 S Q = zGo d MX7_readLevel (.aload 0) z0 68 S Q := zW_step (I := .aload_n 0) rfl S Q
theorem eX7_readLevel_68 {d : Nat} {S : zS} {Q : zR → Prop} : zW d MX7_readLevel 68 S Q = zGo d MX7_readLevel (.sipush 2000) (zv (.int 2000)) 71 S Q := zW_step (I := .sipush 2000) rfl S Q
theorem eX7_readLevel_71 {d : Nat} {S : zS} {Q : zR → Prop} : zW d MX7_readLevel 71 S Q = zGo d MX7_readLevel (.iload 6) z0 73 S Q := zW_step (I := .iload 6) rfl S Q
theorem eX7_readLevel_73 {d : Nat} {S : zS} {Q : zR → Prop} : zW d MX7_readLevel 73 S Q = zGo d MX7_readLevel (.iadd) z0 74 S Q := zW_step (I := .iadd) rfl S Q
theorem eX7_readLevel_74 {d : Nat} {S : zS} {Q : zR → Prop} : zW d MX7_readLevel 74 S Q = zGo d MX7_readLevel (.invokevirtual 48) (zc 84 2 7) 77 S Q := zW_step (I := .invokevirtual 48) rfl S Q
theorem eX7_readLevel_77 {d : Nat} {S : zS} {Q : zR → Prop} : zW d MX7_readLevel 77 S Q = zGo d MX7_readLevel (.iinc 5 1) (zv (.int 1)) 80 S Q := zW_step (I := .iinc 5 1) rfl S Q
theorem eX7_readLevel_80 {d : Nat} {S : zS} {Q : zR → Prop} : zW d MX7_readLevel 80 S Q = zGo d MX7_readLevel (.goto (-58)) (zt 22) 83 S Q := zW_step (I := .goto (-58)) rfl S Q
theorem eX7_readLevel_83 {d : Nat} {S : zS} {Q : zR → Prop} : zW d MX7_readLevel 83 S Q = zGo d MX7_readLevel (.iload 3) z0 84 S Q := zW_step (I := .iload_n 3) rfl S Q
theorem eX7_readLevel_84 {d : Nat} {S : zS} {Q : zR → Prop} : zW d MX7_readLevel 84 S Q = zGo d MX7_readLevel (.ireturn) z0 85 S Q := zW_step (I := .ireturn) rfl S Q
theorem rX7_readLevel : MX7_readLevel.2.2.2.2.1 = some .boolean := rfl
abbrev pS : Type := Nat × Nat × (Nat → Int32)
def emP (s : pS) (x : Int32) : pS := (s.1, (emV s.2.2 s.2.1 x).2, (emV s.2.2 s.2.1 x).1)
def thG : Nat → Int32 := fun j => [105, 120, 99, 109, 107, 116, 102].getD j 0
def thV (n : Nat) : Int32 := idxF thG (nI n).toInt8.toInt32 7 0
def pThing (sg : Nat → Nat) (sp : Nat) (sub : pS → Bool × pS) (deep : Bool) (s : pS) : Bool × pS :=
  if hereV sg sp s.1 = 40 ∧ deep = true then
    (if (sub (s.1 + 1, s.2)).1 = true ∧ hereV sg sp (sub (s.1 + 1, s.2)).2.1 = 41 then (true, ((sub (s.1 + 1, s.2)).2.1 + 1, (sub (s.1 + 1, s.2)).2.2)) else (false, (sub (s.1 + 1, s.2)).2))
  else if ¬ hereV sg sp s.1 < 48 ∧ ¬ 57 < hereV sg sp s.1 then (true, emP ((numV sg sp 3 0 s.1).2, s.2) (numV sg sp 3 0 s.1).1)
  else if hereV sg sp s.1 < 0 then (false, s)
  else if thV (sg s.1) < 0 then (false, s)
  else (true, (s.1 + 1, (emP s (1000 + thV (sg s.1))).2))
def sgnL (sg : Nat → Nat) (sp : Nat) : Nat → Bool → Nat → Bool × Nat
  | 0, b, p => (b, p)
  | k + 1, b, p => if hereV sg sp p = 45 then sgnL sg sp k (!b) (p + 1) else (b, p)
def pSigned (sg : Nat → Nat) (sp : Nat) (th : pS → Bool × pS) (s : pS) : Bool × pS :=
  let q := th ((sgnL sg sp 40 false s.1).2, s.2)
  if (sgnL sg sp 40 false s.1).1 then (q.1, emP q.2 3000) else q
def lvL (sg : Nat → Nat) (sp l : Nat) (nx : pS → Bool × pS) : Nat → Bool × pS → Bool × pS
  | 0, q => q
  | k + 1, q => if q.1 = true ∧ lvV (hereV sg sp q.2.1) = nI l then lvL sg sp l nx k ((nx (q.2.1 + 1, q.2.2)).1, emP (nx (q.2.1 + 1, q.2.2)).2 (2000 + hereV sg sp q.2.1)) else q
def pLevel (sg : Nat → Nat) (sp l : Nat) (nx : pS → Bool × pS) (s : pS) : Bool × pS := lvL sg sp l nx (if l = 0 then 1 else 40) (nx s)
section IDX
variable {h : Nat → zE} {v a N : Nat} {g : Nat → Int32} {d : Nat} {u : zU} {Q : zR → Prop}
theorem w_idxc {c x : Int32} {x2 : Value} (hz : z_cell h v = zI 2 N g) (hN : N < 1000) : ∀ k o, N - o = k → o ≤ N → zW d MJ1_indexOfChar_4cfef 7 ([.ref v, .int c, x2, .int (nI N), .int x, .int (nI o)], [], (h, u)) (fun q => q = (some (.int (idxF g x k o)), (h, u))) := by
  intro k
  induction k with
  | zero =>
    intro o ho hle
    have e : o = N := by omega
    subst e
    rw [eJ1_indexOfChar_4cfef_7]
    simp only [eJ1_indexOfChar_4cfef_0, eJ1_indexOfChar_4cfef_1, eJ1_indexOfChar_4cfef_2, eJ1_indexOfChar_4cfef_4, eJ1_indexOfChar_4cfef_5, eJ1_indexOfChar_4cfef_9, eJ1_indexOfChar_4cfef_10, eJ1_indexOfChar_4cfef_13, eJ1_indexOfChar_4cfef_14, eJ1_indexOfChar_4cfef_16, eJ1_indexOfChar_4cfef_17, eJ1_indexOfChar_4cfef_19, eJ1_indexOfChar_4cfef_22, eJ1_indexOfChar_4cfef_24, eJ1_indexOfChar_4cfef_25, eJ1_indexOfChar_4cfef_28, eJ1_indexOfChar_4cfef_31, eJ1_indexOfChar_4cfef_32, rJ1_indexOfChar_4cfef, zg_aload, zg_baload, zg_goto, zg_i2b, zg_icmp, zg_iconst, zg_iinc, zg_iload, zg_ireturn, zg_istore, q10, q01, q00, ite_self, zLd_i, zLd_l, zLd_a, zInc_i, zGet_o, zGet2_s, zPut_o, zAld_i, zAll_j, zAst_i, zAsl_j, zLen_i, zLen_j, zRt_i, zRt_z, zRl2_l, zRv_n, List.getElem?_cons_zero, List.getElem?_cons_succ, List.length_cons, List.length_nil, z_set, z_set2, z_cut, List.set_cons_zero, List.set_cons_succ, Option.toList_some, Option.toList_none, List.cons_append, List.nil_append, zif, zW_ite, zfit_0, zfit_1, zfit_2, zfit_3, zisc_o, zRt_c, zRt_b, List.map_cons, List.map_nil, List.sum_cons, List.sum_nil, true_and, and_true, if_true, if_false, ite_true, ite_false, Nat.reduceLT, Nat.reduceLeDiff, Nat.reduceAdd, Nat.reduceEqDiff, eq_self, not_true_eq_false, not_false_eq_true, Nat.lt_irrefl, or_true, true_or, or_false, false_or, z_cell_lt, Value.category, hz, Int32.lt_irrefl, idxF]
  | succ k ih =>
    intro o ho hle
    have c1 : nI o < nI N := nI_lt (show o < N by omega) (by omega)
    have i1 : vp_in (nI o) N := vp_in_nI (show o < N by omega) (by omega)
    have i2 : (nI o).toNatClampNeg = o := nI_clamp (by omega)
    have ih := ih (o + 1) (by omega) (by omega)
    rw [eJ1_indexOfChar_4cfef_7, show idxF g x (k + 1) o = if g o = x then nI o else idxF g x k (o + 1) from rfl]
    by_cases r1 : g o = x
    · rw [if_pos r1]
      simp only [eJ1_indexOfChar_4cfef_0, eJ1_indexOfChar_4cfef_1, eJ1_indexOfChar_4cfef_2, eJ1_indexOfChar_4cfef_4, eJ1_indexOfChar_4cfef_5, eJ1_indexOfChar_4cfef_9, eJ1_indexOfChar_4cfef_10, eJ1_indexOfChar_4cfef_13, eJ1_indexOfChar_4cfef_14, eJ1_indexOfChar_4cfef_16, eJ1_indexOfChar_4cfef_17, eJ1_indexOfChar_4cfef_19, eJ1_indexOfChar_4cfef_22, eJ1_indexOfChar_4cfef_24, eJ1_indexOfChar_4cfef_25, eJ1_indexOfChar_4cfef_28, eJ1_indexOfChar_4cfef_31, eJ1_indexOfChar_4cfef_32, rJ1_indexOfChar_4cfef, zg_aload, zg_baload, zg_goto, zg_i2b, zg_icmp, zg_iconst, zg_iinc, zg_iload, zg_ireturn, zg_istore, q10, q01, q00, ite_self, zLd_i, zLd_l, zLd_a, zInc_i, zGet_o, zGet2_s, zPut_o, zAld_i, zAll_j, zAst_i, zAsl_j, zLen_i, zLen_j, zRt_i, zRt_z, zRl2_l, zRv_n, List.getElem?_cons_zero, List.getElem?_cons_succ, List.length_cons, List.length_nil, z_set, z_set2, z_cut, List.set_cons_zero, List.set_cons_succ, Option.toList_some, Option.toList_none, List.cons_append, List.nil_append, zif, zW_ite, zfit_0, zfit_1, zfit_2, zfit_3, zisc_o, zRt_c, zRt_b, List.map_cons, List.map_nil, List.sum_cons, List.sum_nil, true_and, and_true, if_true, if_false, ite_true, ite_false, Nat.reduceLT, Nat.reduceLeDiff, Nat.reduceAdd, Nat.reduceEqDiff, eq_self, not_true_eq_false, not_false_eq_true, Nat.lt_irrefl, or_true, true_or, or_false, false_or, z_cell_lt, Value.category, hz, c1, i1, i2, r1]
    · rw [if_neg r1]
      simp only [eJ1_indexOfChar_4cfef_0, eJ1_indexOfChar_4cfef_1, eJ1_indexOfChar_4cfef_2, eJ1_indexOfChar_4cfef_4, eJ1_indexOfChar_4cfef_5, eJ1_indexOfChar_4cfef_9, eJ1_indexOfChar_4cfef_10, eJ1_indexOfChar_4cfef_13, eJ1_indexOfChar_4cfef_14, eJ1_indexOfChar_4cfef_16, eJ1_indexOfChar_4cfef_17, eJ1_indexOfChar_4cfef_19, eJ1_indexOfChar_4cfef_22, eJ1_indexOfChar_4cfef_24, eJ1_indexOfChar_4cfef_25, eJ1_indexOfChar_4cfef_28, eJ1_indexOfChar_4cfef_31, eJ1_indexOfChar_4cfef_32, rJ1_indexOfChar_4cfef, zg_aload, zg_baload, zg_goto, zg_i2b, zg_icmp, zg_iconst, zg_iinc, zg_iload, zg_ireturn, zg_istore, q10, q01, q00, ite_self, zLd_i, zLd_l, zLd_a, zInc_i, zGet_o, zGet2_s, zPut_o, zAld_i, zAll_j, zAst_i, zAsl_j, zLen_i, zLen_j, zRt_i, zRt_z, zRl2_l, zRv_n, List.getElem?_cons_zero, List.getElem?_cons_succ, List.length_cons, List.length_nil, z_set, z_set2, z_cut, List.set_cons_zero, List.set_cons_succ, Option.toList_some, Option.toList_none, List.cons_append, List.nil_append, zif, zW_ite, zfit_0, zfit_1, zfit_2, zfit_3, zisc_o, zRt_c, zRt_b, List.map_cons, List.map_nil, List.sum_cons, List.sum_nil, true_and, and_true, if_true, if_false, ite_true, ite_false, Nat.reduceLT, Nat.reduceLeDiff, Nat.reduceAdd, Nat.reduceEqDiff, eq_self, not_true_eq_false, not_false_eq_true, Nat.lt_irrefl, or_true, true_or, or_false, false_or, z_cell_lt, Value.category, hz, c1, i1, i2, r1, nI_1]
      exact ih
theorem c_idxc {c : Int32} (hz : z_cell h v = zI 2 N g) (hN : N < 1000) : zK (d + 1) 303 [.ref v, .int c, .int 0, .int (nI N)] (h, u) Q = Q (some (.int (idxF g c.toInt8.toInt32 N 0)), (h, u)) := by
  refine zK_of (k := 1) (by omega) ?_
  refine zK_in (M := MJ1_indexOfChar_4cfef) rfl (Nat.le_of_ble_eq_true rfl) ?_
  show zW 0 MJ1_indexOfChar_4cfef 0 ([.ref v, .int c, .int 0, .int (nI N), .null, .null], [], (h, u)) _
  simp only [eJ1_indexOfChar_4cfef_0, eJ1_indexOfChar_4cfef_1, eJ1_indexOfChar_4cfef_2, eJ1_indexOfChar_4cfef_4, eJ1_indexOfChar_4cfef_5, eJ1_indexOfChar_4cfef_9, eJ1_indexOfChar_4cfef_10, eJ1_indexOfChar_4cfef_13, eJ1_indexOfChar_4cfef_14, eJ1_indexOfChar_4cfef_16, eJ1_indexOfChar_4cfef_17, eJ1_indexOfChar_4cfef_19, eJ1_indexOfChar_4cfef_22, eJ1_indexOfChar_4cfef_24, eJ1_indexOfChar_4cfef_25, eJ1_indexOfChar_4cfef_28, eJ1_indexOfChar_4cfef_31, eJ1_indexOfChar_4cfef_32, rJ1_indexOfChar_4cfef, zg_aload, zg_baload, zg_goto, zg_i2b, zg_icmp, zg_iconst, zg_iinc, zg_iload, zg_ireturn, zg_istore, q10, q01, q00, ite_self, zLd_i, zLd_l, zLd_a, zInc_i, zGet_o, zGet2_s, zPut_o, zAld_i, zAll_j, zAst_i, zAsl_j, zLen_i, zLen_j, zRt_i, zRt_z, zRl2_l, zRv_n, List.getElem?_cons_zero, List.getElem?_cons_succ, List.length_cons, List.length_nil, z_set, z_set2, z_cut, List.set_cons_zero, List.set_cons_succ, Option.toList_some, Option.toList_none, List.cons_append, List.nil_append, zif, zW_ite, zfit_0, zfit_1, zfit_2, zfit_3, zisc_o, zRt_c, zRt_b, List.map_cons, List.map_nil, List.sum_cons, List.sum_nil, true_and, and_true, if_true, if_false, ite_true, ite_false, Nat.reduceLT, Nat.reduceLeDiff, Nat.reduceAdd, Nat.reduceEqDiff, eq_self, not_true_eq_false, not_false_eq_true, Nat.lt_irrefl, or_true, true_or, or_false, false_or, z_cell_lt, Value.category]
  exact w_idxc hz hN N 0 (by omega) (by omega)
theorem c_enc {n : Nat} (hn : n < 256) : zK (d + 1) 301 [.int (nI n)] (h, u) Q = Q (some (.int 1), (h, u)) := by
  have c1 : (nI n < 0) = False := by simp only [nI_pos (show n < 2 ^ 31 by omega)]
  have c2 : ((255 : Int32) < nI n) = False := (show ((255 : Int32) < nI n) = (255 < n) from nI_ult (a := 255) (by decide) (by omega)).trans (eq_false (by omega))
  refine zK_of (k := 1) (by omega) ?_
  refine zK_in (M := MJ1_canEncode_9a6ad) rfl (Nat.le_of_ble_eq_true rfl) ?_
  show zW 0 MJ1_canEncode_9a6ad 0 ([.int (nI n)], [], (h, u)) _
  simp only [eJ1_canEncode_9a6ad_0, eJ1_canEncode_9a6ad_1, eJ1_canEncode_9a6ad_4, eJ1_canEncode_9a6ad_5, eJ1_canEncode_9a6ad_8, eJ1_canEncode_9a6ad_11, eJ1_canEncode_9a6ad_12, eJ1_canEncode_9a6ad_15, eJ1_canEncode_9a6ad_16, rJ1_canEncode_9a6ad, zg_goto, zg_icmp, zg_iconst, zg_if, zg_iload, zg_ireturn, zg_sipush, q10, q01, q00, ite_self, zLd_i, zLd_l, zLd_a, zInc_i, zGet_o, zGet2_s, zPut_o, zAld_i, zAll_j, zAst_i, zAsl_j, zLen_i, zLen_j, zRt_i, zRt_z, zRl2_l, zRv_n, List.getElem?_cons_zero, List.getElem?_cons_succ, List.length_cons, List.length_nil, z_set, z_set2, z_cut, List.set_cons_zero, List.set_cons_succ, Option.toList_some, Option.toList_none, List.cons_append, List.nil_append, zif, zW_ite, zfit_0, zfit_1, zfit_2, zfit_3, zisc_o, zRt_c, zRt_b, List.map_cons, List.map_nil, List.sum_cons, List.sum_nil, true_and, and_true, if_true, if_false, ite_true, ite_false, Nat.reduceLT, Nat.reduceLeDiff, Nat.reduceAdd, Nat.reduceEqDiff, eq_self, not_true_eq_false, not_false_eq_true, Nat.lt_irrefl, or_true, true_or, or_false, false_or, z_cell_lt, Value.category, c1, c2]
theorem c_idxl {n : Nat} (hn : n < 256) (hz : z_cell h v = zI 2 N g) (hN : N < 1000) (hN0 : 0 < N) : zK (d + 2) 302 [.ref v, .int (nI n), .int 0, .int (nI N)] (h, u) Q = Q (some (.int (idxF g (nI n).toInt8.toInt32 N 0)), (h, u)) := by
  have c1 : ((0 : Int32) < nI N) = True := eq_true (nI_lt (a := 0) hN0 (by omega))
  refine zK_of (k := 2) (by omega) ?_
  refine zK_in (M := MJ1_indexOf_4cfef) rfl (Nat.le_of_ble_eq_true rfl) ?_
  show zW 1 MJ1_indexOf_4cfef 0 ([.ref v, .int (nI n), .int 0, .int (nI N)], [], (h, u)) _
  simp only [eJ1_indexOf_4cfef_0, eJ1_indexOf_4cfef_1, eJ1_indexOf_4cfef_4, eJ1_indexOf_4cfef_7, eJ1_indexOf_4cfef_8, eJ1_indexOf_4cfef_9, eJ1_indexOf_4cfef_10, eJ1_indexOf_4cfef_11, eJ1_indexOf_4cfef_14, eJ1_indexOf_4cfef_15, eJ1_indexOf_4cfef_16, eJ1_indexOf_4cfef_17, eJ1_indexOf_4cfef_18, eJ1_indexOf_4cfef_21, eJ1_indexOf_4cfef_22, eJ1_indexOf_4cfef_23, eJ1_indexOf_4cfef_24, eJ1_indexOf_4cfef_27, eJ1_indexOf_4cfef_28, eJ1_indexOf_4cfef_29, eJ1_indexOf_4cfef_30, eJ1_indexOf_4cfef_31, eJ1_indexOf_4cfef_32, eJ1_indexOf_4cfef_33, eJ1_indexOf_4cfef_36, rJ1_indexOf_4cfef, zg_aload, zg_arraylength, zg_icmp, zg_iconst, zg_if, zg_iload, zg_ireturn, zg_is1, zg_is4, zg_istore, zg_mn, zg_mx, q10, q01, q00, ite_self, zLd_i, zLd_l, zLd_a, zInc_i, zGet_o, zGet2_s, zPut_o, zAld_i, zAll_j, zAst_i, zAsl_j, zLen_i, zLen_j, zRt_i, zRt_z, zRl2_l, zRv_n, List.getElem?_cons_zero, List.getElem?_cons_succ, List.length_cons, List.length_nil, z_set, z_set2, z_cut, List.set_cons_zero, List.set_cons_succ, Option.toList_some, Option.toList_none, List.cons_append, List.nil_append, zif, zW_ite, zfit_0, zfit_1, zfit_2, zfit_3, zisc_o, zRt_c, zRt_b, List.map_cons, List.map_nil, List.sum_cons, List.sum_nil, true_and, and_true, if_true, if_false, ite_true, ite_false, Nat.reduceLT, Nat.reduceLeDiff, Nat.reduceAdd, Nat.reduceEqDiff, eq_self, not_true_eq_false, not_false_eq_true, Nat.lt_irrefl, or_true, true_or, or_false, false_or, z_cell_lt, Value.category, c_enc hn, hz, c1, Int32.lt_irrefl, c_idxc hz hN]
theorem c_lat (hs : z_cell h a = zO 200 [.ref v, .int 0]) : zK (d + 1) 299 [.ref a] (h, u) Q = Q (some (.int 1), (h, u)) := by
  refine zK_of (k := 1) (by omega) ?_
  refine zK_in (M := MJ0_isLatin1_aae02) rfl (Nat.le_of_ble_eq_true rfl) ?_
  show zW 0 MJ0_isLatin1_aae02 0 ([.ref a], [], (h, u)) _
  simp only [eJ0_isLatin1_aae02_0, eJ0_isLatin1_aae02_3, eJ0_isLatin1_aae02_6, eJ0_isLatin1_aae02_7, eJ0_isLatin1_aae02_10, eJ0_isLatin1_aae02_13, eJ0_isLatin1_aae02_14, eJ0_isLatin1_aae02_17, eJ0_isLatin1_aae02_18, rJ0_isLatin1_aae02, zg_aload, zg_getfield, zg_getstatic, zg_goto, zg_iconst, zg_if, zg_ireturn, q10, q01, q00, ite_self, zLd_i, zLd_l, zLd_a, zInc_i, zGet_o, zGet2_s, zPut_o, zAld_i, zAll_j, zAst_i, zAsl_j, zLen_i, zLen_j, zRt_i, zRt_z, zRl2_l, zRv_n, List.getElem?_cons_zero, List.getElem?_cons_succ, List.length_cons, List.length_nil, z_set, z_set2, z_cut, List.set_cons_zero, List.set_cons_succ, Option.toList_some, Option.toList_none, List.cons_append, List.nil_append, zif, zW_ite, zfit_0, zfit_1, zfit_2, zfit_3, zisc_o, zRt_c, zRt_b, List.map_cons, List.map_nil, List.sum_cons, List.sum_nil, true_and, and_true, if_true, if_false, ite_true, ite_false, Nat.reduceLT, Nat.reduceLeDiff, Nat.reduceAdd, Nat.reduceEqDiff, eq_self, not_true_eq_false, not_false_eq_true, Nat.lt_irrefl, or_true, true_or, or_false, false_or, z_cell_lt, Value.category, hs]
theorem c_cdr (hs : z_cell h a = zO 200 [.ref v, .int 0]) : zK (d + 1) 298 [.ref a] (h, u) Q = Q (some (.int 0), (h, u)) := by
  refine zK_of (k := 1) (by omega) ?_
  refine zK_in (M := MJ0_coder_7d493) rfl (Nat.le_of_ble_eq_true rfl) ?_
  show zW 0 MJ0_coder_7d493 0 ([.ref a], [], (h, u)) _
  simp only [eJ0_coder_7d493_0, eJ0_coder_7d493_3, eJ0_coder_7d493_6, eJ0_coder_7d493_7, eJ0_coder_7d493_10, eJ0_coder_7d493_13, eJ0_coder_7d493_14, rJ0_coder_7d493, zg_aload, zg_getfield, zg_getstatic, zg_goto, zg_iconst, zg_if, zg_ireturn, q10, q01, q00, ite_self, zLd_i, zLd_l, zLd_a, zInc_i, zGet_o, zGet2_s, zPut_o, zAld_i, zAll_j, zAst_i, zAsl_j, zLen_i, zLen_j, zRt_i, zRt_z, zRl2_l, zRv_n, List.getElem?_cons_zero, List.getElem?_cons_succ, List.length_cons, List.length_nil, z_set, z_set2, z_cut, List.set_cons_zero, List.set_cons_succ, Option.toList_some, Option.toList_none, List.cons_append, List.nil_append, zif, zW_ite, zfit_0, zfit_1, zfit_2, zfit_3, zisc_o, zRt_c, zRt_b, List.map_cons, List.map_nil, List.sum_cons, List.sum_nil, true_and, and_true, if_true, if_false, ite_true, ite_false, Nat.reduceLT, Nat.reduceLeDiff, Nat.reduceAdd, Nat.reduceEqDiff, eq_self, not_true_eq_false, not_false_eq_true, Nat.lt_irrefl, or_true, true_or, or_false, false_or, z_cell_lt, Value.category, hs]
  try rfl
theorem c_slen (hs : z_cell h a = zO 200 [.ref v, .int 0]) (hz : z_cell h v = zI 2 N g) (hN : N < 8) : zK (d + 2) 294 [.ref a] (h, u) Q = Q (some (.int (nI N)), (h, u)) := by
  have e : nI N >>> ((0 : Int32) &&& 31) = nI N := (show ∀ N, N < 8 → nI N >>> ((0 : Int32) &&& 31) = nI N by decide +kernel) N hN
  refine zK_of (k := 2) (by omega) ?_
  refine zK_in (M := MJ0_length_8abf5) rfl (Nat.le_of_ble_eq_true rfl) ?_
  show zW 1 MJ0_length_8abf5 0 ([.ref a], [], (h, u)) _
  simp only [eJ0_length_8abf5_0, eJ0_length_8abf5_1, eJ0_length_8abf5_4, eJ0_length_8abf5_5, eJ0_length_8abf5_6, eJ0_length_8abf5_9, eJ0_length_8abf5_10, rJ0_length_8abf5, zg_aload, zg_arraylength, zg_getfield, zg_ireturn, zg_ishr, zg_iv0, q10, q01, q00, ite_self, zLd_i, zLd_l, zLd_a, zInc_i, zGet_o, zGet2_s, zPut_o, zAld_i, zAll_j, zAst_i, zAsl_j, zLen_i, zLen_j, zRt_i, zRt_z, zRl2_l, zRv_n, List.getElem?_cons_zero, List.getElem?_cons_succ, List.length_cons, List.length_nil, z_set, z_set2, z_cut, List.set_cons_zero, List.set_cons_succ, Option.toList_some, Option.toList_none, List.cons_append, List.nil_append, zif, zW_ite, zfit_0, zfit_1, zfit_2, zfit_3, zisc_o, zRt_c, zRt_b, List.map_cons, List.map_nil, List.sum_cons, List.sum_nil, true_and, and_true, if_true, if_false, ite_true, ite_false, Nat.reduceLT, Nat.reduceLeDiff, Nat.reduceAdd, Nat.reduceEqDiff, eq_self, not_true_eq_false, not_false_eq_true, Nat.lt_irrefl, or_true, true_or, or_false, false_or, z_cell_lt, Value.category, hs, hz, c_cdr hs, e]
theorem c_idx2 {n : Nat} (hn : n < 256) (hs : z_cell h a = zO 200 [.ref v, .int 0]) (hz : z_cell h v = zI 2 N g) (hN : N < 8) (hN0 : 0 < N) : zK (d + 3) 297 [.ref a, .int (nI n), .int 0] (h, u) Q = Q (some (.int (idxF g (nI n).toInt8.toInt32 N 0)), (h, u)) := by
  refine zK_of (k := 3) (by omega) ?_
  refine zK_in (M := MJ0_indexOf_7cf53) rfl (Nat.le_of_ble_eq_true rfl) ?_
  show zW 2 MJ0_indexOf_7cf53 0 ([.ref a, .int (nI n), .int 0], [], (h, u)) _
  simp only [eJ0_indexOf_7cf53_0, eJ0_indexOf_7cf53_1, eJ0_indexOf_7cf53_4, eJ0_indexOf_7cf53_7, eJ0_indexOf_7cf53_8, eJ0_indexOf_7cf53_11, eJ0_indexOf_7cf53_12, eJ0_indexOf_7cf53_13, eJ0_indexOf_7cf53_14, eJ0_indexOf_7cf53_17, eJ0_indexOf_7cf53_20, eJ0_indexOf_7cf53_23, eJ0_indexOf_7cf53_24, eJ0_indexOf_7cf53_27, eJ0_indexOf_7cf53_28, eJ0_indexOf_7cf53_29, eJ0_indexOf_7cf53_30, eJ0_indexOf_7cf53_36, rJ0_indexOf_7cf53, zg_aload, zg_getfield, zg_goto, zg_if, zg_iload, zg_ireturn, zg_is4, zg_iv0, q10, q01, q00, ite_self, zLd_i, zLd_l, zLd_a, zInc_i, zGet_o, zGet2_s, zPut_o, zAld_i, zAll_j, zAst_i, zAsl_j, zLen_i, zLen_j, zRt_i, zRt_z, zRl2_l, zRv_n, List.getElem?_cons_zero, List.getElem?_cons_succ, List.length_cons, List.length_nil, z_set, z_set2, z_cut, List.set_cons_zero, List.set_cons_succ, Option.toList_some, Option.toList_none, List.cons_append, List.nil_append, zif, zW_ite, zfit_0, zfit_1, zfit_2, zfit_3, zisc_o, zRt_c, zRt_b, List.map_cons, List.map_nil, List.sum_cons, List.sum_nil, true_and, and_true, if_true, if_false, ite_true, ite_false, Nat.reduceLT, Nat.reduceLeDiff, Nat.reduceAdd, Nat.reduceEqDiff, eq_self, not_true_eq_false, not_false_eq_true, Nat.lt_irrefl, or_true, true_or, or_false, false_or, z_cell_lt, Value.category, hs, hz, c_lat hs, c_slen hs hz hN, c_idxl hn hz (show N < 1000 by omega) hN0]
theorem c_idx {n : Nat} (hn : n < 256) (hs : z_cell h a = zO 200 [.ref v, .int 0]) (hz : z_cell h v = zI 2 N g) (hN : N < 8) (hN0 : 0 < N) : zK (d + 4) 296 [.ref a, .int (nI n)] (h, u) Q = Q (some (.int (idxF g (nI n).toInt8.toInt32 N 0)), (h, u)) := by
  refine zK_of (k := 4) (by omega) ?_
  refine zK_in (M := MJ0_indexOf_0f7a4) rfl (Nat.le_of_ble_eq_true rfl) ?_
  show zW 3 MJ0_indexOf_0f7a4 0 ([.ref a, .int (nI n)], [], (h, u)) _
  simp only [eJ0_indexOf_0f7a4_0, eJ0_indexOf_0f7a4_1, eJ0_indexOf_0f7a4_2, eJ0_indexOf_0f7a4_3, eJ0_indexOf_0f7a4_6, rJ0_indexOf_0f7a4, zg_aload, zg_iconst, zg_iload, zg_ireturn, zg_iv2, q10, q01, q00, ite_self, zLd_i, zLd_l, zLd_a, zInc_i, zGet_o, zGet2_s, zPut_o, zAld_i, zAll_j, zAst_i, zAsl_j, zLen_i, zLen_j, zRt_i, zRt_z, zRl2_l, zRv_n, List.getElem?_cons_zero, List.getElem?_cons_succ, List.length_cons, List.length_nil, z_set, z_set2, z_cut, List.set_cons_zero, List.set_cons_succ, Option.toList_some, Option.toList_none, List.cons_append, List.nil_append, zif, zW_ite, zfit_0, zfit_1, zfit_2, zfit_3, zisc_o, zRt_c, zRt_b, List.map_cons, List.map_nil, List.sum_cons, List.sum_nil, true_and, and_true, if_true, if_false, ite_true, ite_false, Nat.reduceLT, Nat.reduceLeDiff, Nat.reduceAdd, Nat.reduceEqDiff, eq_self, not_true_eq_false, not_false_eq_true, Nat.lt_irrefl, or_true, true_or, or_false, false_or, z_cell_lt, Value.category, hs, c_idx2 hn hs hz hN hN0]
theorem c_things {n : Nat} (hn : n < 256) : zK (d + 4) 296 [.ref 1001, .int (nI n)] (h, u) Q = Q (some (.int (thV n)), (h, u)) := c_idx (v := 1101) (N := 7) (g := thG) hn rfl rfl (by decide) (by decide)
end IDX
theorem q_i2c : ∀ n, n < 256 → ((nI n).toUInt32 % 65536).toInt32 = nI n := by decide +kernel
section PARSE
variable {r sp : Nat} {st : Nat → Int32} {sg : Nat → Nat} {u : zU}
def pGood (sp : Nat) (f : pS → Bool × pS) : Prop := ∀ s : pS, s.1 ≤ sp → s.2.1 ≤ 40 → (f s).2.1 ≤ sp ∧ (f s).2.2.1 ≤ 40
def pC (r : Nat) (st : Nat → Int32) (sg : Nat → Nat) (sp : Nat) (u : zU) (D y : Nat) (as : List Value) (f : pS → Bool × pS) : Prop := ∀ (h : Nat → zE) (s : pS), ruleAt h r s.2.2 st sg s.2.1 sp s.1 → ∀ Q : zR → Prop, zK D y as (h, u) Q = Q (some (.int (b01 (f s).1)), (ruleSet h r (f s).2.2.2 st sg (f s).2.2.1 sp (f s).2.1, u))
theorem emV_le {cd : Nat → Int32} {sz : Nat} {x : Int32} (h : sz ≤ 40) : (emV cd sz x).2 ≤ 40 := by
  unfold emV
  split
  · simp only; omega
  · exact h
theorem numV_le : ∀ k n p, p ≤ sp → (numV sg sp k n p).2 ≤ sp := by
  intro k
  induction k with
  | zero => intro n p h; exact h
  | succ k ih =>
    intro n p h
    unfold numV
    split
    · rename_i q
      have hp : p < sp := hereV_in (fun z => q.1 (Int32.lt_trans z (by decide)))
      exact ih _ _ hp
    · exact h
theorem hereV_of {p : Nat} (h : ¬ hereV sg sp p < 0) : hereV sg sp p = nI (sg p) := if_pos (hereV_in h)
theorem here_lit {p : Nat} {x : Int32} (h : hereV sg sp p = x) (hx : ¬ x < 0) : p < sp := hereV_in (by rw [h]; exact hx)
theorem pThing_good {sub : pS → Bool × pS} {deep : Bool} (hs : deep = true → pGood sp sub) : pGood sp (pThing sg sp sub deep) := by
  intro s h1 h2
  unfold pThing
  split
  · rename_i q
    have hp := here_lit q.1 (by decide)
    have g := hs q.2 (s.1 + 1, s.2) hp h2
    split
    · rename_i q2
      exact ⟨here_lit q2.2 (by decide), g.2⟩
    · exact g
  · split
    · exact ⟨numV_le _ _ _ h1, emV_le h2⟩
    · split
      · exact ⟨h1, h2⟩
      · split
        · exact ⟨h1, h2⟩
        · rename_i q _
          exact ⟨hereV_in q, emV_le h2⟩
theorem sgnL_le : ∀ k b p, p ≤ sp → (sgnL sg sp k b p).2 ≤ sp := by
  intro k
  induction k with
  | zero => intro b p h; exact h
  | succ k ih =>
    intro b p h
    unfold sgnL
    split
    · rename_i q
      exact ih _ _ (here_lit q (by decide))
    · exact h
theorem pSigned_good {th : pS → Bool × pS} (hs : pGood sp th) : pGood sp (pSigned sg sp th) := by
  intro s h1 h2
  have g := hs ((sgnL sg sp 40 false s.1).2, s.2) (sgnL_le _ _ _ h1) h2
  unfold pSigned
  simp only
  split
  · exact ⟨g.1, emV_le g.2⟩
  · exact g
theorem lvV_in {x : Int32} {l : Nat} (hl : l < 3) (h : lvV x = nI l) : ¬ x < 0 := by
  intro q
  have e1 : x ≠ 60 := by rintro rfl; exact absurd q (by decide)
  have e2 : x ≠ 61 := by rintro rfl; exact absurd q (by decide)
  have e3 : x ≠ 62 := by rintro rfl; exact absurd q (by decide)
  have e4 : x ≠ 43 := by rintro rfl; exact absurd q (by decide)
  have e5 : x ≠ 45 := by rintro rfl; exact absurd q (by decide)
  have e6 : x ≠ 42 := by rintro rfl; exact absurd q (by decide)
  have e7 : x ≠ 47 := by rintro rfl; exact absurd q (by decide)
  have : lvV x = -1 := by simp [lvV, e1, e2, e3, e4, e5, e6, e7]
  rw [this] at h
  exact absurd h ((show ∀ l, l < 3 → ¬ (-1 : Int32) = nI l by decide) l hl)
theorem lvL_good {nx : pS → Bool × pS} {l : Nat} (hl : l < 3) (hs : pGood sp nx) : ∀ k q, q.2.1 ≤ sp → q.2.2.1 ≤ 40 → (lvL sg sp l nx k q).2.1 ≤ sp ∧ (lvL sg sp l nx k q).2.2.1 ≤ 40 := by
  intro k
  induction k with
  | zero => intro q h1 h2; exact ⟨h1, h2⟩
  | succ k ih =>
    intro q h1 h2
    unfold lvL
    split
    · rename_i c
      have g := hs (q.2.1 + 1, q.2.2) (hereV_in (lvV_in hl c.2)) h2
      exact ih _ g.1 (emV_le g.2)
    · exact ⟨h1, h2⟩
theorem pLevel_good {nx : pS → Bool × pS} {l : Nat} (hl : l < 3) (hs : pGood sp nx) : pGood sp (pLevel sg sp l nx) := fun s h1 h2 => lvL_good hl hs _ _ (hs s h1 h2).1 (hs s h1 h2).2
end PARSE

