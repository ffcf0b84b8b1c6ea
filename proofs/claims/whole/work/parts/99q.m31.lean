/-! the model: changes as functions of numbers; acts of a story -/
theorem eX11_readsAct_0 {d : Nat} {S : zS} {Q : zR → Prop} : zW d MX11_readsAct 0 S Q = zGo d MX11_readsAct (.aload 0) z0 1 S Q := zW_step (I := .aload_n 0) rfl S Q
theorem eX11_readsAct_1 {d : Nat} {S : zS} {Q : zR → Prop} : zW d MX11_readsAct 1 S Q = zGo d MX11_readsAct (.getfield 223) (zf 0 11 25) 4 S Q := zW_step (I := .getfield 223) rfl S Q
theorem eX11_readsAct_4 {d : Nat} {S : zS} {Q : zR → Prop} : zW d MX11_readsAct 4 S Q = zGo d MX11_readsAct (.istore 1) z0 5 S Q := zW_step (I := .istore_n 1) rfl S Q
theorem eX11_readsAct_5 {d : Nat} {S : zS} {Q : zR → Prop} : zW d MX11_readsAct 5 S Q = zGo d MX11_readsAct (.aload 0) z0 6 S Q := zW_step (I := .aload_n 0) rfl S Q
theorem eX11_readsAct_6 {d : Nat} {S : zS} {Q : zR → Prop} : zW d MX11_readsAct 6 S Q = zGo d MX11_readsAct (.getfield 226) (zf 3 11 21) 9 S Q := zW_step (I := .getfield 226) rfl S Q
theorem eX11_readsAct_9 {d : Nat} {S : zS} {Q : zR → Prop} : zW d MX11_readsAct 9 S Q = zGo d MX11_readsAct (.iload 1) z0 10 S Q := zW_step (I := .iload_n 1) rfl S Q
theorem eX11_readsAct_10 {d : Nat} {S : zS} {Q : zR → Prop} : zW d MX11_readsAct 10 S Q = zGo d MX11_readsAct (.aload 0) z0 11 S Q := zW_step (I := .aload_n 0) rfl S Q
theorem eX11_readsAct_11 {d : Nat} {S : zS} {Q : zR → Prop} : zW d MX11_readsAct 11 S Q = zGo d MX11_readsAct (.ldc 229) (zv (.ref 1006)) 13 S Q := zW_step (I := .ldc 229) rfl S Q
theorem eX11_readsAct_13 {d : Nat} {S : zS} {Q : zR → Prop} : zW d MX11_readsAct 13 S Q = zGo d MX11_readsAct (.invokevirtual 126) (zc 200 2 11) 16 S Q := zW_step (I := .invokevirtual 126) rfl S Q
theorem eX11_readsAct_16 {d : Nat} {S : zS} {Q : zR → Prop} : zW d MX11_readsAct 16 S Q = zGo d MX11_readsAct (.iastore) z0 17 S Q := zW_step (I := .iastore) rfl S Q
theorem eX11_readsAct_17 {d : Nat} {S : zS} {Q : zR → Prop} : zW d MX11_readsAct 17 S Q = zGo d MX11_readsAct (.aload 0) z0 18 S Q := zW_step (I := .aload_n 0) rfl S Q
theorem eX11_readsAct_18 {d : Nat} {S : zS} {Q : zR → Prop} : zW d MX11_readsAct 18 S Q = zGo d MX11_readsAct (.dup) z0 19 S Q := zW_step (I := .dup) rfl S Q
theorem eX11_readsAct_19 {d : Nat} {S : zS} {Q : zR → Prop} : zW d MX11_readsAct 19 S Q = zGo d MX11_readsAct (.getfield 223) (zf 0 11 25) 22 S Q := zW_step (I := .getfield 223) rfl S Q
theorem eX11_readsAct_22 {d : Nat} {S : zS} {Q : zR → Prop} : zW d MX11_readsAct 22 S Q = zGo d MX11_readsAct (.iconst 1) (zv (.int 1)) 23 S Q := zW_step (I := .iconst 1) rfl S Q
theorem eX11_readsAct_23 {d : Nat} {S : zS} {Q : zR → Prop} : zW d MX11_readsAct 23 S Q = zGo d MX11_readsAct (.iadd) z0 24 S Q := zW_step (I := .iadd) rfl S Q
theorem eX11_readsAct_24 {d : Nat} {S : zS} {Q : zR → Prop} : zW d MX11_readsAct 24 S Q = zGo d MX11_readsAct (.putfield 223) (zf 0 11 25) 27 S Q := zW_step (I := .putfield 223) rfl S Q
theorem eX11_readsAct_27 {d : Nat} {S : zS} {Q : zR → Prop} : zW d MX11_readsAct 27 S Q = zGo d MX11_readsAct (.aload 0) z0 28 S Q := zW_step (I := .aload_n 0) rfl S Q
theorem eX11_readsAct_28 {d : Nat} {S : zS} {Q : zR → Prop} : zW d MX11_readsAct 28 S Q = zGo d MX11_readsAct (.getfield 226) (zf 3 11 21) 31 S Q := zW_step (I := .getfield 226) rfl S Q
theorem eX11_readsAct_31 {d : Nat} {S : zS} {Q : zR → Prop} : zW d MX11_readsAct 31 S Q = zGo d MX11_readsAct (.iload 1) z0 32 S Q := zW_step (I := .iload_n 1) rfl S Q
theorem eX11_readsAct_32 {d : Nat} {S : zS} {Q : zR → Prop} : zW d MX11_readsAct 32 S Q = zGo d MX11_readsAct (.iaload) z0 33 S Q := zW_step (I := .iaload) rfl S Q
theorem eX11_readsAct_33 {d : Nat} {S : zS} {Q : zR → Prop} : zW d MX11_readsAct 33 S Q = zGo d MX11_readsAct (.ifCond .ge 5) (zt 38) 36 S Q := zW_step (I := .ifCond .ge 5) rfl S Q
theorem eX11_readsAct_36 {d : Nat} {S : zS} {Q : zR → Prop} : zW d MX11_readsAct 36 S Q = zGo d MX11_readsAct (.iconst 0) (zv (.int 0)) 37 S Q := zW_step (I := .iconst 0) rfl S Q
theorem eX11_readsAct_37 {d : Nat} {S : zS} {Q : zR → Prop} : zW d MX11_readsAct 37 S Q = zGo d MX11_readsAct (.ireturn) z0 38 S Q := zW_step (I := .ireturn) rfl S Q
theorem eX11_readsAct_38 {d : Nat} {S : zS} {Q : zR → Prop} : zW d MX11_readsAct 38 S Q = zGo d MX11_readsAct (.aload 0) z0 39 S Q := zW_step (I := .aload_n 0) rfl S Q
theorem eX11_readsAct_39 {d : Nat} {S : zS} {Q : zR → Prop} : zW d MX11_readsAct 39 S Q = zGo d MX11_readsAct (.getfield 231) (zf 3 11 22) 42 S Q := zW_step (I := .getfield 231) rfl S Q
theorem eX11_readsAct_42 {d : Nat} {S : zS} {Q : zR → Prop} : zW d MX11_readsAct 42 S Q = zGo d MX11_readsAct (.iload 1) z0 43 S Q := zW_step (I := .iload_n 1) rfl S Q
theorem eX11_readsAct_43 {d : Nat} {S : zS} {Q : zR → Prop} : zW d MX11_readsAct 43 S Q = zGo d MX11_readsAct (.aload 0) z0 44 S Q := zW_step (I := .aload_n 0) rfl S Q
theorem eX11_readsAct_44 {d : Nat} {S : zS} {Q : zR → Prop} : zW d MX11_readsAct 44 S Q = zGo d MX11_readsAct (.iconst 0) (zv (.int 0)) 45 S Q := zW_step (I := .iconst 0) rfl S Q
theorem eX11_readsAct_45 {d : Nat} {S : zS} {Q : zR → Prop} : zW d MX11_readsAct 45 S Q = zGo d MX11_readsAct (.aload 0) z0 46 S Q := zW_step (I := .aload_n 0) rfl S Q
theorem eX11_readsAct_46 {d : Nat} {S : zS} {Q : zR → Prop} : zW d MX11_readsAct 46 S Q = zGo d MX11_readsAct (.getfield 226) (zf 3 11 21) 49 S Q := zW_step (I := .getfield 226) rfl S Q
theorem eX11_readsAct_49 {d : Nat} {S : zS} {Q : zR → Prop} : zW d MX11_readsAct 49 S Q = zGo d MX11_readsAct (.iload 1) z0 50 S Q := zW_step (I := .iload_n 1) rfl S Q
theorem eX11_readsAct_50 {d : Nat} {S : zS} {Q : zR → Prop} : zW d MX11_readsAct 50 S Q = zGo d MX11_readsAct (.iaload) z0 51 S Q := zW_step (I := .iaload) rfl S Q
theorem eX11_readsAct_51 {d : Nat} {S : zS} {Q : zR → Prop} : zW d MX11_readsAct 51 S Q = zGo d MX11_readsAct (.iconst 1) (zv (.int 1)) 52 S Q := zW_step (I := .iconst 1) rfl S Q
theorem eX11_readsAct_52 {d : Nat} {S : zS} {Q : zR → Prop} : zW d MX11_readsAct 52 S Q = zGo d MX11_readsAct (.if_icmp .ne 7) (zt 59) 55 S Q := zW_step (I := .if_icmp .ne 7) rfl S Q
theorem eX11_readsAct_55 {d : Nat} {S : zS} {Q : zR → Prop} : zW d MX11_readsAct 55 S Q = zGo d MX11_readsAct (.iconst 1) (zv (.int 1)) 56 S Q := zW_step (I := .iconst 1) rfl S Q
theorem eX11_readsAct_56 {d : Nat} {S : zS} {Q : zR → Prop} : zW d MX11_readsAct 56 S Q = zGo d MX11_readsAct (.goto 5) (zt 61) 59 S Q := zW_step (I := .goto 5) rfl S Q
theorem eX11_readsAct_59 {d : Nat} {S : zS} {Q : zR → Prop} : zW d MX11_readsAct 59 S Q = zGo d MX11_readsAct (.bipush 9) (zv (.int 9)) 61 S Q := zW_step (I := .bipush 9) rfl S Q
theorem eX11_readsAct_61 {d : Nat} {S : zS} {Q : zR → Prop} : zW d MX11_readsAct 61 S Q = zGo d MX11_readsAct (.iconst (-1)) (zv (.int (-1))) 62 S Q := zW_step (I := .iconst (-1)) rfl S Q
theorem eX11_readsAct_62 {d : Nat} {S : zS} {Q : zR → Prop} : zW d MX11_readsAct 62 S Q = zGo d MX11_readsAct (.invokevirtual 120) (zc 202 4 11) 65 S Q := zW_step (I := .invokevirtual 120) rfl S Q
theorem eX11_readsAct_65 {d : Nat} {S : zS} {Q : zR → Prop} : zW d MX11_readsAct 65 S Q = zGo d MX11_readsAct (.iastore) z0 66 S Q := zW_step (I := .iastore) rfl S Q
theorem eX11_readsAct_66 {d : Nat} {S : zS} {Q : zR → Prop} : zW d MX11_readsAct 66 S Q = zGo d MX11_readsAct (.aload 0) z0 67 S Q := zW_step (I := .aload_n 0) rfl S Q
theorem eX11_readsAct_67 {d : Nat} {S : zS} {Q : zR → Prop} : zW d MX11_readsAct 67 S Q = zGo d MX11_readsAct (.getfield 231) (zf 3 11 22) 70 S Q := zW_step (I := .getfield 231) rfl S Q
theorem eX11_readsAct_70 {d : Nat} {S : zS} {Q : zR → Prop} : zW d MX11_readsAct 70 S Q = zGo d MX11_readsAct (.iload 1) z0 71 S Q := zW_step (I := .iload_n 1) rfl S Q
theorem eX11_readsAct_71 {d : Nat} {S : zS} {Q : zR → Prop} : zW d MX11_readsAct 71 S Q = zGo d MX11_readsAct (.iaload) z0 72 S Q := zW_step (I := .iaload) rfl S Q
theorem eX11_readsAct_72 {d : Nat} {S : zS} {Q : zR → Prop} : zW d MX11_readsAct 72 S Q = zGo d MX11_readsAct (.ifCond .lt 13) (zt 85) 75 S Q := zW_step (I := .ifCond .lt 13) rfl S Q
theorem eX11_readsAct_75 {d : Nat} {S : zS} {Q : zR → Prop} : zW d MX11_readsAct 75 S Q = zGo d MX11_readsAct (.aload 0) z0 76 S Q := zW_step (I := .aload_n 0) rfl S Q
theorem eX11_readsAct_76 {d : Nat} {S : zS} {Q : zR → Prop} : zW d MX11_readsAct 76 S Q = zGo d MX11_readsAct (.getfield 226) (zf 3 11 21) 79 S Q := zW_step (I := .getfield 226) rfl S Q
theorem eX11_readsAct_79 {d : Nat} {S : zS} {Q : zR → Prop} : zW d MX11_readsAct 79 S Q = zGo d MX11_readsAct (.iload 1) z0 80 S Q := zW_step (I := .iload_n 1) rfl S Q
theorem eX11_readsAct_80 {d : Nat} {S : zS} {Q : zR → Prop} : zW d MX11_readsAct 80 S Q = zGo d MX11_readsAct (.iaload) z0 81 S Q := zW_step (I := .iaload) rfl S Q
theorem eX11_readsAct_81 {d : Nat} {S : zS} {Q : zR → Prop} : zW d MX11_readsAct 81 S Q = zGo d MX11_readsAct (.iconst 2) (zv (.int 2)) 82 S Q := zW_step (I := .iconst 2) rfl S Q
theorem eX11_readsAct_82 {d : Nat} {S : zS} {Q : zR → Prop} : zW d MX11_readsAct 82 S Q = zGo d MX11_readsAct (.if_icmp .ge 18) (zt 100) 85 S Q := zW_step (I := .if_icmp .ge 18) rfl S Q
theorem eX11_readsAct_85 {d : Nat} {S : zS} {Q : zR → Prop} : zW d MX11_readsAct 85 S Q = zGo d MX11_readsAct (.aload 0) z0 86 S Q := zW_step (I := .aload_n 0) rfl S Q
theorem eX11_readsAct_86 {d : Nat} {S : zS} {Q : zR → Prop} : zW d MX11_readsAct 86 S Q = zGo d MX11_readsAct (.getfield 231) (zf 3 11 22) 89 S Q := zW_step (I := .getfield 231) rfl S Q
theorem eX11_readsAct_89 {d : Nat} {S : zS} {Q : zR → Prop} : zW d MX11_readsAct 89 S Q = zGo d MX11_readsAct (.iload 1) z0 90 S Q := zW_step (I := .iload_n 1) rfl S Q
theorem eX11_readsAct_90 {d : Nat} {S : zS} {Q : zR → Prop} : zW d MX11_readsAct 90 S Q = zGo d MX11_readsAct (.iaload) z0 91 S Q := zW_step (I := .iaload) rfl S Q
theorem eX11_readsAct_91 {d : Nat} {S : zS} {Q : zR → Prop} : zW d MX11_readsAct 91 S Q = zGo d MX11_readsAct (.ifCond .lt 7) (zt 98) 94 S Q := zW_step (I := .ifCond .lt 7) rfl S Q
theorem eX11_readsAct_94 {d : Nat} {S : zS} {Q : zR → Prop} : zW d MX11_readsAct 94 S Q = zGo d MX11_readsAct (.iconst 1) (zv (.int 1)) 95 S Q := zW_step (I := .iconst 1) rfl S Q
theorem eX11_readsAct_95 {d : Nat} {S : zS} {Q : zR → Prop} : zW d MX11_readsAct 95 S Q = zGo d MX11_readsAct (.goto 4) (zt 99) 98 S Q := zW_step (I := .goto 4) rfl S Q
theorem eX11_readsAct_98 {d : Nat} {S : zS} {Q : zR → Prop} : zW d MX11_readsAct 98 S Q = zGo d MX11_readsAct (.iconst 0) (zv (.int 0)) 99 S Q := zW_step (I := .iconst 0) rfl S Q
theorem eX11_readsAct_99 {d : Nat} {S : zS} {Q : zR → Prop} : zW d MX11_readsAct 99 S Q = zGo d MX11_readsAct (.ireturn) z0 100 S Q := zW_step (I := .ireturn) rfl S Q
theorem eX11_readsAct_100 {d : Nat} {S : zS} {Q : zR → Prop} : zW d MX11_readsAct 100 S Q = zGo d MX11_readsAct (.aload 0) z0 101 S Q := zW_step (I := .aload_n 0) rfl S Q
theorem eX11_readsAct_101 {d : Nat} {S : zS} {Q : zR → Prop} : zW d MX11_readsAct 101 S Q = zGo d MX11_readsAct (.getfield 234) (zf 3 11 23) 104 S Q := zW_step (I := .getfield 234) rfl S Q
theorem eX11_readsAct_104 {d : Nat} {S : zS} {Q : zR → Prop} : zW d MX11_readsAct 104 S Q = zGo d MX11_readsAct (.iload 1) z0 105 S Q := zW_step (I := .iload_n 1) rfl S Q
theorem eX11_readsAct_105 {d : Nat} {S : zS} {Q : zR → Prop} : zW d MX11_readsAct 105 S Q = zGo d MX11_readsAct (.aload 0) z0 106 S Q := zW_step (I := .aload_n 0) rfl S Q
theorem eX11_readsAct_106 {d : Nat} {S : zS} {Q : zR → Prop} : zW d MX11_readsAct 106 S Q = zGo d MX11_readsAct (.iconst 1) (zv (.int 1)) 107 S Q := zW_step (I := .iconst 1) rfl S Q
theorem eX11_readsAct_107 {d : Nat} {S : zS} {Q : zR → Prop} : zW d MX11_readsAct 107 S Q = zGo d MX11_readsAct (.invokevirtual 100) (zc 201 2 11) 110 S Q := zW_step (I := .invokevirtual 100) rfl S Q
theorem eX11_readsAct_110 {d : Nat} {S : zS} {Q : zR → Prop} : zW d MX11_readsAct 110 S Q = zGo d MX11_readsAct (.iastore) z0 111 S Q := zW_step (I := .iastore) rfl S Q
theorem eX11_readsAct_111 {d : Nat} {S : zS} {Q : zR → Prop} : zW d MX11_readsAct 111 S Q = zGo d MX11_readsAct (.aload 0) z0 112 S Q := zW_step (I := .aload_n 0) rfl S Q
theorem eX11_readsAct_112 {d : Nat} {S : zS} {Q : zR → Prop} : zW d MX11_readsAct 112 S Q = zGo d MX11_readsAct (.getfield 234) (zf 3 11 23) 115 S Q := zW_step (I := .getfield 234) rfl S Q
theorem eX11_readsAct_115 {d : Nat} {S : zS} {Q : zR → Prop} : zW d MX11_readsAct 115 S Q = zGo d MX11_readsAct (.iload 1) z0 116 S Q := zW_step (I := .iload_n 1) rfl S Q
theorem eX11_readsAct_116 {d : Nat} {S : zS} {Q : zR → Prop} : zW d MX11_readsAct 116 S Q = zGo d MX11_readsAct (.iaload) z0 117 S Q := zW_step (I := .iaload) rfl S Q
theorem eX11_readsAct_117 {d : Nat} {S : zS} {Q : zR → Prop} : zW d MX11_readsAct 117 S Q = zGo d MX11_readsAct (.ifCond .lt 13) (zt 130) 120 S Q := zW_step (I := .ifCond .lt 13) rfl S Q
theorem eX11_readsAct_120 {d : Nat} {S : zS} {Q : zR → Prop} : zW d MX11_readsAct 120 S Q = zGo d MX11_readsAct (.aload 0) z0 121 S Q := zW_step (I := .aload_n 0) rfl S Q
theorem eX11_readsAct_121 {d : Nat} {S : zS} {Q : zR → Prop} : zW d MX11_readsAct 121 S Q = zGo d MX11_readsAct (.getfield 226) (zf 3 11 21) 124 S Q := zW_step (I := .getfield 226) rfl S Q
theorem eX11_readsAct_124 {d : Nat} {S : zS} {Q : zR → Prop} : zW d MX11_readsAct 124 S Q = zGo d MX11_readsAct (.iload 1) z0 125 S Q := zW_step (I := .iload_n 1) rfl S Q
theorem eX11_readsAct_125 {d : Nat} {S : zS} {Q : zR → Prop} : zW d MX11_readsAct 125 S Q = zGo d MX11_readsAct (.iaload) z0 126 S Q := zW_step (I := .iaload) rfl S Q
theorem eX11_readsAct_126 {d : Nat} {S : zS} {Q : zR → Prop} : zW d MX11_readsAct 126 S Q = zGo d MX11_readsAct (.iconst 4) (zv (.int 4)) 127 S Q := zW_step (I := .iconst 4) rfl S Q
theorem eX11_readsAct_127 {d : Nat} {S : zS} {Q : zR → Prop} : zW d MX11_readsAct 127 S Q = zGo d MX11_readsAct (.if_icmp .ge 18) (zt 145) 130 S Q := zW_step (I := .if_icmp .ge 18) rfl S Q
theorem eX11_readsAct_130 {d : Nat} {S : zS} {Q : zR → Prop} : zW d MX11_readsAct 130 S Q = zGo d MX11_readsAct (.aload 0) z0 131 S Q := zW_step (I := .aload_n 0) rfl S Q
theorem eX11_readsAct_131 {d : Nat} {S : zS} {Q : zR → Prop} : zW d MX11_readsAct 131 S Q = zGo d MX11_readsAct (.getfield 234) (zf 3 11 23) 134 S Q := zW_step (I := .getfield 234) rfl S Q
theorem eX11_readsAct_134 {d : Nat} {S : zS} {Q : zR → Prop} : zW d MX11_readsAct 134 S Q = zGo d MX11_readsAct (.iload 1) z0 135 S Q := zW_step (I := .iload_n 1) rfl S Q
theorem eX11_readsAct_135 {d : Nat} {S : zS} {Q : zR → Prop} : zW d MX11_readsAct 135 S Q = zGo d MX11_readsAct (.iaload) z0 136 S Q := zW_step (I := .iaload) rfl S Q
theorem eX11_readsAct_136 {d : Nat} {S : zS} {Q : zR → Prop} : zW d MX11_readsAct 136 S Q = zGo d MX11_readsAct (.ifCond .lt 7) (zt 143) 139 S Q := zW_step (I := .ifCond .lt 7) rfl S Q
theorem eX11_readsAct_139 {d : Nat} {S : zS} {Q : zR → Prop} : zW d MX11_readsAct 139 S Q = zGo d MX11_readsAct (.iconst 1) (zv (.int 1)) 140 S Q := zW_step (I := .iconst 1) rfl S Q
theorem eX11_readsAct_140 {d : Nat} {S : zS} {Q : zR → Prop} : zW d MX11_readsAct 140 S Q = zGo d MX11_readsAct (.goto 4) (zt 144) 143 S Q := zW_step (I := .goto 4) rfl S Q
theorem eX11_readsAct_143 {d : Nat} {S : zS} {Q : zR → Prop} : zW d MX11_readsAct 143 S Q = zGo d MX11_readsAct (.iconst 0) (zv (.int 0)) 144 S Q := zW_step (I := .iconst 0) rfl S Q
theorem eX11_readsAct_144 {d : Nat} {S : zS} {Q : zR → Prop} : zW d MX11_readsAct 144 S Q = zGo d MX11_readsAct (.ireturn) z0 145 S Q := zW_step (I := .ireturn) rfl S Q
theorem eX11_readsAct_145 {d : Nat} {S : zS} {Q : zR → Prop} : zW d MX11_readsAct 145 S Q = zGo d MX11_readsAct (.aload 0) z0 146 S Q := zW_step (I := .aload_n 0) rfl S Q
theorem eX11_readsAct_146 {d : Nat} {S : zS} {Q : zR → Prop} : zW d MX11_readsAct 146 S Q = zGo d MX11_readsAct (.getfield 237) (zf 3 11 24) 149 S Q := zW_step (I := .getfield 237) rfl S Q
theorem eX11_readsAct_149 {d : Nat} {S : zS} {Q : zR → Prop} : zW d MX11_readsAct 149 S Q = zGo d MX11_readsAct (.iload 1) z0 150 S Q := zW_step (I := .iload_n 1) rfl S Q
theorem eX11_readsAct_150 {d : Nat} {S : zS} {Q : zR → Prop} : zW d MX11_readsAct 150 S Q = zGo d MX11_readsAct (.aload 0) z0 151 S Q := zW_step (I := .aload_n 0) rfl S Q
theorem eX11_readsAct_151 {d : Nat} {S : zS} {Q : zR → Prop} : zW d MX11_readsAct 151 S Q = zGo d MX11_readsAct (.ldc 124) (zv (.ref 1002)) 153 S Q := zW_step (I := .ldc 124) rfl S Q
theorem eX11_readsAct_153 {d : Nat} {S : zS} {Q : zR → Prop} : zW d MX11_readsAct 153 S Q = zGo d MX11_readsAct (.invokevirtual 126) (zc 200 2 11) 156 S Q := zW_step (I := .invokevirtual 126) rfl S Q
theorem eX11_readsAct_156 {d : Nat} {S : zS} {Q : zR → Prop} : zW d MX11_readsAct 156 S Q = zGo d MX11_readsAct (.iastore) z0 157 S Q := zW_step (I := .iastore) rfl S Q
theorem eX11_readsAct_157 {d : Nat} {S : zS} {Q : zR → Prop} : zW d MX11_readsAct 157 S Q = zGo d MX11_readsAct (.aload 0) z0 158 S Q := zW_step (I := .aload_n 0) rfl S Q
theorem eX11_readsAct_158 {d : Nat} {S : zS} {Q : zR → Prop} : zW d MX11_readsAct 158 S Q = zGo d MX11_readsAct (.getfield 237) (zf 3 11 24) 161 S Q := zW_step (I := .getfield 237) rfl S Q
theorem eX11_readsAct_161 {d : Nat} {S : zS} {Q : zR → Prop} : zW d MX11_readsAct 161 S Q = zGo d MX11_readsAct (.iload 1) z0 162 S Q := zW_step (I := .iload_n 1) rfl S Q
theorem eX11_readsAct_162 {d : Nat} {S : zS} {Q : zR → Prop} : zW d MX11_readsAct 162 S Q = zGo d MX11_readsAct (.iaload) z0 163 S Q := zW_step (I := .iaload) rfl S Q
theorem eX11_readsAct_163 {d : Nat} {S : zS} {Q : zR → Prop} : zW d MX11_readsAct 163 S Q = zGo d MX11_readsAct (.ifCond .lt 7) (zt 170) 166 S Q := zW_step (I := .ifCond .lt 7) rfl S Q
theorem eX11_readsAct_166 {d : Nat} {S : zS} {Q : zR → Prop} : zW d MX11_readsAct 166 S Q = zGo d MX11_readsAct (.iconst 1) (zv (.int 1)) 167 S Q := zW_step (I := .iconst 1) rfl S Q
theorem eX11_readsAct_167 {d : Nat} {S : zS} {Q : zR → Prop} : zW d MX11_readsAct 167 S Q = zGo d MX11_readsAct (.goto 4) (zt 171) 170 S Q := zW_step (I := .goto 4) rfl S Q
theorem eX11_readsAct_170 {d : Nat} {S : zS} {Q : zR → Prop} : zW d MX11_readsAct 170 S Q = zGo d MX11_readsAct (.iconst 0) (zv (.int 0)) 171 S Q := zW_step (I := .iconst 0) rfl S Q
theorem eX11_readsAct_171 {d : Nat} {S : zS} {Q : zR → Prop} : zW d MX11_readsAct 171 S Q = zGo d MX11_readsAct (.ireturn) z0 172 S Q := zW_step (I := .ireturn) rfl S Q
theorem rX11_readsAct : MX11_readsAct.2.2.2.2.1 = some .boolean := rfl
theorem eX11_does_0 {d : Nat} {S : zS} {Q : zR → Prop} : zW d MX11_does 0 S Q = zGo d MX11_does (.aload 0) z0 1 S Q := zW_step (I := .aload_n 0) rfl S Q
theorem eX11_does_1 {d : Nat} {S : zS} {Q : zR → Prop} : zW d MX11_does 1 S Q = zGo d MX11_does (.getfield 231) (zf 3 11 22) 4 S Q := zW_step (I := .getfield 231) rfl S Q
theorem eX11_does_4 {d : Nat} {S : zS} {Q : zR → Prop} : zW d MX11_does 4 S Q = zGo d MX11_does (.iload 1) z0 5 S Q := zW_step (I := .iload_n 1) rfl S Q
theorem eX11_does_5 {d : Nat} {S : zS} {Q : zR → Prop} : zW d MX11_does 5 S Q = zGo d MX11_does (.iaload) z0 6 S Q := zW_step (I := .iaload) rfl S Q
theorem eX11_does_6 {d : Nat} {S : zS} {Q : zR → Prop} : zW d MX11_does 6 S Q = zGo d MX11_does (.istore 2) z0 7 S Q := zW_step (I := .istore_n 2) rfl S Q
theorem eX11_does_7 {d : Nat} {S : zS} {Q : zR → Prop} : zW d MX11_does 7 S Q = zGo d MX11_does (.aload 0) z0 8 S Q := zW_step (I := .aload_n 0) rfl S Q
theorem eX11_does_8 {d : Nat} {S : zS} {Q : zR → Prop} : zW d MX11_does 8 S Q = zGo d MX11_does (.getfield 226) (zf 3 11 21) 11 S Q := zW_step (I := .getfield 226) rfl S Q
theorem eX11_does_11 {d : Nat} {S : zS} {Q : zR → Prop} : zW d MX11_does 11 S Q = zGo d MX11_does (.iload 1) z0 12 S Q := zW_step (I := .iload_n 1) rfl S Q
theorem eX11_does_12 {d : Nat} {S : zS} {Q : zR → Prop} : zW d MX11_does 12 S Q = zGo d MX11_does (.iaload) z0 13 S Q := zW_step (I := .iaload) rfl S Q
theorem eX11_does_13 {d : Nat} {S : zS} {Q : zR → Prop} : zW d MX11_does 13 S Q = zGo d MX11_does (.tableswitch 99 0 3 #[31, 45, 59, 79]) (112, 0, 0, .null, [(0, 44), (1, 58), (2, 72), (3, 92)]) 44 S Q := zW_step (I := .tableswitch 99 0 3 #[31, 45, 59, 79]) rfl S Q
theorem eX11_does_44 {d : Nat} {S : zS} {Q : zR → Prop} : zW d MX11_does 44 S Q = zGo d MX11_does (.aload 0) z0 45 S Q := zW_step (I := .aload_n 0) rfl S Q
theorem eX11_does_45 {d : Nat} {S : zS} {Q : zR → Prop} : zW d MX11_does 45 S Q = zGo d MX11_does (.iload 2) z0 46 S Q := zW_step (I := .iload_n 2) rfl S Q
theorem eX11_does_46 {d : Nat} {S : zS} {Q : zR → Prop} : zW d MX11_does 46 S Q = zGo d MX11_does (.invokevirtual 211) (zc 223 2 11) 49 S Q := zW_step (I := .invokevirtual 211) rfl S Q
theorem eX11_does_49 {d : Nat} {S : zS} {Q : zR → Prop} : zW d MX11_does 49 S Q = zGo d MX11_does (.ifCond .lt 7) (zt 56) 52 S Q := zW_step (I := .ifCond .lt 7) rfl S Q
theorem eX11_does_52 {d : Nat} {S : zS} {Q : zR → Prop} : zW d MX11_does 52 S Q = zGo d MX11_does (.iconst 1) (zv (.int 1)) 53 S Q := zW_step (I := .iconst 1) rfl S Q
theorem eX11_does_53 {d : Nat} {S : zS} {Q : zR → Prop} : zW d MX11_does 53 S Q = zGo d MX11_does (.goto 4) (zt 57) 56 S Q := zW_step (I := .goto 4) rfl S Q
theorem eX11_does_56 {d : Nat} {S : zS} {Q : zR → Prop} : zW d MX11_does 56 S Q = zGo d MX11_does (.iconst 0) (zv (.int 0)) 57 S Q := zW_step (I := .iconst 0) rfl S Q
theorem eX11_does_57 {d : Nat} {S : zS} {Q : zR → Prop} : zW d MX11_does 57 S Q = zGo d MX11_does (.ireturn) z0 58 S Q := zW_step (I := .ireturn) rfl S Q
theorem eX11_does_58 {d : Nat} {S : zS} {Q : zR → Prop} : zW d MX11_does 58 S Q = zGo d MX11_does (.aload 0) z0 59 S Q := zW_step (I := .aload_n 0) rfl S Q
theorem eX11_does_59 {d : Nat} {S : zS} {Q : zR → Prop} : zW d MX11_does 59 S Q = zGo d MX11_does (.iload 2) z0 60 S Q := zW_step (I := .iload_n 2) rfl S Q
theorem eX11_does_60 {d : Nat} {S : zS} {Q : zR → Prop} : zW d MX11_does 60 S Q = zGo d MX11_does (.invokevirtual 220) (zc 226 2 11) 63 S Q := zW_step (I := .invokevirtual 220) rfl S Q
theorem eX11_does_63 {d : Nat} {S : zS} {Q : zR → Prop} : zW d MX11_does 63 S Q = zGo d MX11_does (.ifCond .lt 7) (zt 70) 66 S Q := zW_step (I := .ifCond .lt 7) rfl S Q
theorem eX11_does_66 {d : Nat} {S : zS} {Q : zR → Prop} : zW d MX11_does 66 S Q = zGo d MX11_does (.iconst 1) (zv (.int 1)) 67 S Q := zW_step (I := .iconst 1) rfl S Q
theorem eX11_does_67 {d : Nat} {S : zS} {Q : zR → Prop} : zW d MX11_does 67 S Q = zGo d MX11_does (.goto 4) (zt 71) 70 S Q := zW_step (I := .goto 4) rfl S Q
theorem eX11_does_70 {d : Nat} {S : zS} {Q : zR → Prop} : zW d MX11_does 70 S Q = zGo d MX11_does (.iconst 0) (zv (.int 0)) 71 S Q := zW_step (I := .iconst 0) rfl S Q
theorem eX11_does_71 {d : Nat} {S : zS} {Q : zR → Prop} : zW d MX11_does 71 S Q = zGo d MX11_does (.ireturn) z0 72 S Q := zW_step (I := .ireturn) rfl S Q
theorem eX11_does_72 {d : Nat} {S : zS} {Q : zR → Prop} : zW d MX11_does 72 S Q = zGo d MX11_does (.aload 0) z0 73 S Q := zW_step (I := .aload_n 0) rfl S Q
theorem eX11_does_73 {d : Nat} {S : zS} {Q : zR → Prop} : zW d MX11_does 73 S Q = zGo d MX11_does (.iload 2) z0 74 S Q := zW_step (I := .iload_n 2) rfl S Q
theorem eX11_does_74 {d : Nat} {S : zS} {Q : zR → Prop} : zW d MX11_does 74 S Q = zGo d MX11_does (.aload 0) z0 75 S Q := zW_step (I := .aload_n 0) rfl S Q
theorem eX11_does_75 {d : Nat} {S : zS} {Q : zR → Prop} : zW d MX11_does 75 S Q = zGo d MX11_does (.getfield 234) (zf 3 11 23) 78 S Q := zW_step (I := .getfield 234) rfl S Q
theorem eX11_does_78 {d : Nat} {S : zS} {Q : zR → Prop} : zW d MX11_does 78 S Q = zGo d MX11_does (.iload 1) z0 79 S Q := zW_step (I := .iload_n 1) rfl S Q
theorem eX11_does_79 {d : Nat} {S : zS} {Q : zR → Prop} : zW d MX11_does 79 S Q = zGo d MX11_does (.iaload) z0 80 S Q := zW_step (I := .iaload) rfl S Q
theorem eX11_does_80 {d : Nat} {S : zS} {Q : zR → Prop} : zW d MX11_does 80 S Q = zGo d MX11_does (.invokevirtual 214) (zc 224 3 11) 83 S Q := zW_step (I := .invokevirtual 214) rfl S Q
theorem eX11_does_83 {d : Nat} {S : zS} {Q : zR → Prop} : zW d MX11_does 83 S Q = zGo d MX11_does (.ifCond .lt 7) (zt 90) 86 S Q := zW_step (I := .ifCond .lt 7) rfl S Q
theorem eX11_does_86 {d : Nat} {S : zS} {Q : zR → Prop} : zW d MX11_does 86 S Q = zGo d MX11_does (.iconst 1) (zv (.int 1)) 87 S Q := zW_step (I := .iconst 1) rfl S Q
theorem eX11_does_87 {d : Nat} {S : zS} {Q : zR → Prop} : zW d MX11_does 87 S Q = zGo d MX11_does (.goto 4) (zt 91) 90 S Q := zW_step (I := .goto 4) rfl S Q
theorem eX11_does_90 {d : Nat} {S : zS} {Q : zR → Prop} : zW d MX11_does 90 S Q = zGo d MX11_does (.iconst 0) (zv (.int 0)) 91 S Q := zW_step (I := .iconst 0) rfl S Q
theorem eX11_does_91 {d : Nat} {S : zS} {Q : zR → Prop} : zW d MX11_does 91 S Q = zGo d MX11_does (.ireturn) z0 92 S Q := zW_step (I := .ireturn) rfl S Q
theorem eX11_does_92 {d : Nat} {S : zS} {Q : zR → Prop} : zW d MX11_does 92 S Q = zGo d MX11_does (.aload 0) z0 93 S Q := zW_step (I := .aload_n 0) rfl S Q
theorem eX11_does_93 {d : Nat} {S : zS} {Q : zR → Prop} : zW d MX11_does 93 S Q = zGo d MX11_does (.iload 2) z0 94 S Q := zW_step (I := .iload_n 2) rfl S Q
theorem eX11_does_94 {d : Nat} {S : zS} {Q : zR → Prop} : zW d MX11_does 94 S Q = zGo d MX11_does (.aload 0) z0 95 S Q := zW_step (I := .aload_n 0) rfl S Q
theorem eX11_does_95 {d : Nat} {S : zS} {Q : zR → Prop} : zW d MX11_does 95 S Q = zGo d MX11_does (.getfield 234) (zf 3 11 23) 98 S Q := zW_step (I := .getfield 234) rfl S Q
theorem eX11_does_98 {d : Nat} {S : zS} {Q : zR → Prop} : zW d MX11_does 98 S Q = zGo d MX11_does (.iload 1) z0 99 S Q := zW_step (I := .iload_n 1) rfl S Q
theorem eX11_does_99 {d : Nat} {S : zS} {Q : zR → Prop} : zW d MX11_does 99 S Q = zGo d MX11_does (.iaload) z0 100 S Q := zW_step (I := .iaload) rfl S Q
theorem eX11_does_100 {d : Nat} {S : zS} {Q : zR → Prop} : zW d MX11_does 100 S Q = zGo d MX11_does (.invokevirtual 217) (zc 225 3 11) 103 S Q := zW_step (I := .invokevirtual 217) rfl S Q
theorem eX11_does_103 {d : Nat} {S : zS} {Q : zR → Prop} : zW d MX11_does 103 S Q = zGo d MX11_does (.ifCond .lt 7) (zt 110) 106 S Q := zW_step (I := .ifCond .lt 7) rfl S Q
theorem eX11_does_106 {d : Nat} {S : zS} {Q : zR → Prop} : zW d MX11_does 106 S Q = zGo d MX11_does (.iconst 1) (zv (.int 1)) 107 S Q := zW_step (I := .iconst 1) rfl S Q
theorem eX11_does_107 {d : Nat} {S : zS} {Q : zR → Prop} : zW d MX11_does 107 S Q = zGo d MX11_does (.goto 4) (zt 111) 110 S Q := zW_step (I := .goto 4) rfl S Q
theorem eX11_does_110 {d : Nat} {S : zS} {Q : zR → Prop} : zW d MX11_does 110 S Q = zGo d MX11_does (.iconst 0) (zv (.int 0)) 111 S Q := zW_step (I := .iconst 0) rfl S Q
theorem eX11_does_111 {d : Nat} {S : zS} {Q : zR → Prop} : zW d MX11_does 111 S Q = zGo d MX11_does (.ireturn) z0 112 S Q := zW_step (I := .ireturn) rfl S Q
theorem eX11_does_112 {d : Nat} {S : zS} {Q : zR → Prop} : zW d MX11_does 112 S Q = zGo d MX11_does (.aload 0) z0 113 S Q := zW_step (I := .aload_n 0) rfl S Q
theorem eX11_does_113 {d : Nat} {S : zS} {Q : zR → Prop} : zW d MX11_does 113 S Q = zGo d MX11_does (.iload 2) z0 114 S Q := zW_step (I := .iload_n 2) rfl S Q
theorem eX11_does_114 {d : Nat} {S : zS} {Q : zR → Prop} : zW d MX11_does 114 S Q = zGo d MX11_does (.aload 0) z0 115 S Q := zW_step (I := .aload_n 0) rfl S Q
theorem eX11_does_115 {d : Nat} {S : zS} {Q : zR → Prop} : zW d MX11_does 115 S Q = zGo d MX11_does (.getfield 234) (zf 3 11 23) 118 S Q := zW_step (I := .getfield 234) rfl S Q
theorem eX11_does_118 {d : Nat} {S : zS} {Q : zR → Prop} : zW d MX11_does 118 S Q = zGo d MX11_does (.iload 1) z0 119 S Q := zW_step (I := .iload_n 1) rfl S Q
theorem eX11_does_119 {d : Nat} {S : zS} {Q : zR → Prop} : zW d MX11_does 119 S Q = zGo d MX11_does (.iaload) z0 120 S Q := zW_step (I := .iaload) rfl S Q
theorem eX11_does_120 {d : Nat} {S : zS} {Q : zR → Prop} : zW d MX11_does 120 S Q = zGo d MX11_does (.aload 0) z0 121 S Q := zW_step (I := .aload_n 0) rfl S Q
theorem eX11_does_121 {d : Nat} {S : zS} {Q : zR → Prop} : zW d MX11_does 121 S Q = zGo d MX11_does (.getfield 237) (zf 3 11 24) 124 S Q := zW_step (I := .getfield 237) rfl S Q
theorem eX11_does_124 {d : Nat} {S : zS} {Q : zR → Prop} : zW d MX11_does 124 S Q = zGo d MX11_does (.iload 1) z0 125 S Q := zW_step (I := .iload_n 1) rfl S Q
theorem eX11_does_125 {d : Nat} {S : zS} {Q : zR → Prop} : zW d MX11_does 125 S Q = zGo d MX11_does (.iaload) z0 126 S Q := zW_step (I := .iaload) rfl S Q
theorem eX11_does_126 {d : Nat} {S : zS} {Q : zR → Prop} : zW d MX11_does 126 S Q = zGo d MX11_does (.invokevirtual 205) (zc 222 4 11) 129 S Q := zW_step (I := .invokevirtual 205) rfl S Q
theorem eX11_does_129 {d : Nat} {S : zS} {Q : zR → Prop} : zW d MX11_does 129 S Q = zGo d MX11_does (.ifCond .lt 7) (zt 136) 132 S Q := zW_step (I := .ifCond .lt 7) rfl S Q
theorem eX11_does_132 {d : Nat} {S : zS} {Q : zR → Prop} : zW d MX11_does 132 S Q = zGo d MX11_does (.iconst 1) (zv (.int 1)) 133 S Q := zW_step (I := .iconst 1) rfl S Q
theorem eX11_does_133 {d : Nat} {S : zS} {Q : zR → Prop} : zW d MX11_does 133 S Q = zGo d MX11_does (.goto 4) (zt 137) 136 S Q := zW_step (I := .goto 4) rfl S Q
theorem eX11_does_136 {d : Nat} {S : zS} {Q : zR → Prop} : zW d MX11_does 136 S Q = zGo d MX11_does (.iconst 0) (zv (.int 0)) 137 S Q := zW_step (I := .iconst 0) rfl S Q
theorem eX11_does_137 {d : Nat} {S : zS} {Q : zR → Prop} : zW d MX11_does 137 S Q = zGo d MX11_does (.ireturn) z0 138 S Q := zW_step (I := .ireturn) rfl S Q
theorem rX11_does : MX11_does.2.2.2.2.1 = some .boolean := rfl
theorem eX11_story_0 {d : Nat} {S : zS} {Q : zR → Prop} : zW d MX11_story 0 S Q = zGo d MX11_story (.aload 0) z0 1 S Q := zW_step (I := .aload_n 0) rfl S Q
theorem eX11_story_1 {d : Nat} {S : zS} {Q : zR → Prop} : zW d MX11_story 1 S Q = zGo d MX11_story (.iconst 0) (zv (.int 0)) 2 S Q := zW_step (I := .iconst 0) rfl S Q
theorem eX11_story_2 {d : Nat} {S : zS} {Q : zR → Prop} : zW d MX11_story 2 S Q = zGo d MX11_story (.putfield 3) (zf 0 11 0) 5 S Q := zW_step (I := .putfield 3) rfl S Q
theorem eX11_story_5 {d : Nat} {S : zS} {Q : zR → Prop} : zW d MX11_story 5 S Q = zGo d MX11_story (.aload 0) z0 6 S Q := zW_step (I := .aload_n 0) rfl S Q
theorem eX11_story_6 {d : Nat} {S : zS} {Q : zR → Prop} : zW d MX11_story 6 S Q = zGo d MX11_story (.bipush 60) (zv (.int 60)) 8 S Q := zW_step (I := .bipush 60) rfl S Q
theorem eX11_story_8 {d : Nat} {S : zS} {Q : zR → Prop} : zW d MX11_story 8 S Q = zGo d MX11_story (.invokevirtual 91) (zc 197 2 11) 11 S Q := zW_step (I := .invokevirtual 91) rfl S Q
theorem eX11_story_11 {d : Nat} {S : zS} {Q : zR → Prop} : zW d MX11_story 11 S Q = zGo d MX11_story (.istore 1) z0 12 S Q := zW_step (I := .istore_n 1) rfl S Q
theorem eX11_story_12 {d : Nat} {S : zS} {Q : zR → Prop} : zW d MX11_story 12 S Q = zGo d MX11_story (.aload 0) z0 13 S Q := zW_step (I := .aload_n 0) rfl S Q
theorem eX11_story_13 {d : Nat} {S : zS} {Q : zR → Prop} : zW d MX11_story 13 S Q = zGo d MX11_story (.iconst 0) (zv (.int 0)) 14 S Q := zW_step (I := .iconst 0) rfl S Q
theorem eX11_story_14 {d : Nat} {S : zS} {Q : zR → Prop} : zW d MX11_story 14 S Q = zGo d MX11_story (.putfield 223) (zf 0 11 25) 17 S Q := zW_step (I := .putfield 223) rfl S Q
theorem eX11_story_17 {d : Nat} {S : zS} {Q : zR → Prop} : zW d MX11_story 17 S Q = zGo d MX11_story (.iconst 1) (zv (.int 1)) 18 S Q := zW_step (I := .iconst 1) rfl S Q
theorem eX11_story_18 {d : Nat} {S : zS} {Q : zR → Prop} : zW d MX11_story 18 S Q = zGo d MX11_story (.istore 2) z0 19 S Q := zW_step (I := .istore_n 2) rfl S Q
theorem eX11_story_19 {d : Nat} {S : zS} {Q : zR → Prop} : zW d MX11_story 19 S Q = zGo d MX11_story (.iload 2) z0 20 S Q := zW_step (I := .iload_n 2) rfl S Q
theorem eX11_story_20 {d : Nat} {S : zS} {Q : zR → Prop} : zW d MX11_story 20 S Q = zGo d MX11_story (.ifCond .eq 22) (zt 42) 23 S Q := zW_step (I := .ifCond .eq 22) rfl S Q
theorem eX11_story_23 {d : Nat} {S : zS} {Q : zR → Prop} : zW d MX11_story 23 S Q = zGo d MX11_story (.aload 0) z0 24 S Q := zW_step (I := .aload_n 0) rfl S Q
theorem eX11_story_24 {d : Nat} {S : zS} {Q : zR → Prop} : zW d MX11_story 24 S Q = zGo d MX11_story (.getfield 56) (zf 0 11 8) 27 S Q := zW_step (I := .getfield 56) rfl S Q
theorem eX11_story_27 {d : Nat} {S : zS} {Q : zR → Prop} : zW d MX11_story 27 S Q = zGo d MX11_story (.aload 0) z0 28 S Q := zW_step (I := .aload_n 0) rfl S Q
theorem eX11_story_28 {d : Nat} {S : zS} {Q : zR → Prop} : zW d MX11_story 28 S Q = zGo d MX11_story (.getfield 66) (zf 0 11 9) 31 S Q := zW_step (I := .getfield 66) rfl S Q
theorem eX11_story_31 {d : Nat} {S : zS} {Q : zR → Prop} : zW d MX11_story 31 S Q = zGo d MX11_story (.if_icmp .ge 11) (zt 42) 34 S Q := zW_step (I := .if_icmp .ge 11) rfl S Q
theorem eX11_story_34 {d : Nat} {S : zS} {Q : zR → Prop} : zW d MX11_story 34 S Q = zGo d MX11_story (.aload 0) z0 35 S Q := zW_step (I := .aload_n 0) rfl S Q
theorem eX11_story_35 {d : Nat} {S : zS} {Q : zR → Prop} : zW d MX11_story 35 S Q = zGo d MX11_story (.invokevirtual 240) (zc 232 1 11) 38 S Q := zW_step (I := .invokevirtual 240) rfl S Q
theorem eX11_story_38 {d : Nat} {S : zS} {Q : zR → Prop} : zW d MX11_story 38 S Q = zGo d MX11_story (.istore 2) z0 39 S Q := zW_step (I := .istore_n 2) rfl S Q
theorem eX11_story_39 {d : Nat} {S : zS} {Q : zR → Prop} : zW d MX11_story 39 S Q = zGo d MX11_story (.goto (-20)) (zt 19) 42 S Q := zW_step (I := .goto (-20)) rfl S Q
theorem eX11_story_42 {d : Nat} {S : zS} {Q : zR → Prop} : zW d MX11_story 42 S Q = zGo d MX11_story (.aload 0) z0 43 S Q := zW_step (I := .aload_n 0) rfl S Q
theorem eX11_story_43 {d : Nat} {S : zS} {Q : zR → Prop} : zW d MX11_story 43 S Q = zGo d MX11_story (.iload 1) z0 44 S Q := zW_step (I := .iload_n 1) rfl S Q
theorem eX11_story_44 {d : Nat} {S : zS} {Q : zR → Prop} : zW d MX11_story 44 S Q = zGo d MX11_story (.bipush 60) (zv (.int 60)) 46 S Q := zW_step (I := .bipush 60) rfl S Q
theorem eX11_story_46 {d : Nat} {S : zS} {Q : zR → Prop} : zW d MX11_story 46 S Q = zGo d MX11_story (.iload 2) z0 47 S Q := zW_step (I := .iload_n 2) rfl S Q
theorem eX11_story_47 {d : Nat} {S : zS} {Q : zR → Prop} : zW d MX11_story 47 S Q = zGo d MX11_story (.invokevirtual 106) (zc 203 4 11) 50 S Q := zW_step (I := .invokevirtual 106) rfl S Q
theorem eX11_story_50 {d : Nat} {S : zS} {Q : zR → Prop} : zW d MX11_story 50 S Q = zGo d MX11_story (.istore 3) z0 51 S Q := zW_step (I := .istore_n 3) rfl S Q
theorem eX11_story_51 {d : Nat} {S : zS} {Q : zR → Prop} : zW d MX11_story 51 S Q = zGo d MX11_story (.iload 3) z0 52 S Q := zW_step (I := .iload_n 3) rfl S Q
theorem eX11_story_52 {d : Nat} {S : zS} {Q : zR → Prop} : zW d MX11_story 52 S Q = zGo d MX11_story (.ifCond .ge 5) (zt 57) 55 S Q := zW_step (I := .ifCond .ge 5) rfl S Q
theorem eX11_story_55 {d : Nat} {S : zS} {Q : zR → Prop} : zW d MX11_story 55 S Q = zGo d MX11_story (.iload 3) z0 56 S Q := zW_step (I := .iload_n 3) rfl S Q
theorem eX11_story_56 {d : Nat} {S : zS} {Q : zR → Prop} : zW d MX11_story 56 S Q = zGo d MX11_story (.ireturn) z0 57 S Q := zW_step (I := .ireturn) rfl S Q
theorem eX11_story_57 {d : Nat} {S : zS} {Q : zR → Prop} : zW d MX11_story 57 S Q = zGo d MX11_story (.aload 0) z0 58 S Q := zW_step (I := .aload_n 0) rfl S Q
theorem eX11_story_58 {d : Nat} {S : zS} {Q : zR → Prop} : zW d MX11_story 58 S Q = zGo d MX11_story (.invokevirtual 130) (zc 218 1 11) 61 S Q := zW_step (I := .invokevirtual 130) rfl S Q
theorem eX11_story_61 {d : Nat} {S : zS} {Q : zR → Prop} : zW d MX11_story 61 S Q = zGo d MX11_story (.iconst 0) (zv (.int 0)) 62 S Q := zW_step (I := .iconst 0) rfl S Q
theorem eX11_story_62 {d : Nat} {S : zS} {Q : zR → Prop} : zW d MX11_story 62 S Q = zGo d MX11_story (.istore 4) z0 64 S Q := zW_step (I := .istore 4) rfl S Q
theorem eX11_story_64 {d : Nat} {S : zS} {Q : zR → Prop} : zW d MX11_story 64 S Q = zGo d MX11_story (.iload 4) z0 66 S Q := zW_step (I := .iload 4) rfl S Q
theorem eX11_story_66 {d : Nat} {S : zS} {Q : zR → Prop} : zW d MX11_story 66 S Q = zGo d MX11_story (.aload 0) z0 67 S Q := zW_step (I := .aload_n 0) rfl S Q
theorem eX11_story_67 {d : Nat} {S : zS} {Q : zR → Prop} : zW d MX11_story 67 S Q = zGo d MX11_story (.getfield 223) (zf 0 11 25) 70 S Q := zW_step (I := .getfield 223) rfl S Q
theorem eX11_story_70 {d : Nat} {S : zS} {Q : zR → Prop} : zW d MX11_story 70 S Q = zGo d MX11_story (.if_icmp .ge 18) (zt 88) 73 S Q := zW_step (I := .if_icmp .ge 18) rfl S Q
theorem eX11_story_73 {d : Nat} {S : zS} {Q : zR → Prop} : zW d MX11_story 73 S Q = zGo d MX11_story (.aload 0) z0 74 S Q := zW_step (I := .aload_n 0) rfl S Q
theorem eX11_story_74 {d : Nat} {S : zS} {Q : zR → Prop} : zW d MX11_story 74 S Q = zGo d MX11_story (.iload 4) z0 76 S Q := zW_step (I := .iload 4) rfl S Q
theorem eX11_story_76 {d : Nat} {S : zS} {Q : zR → Prop} : zW d MX11_story 76 S Q = zGo d MX11_story (.invokevirtual 243) (zc 233 2 11) 79 S Q := zW_step (I := .invokevirtual 243) rfl S Q
theorem eX11_story_79 {d : Nat} {S : zS} {Q : zR → Prop} : zW d MX11_story 79 S Q = zGo d MX11_story (.ifCond .eq 9) (zt 88) 82 S Q := zW_step (I := .ifCond .eq 9) rfl S Q
theorem eX11_story_82 {d : Nat} {S : zS} {Q : zR → Prop} : zW d MX11_story 82 S Q = zGo d MX11_story (.iinc 4 1) (zv (.int 1)) 85 S Q := zW_step (I := .iinc 4 1) rfl S Q
theorem eX11_story_85 {d : Nat} {S : zS} {Q : zR → Prop} : zW d MX11_story 85 S Q = zGo d MX11_story (.goto (-21)) (zt 64) 88 S Q := zW_step (I := .goto (-21)) rfl S Q
theorem eX11_story_88 {d : Nat} {S : zS} {Q : zR → Prop} : zW d MX11_story 88 S Q = zGo d MX11_story (.aload 0) z0 89 S Q := zW_step (I := .aload_n 0) rfl S Q
theorem eX11_story_89 {d : Nat} {S : zS} {Q : zR → Prop} : zW d MX11_story 89 S Q = zGo d MX11_story (.iconst 0) (zv (.int 0)) 90 S Q := zW_step (I := .iconst 0) rfl S Q
theorem eX11_story_90 {d : Nat} {S : zS} {Q : zR → Prop} : zW d MX11_story 90 S Q = zGo d MX11_story (.putfield 15) (zf 0 11 1) 93 S Q := zW_step (I := .putfield 15) rfl S Q
theorem eX11_story_93 {d : Nat} {S : zS} {Q : zR → Prop} : zW d MX11_story 93 S Q = zGo d MX11_story (.aload 0) z0 94 S Q := zW_step (I := .aload_n 0) rfl S Q
theorem eX11_story_94 {d : Nat} {S : zS} {Q : zR → Prop} : zW d MX11_story 94 S Q = zGo d MX11_story (.iload 4) z0 96 S Q := zW_step (I := .iload 4) rfl S Q
theorem eX11_story_96 {d : Nat} {S : zS} {Q : zR → Prop} : zW d MX11_story 96 S Q = zGo d MX11_story (.aload 0) z0 97 S Q := zW_step (I := .aload_n 0) rfl S Q
theorem eX11_story_97 {d : Nat} {S : zS} {Q : zR → Prop} : zW d MX11_story 97 S Q = zGo d MX11_story (.getfield 223) (zf 0 11 25) 100 S Q := zW_step (I := .getfield 223) rfl S Q
theorem eX11_story_100 {d : Nat} {S : zS} {Q : zR → Prop} : zW d MX11_story 100 S Q = zGo d MX11_story (.if_icmp .ge 7) (zt 107) 103 S Q := zW_step (I := .if_icmp .ge 7) rfl S Q
theorem eX11_story_103 {d : Nat} {S : zS} {Q : zR → Prop} : zW d MX11_story 103 S Q = zGo d MX11_story (.iconst 1) (zv (.int 1)) 104 S Q := zW_step (I := .iconst 1) rfl S Q
theorem eX11_story_104 {d : Nat} {S : zS} {Q : zR → Prop} : zW d MX11_story 104 S Q = zGo d MX11_story (.goto 4) (zt 108) 107 S Q := zW_step (I := .goto 4) rfl S Q
theorem eX11_story_107 {d : Nat} {S : zS} {Q : zR → Prop} : zW d MX11_story 107 S Q = zGo d MX11_story (.iconst 0) (zv (.int 0)) 108 S Q := zW_step (I := .iconst 0) rfl S Q
theorem eX11_story_108 {d : Nat} {S : zS} {Q : zR → Prop} : zW d MX11_story 108 S Q = zGo d MX11_story (.invokestatic 69) (zc 184 1 0) 111 S Q := zW_step (I := .invokestatic 69) rfl S Q
theorem eX11_story_111 {d : Nat} {S : zS} {Q : zR → Prop} : zW d MX11_story 111 S Q = zGo d MX11_story (.i2l) z0 112 S Q := zW_step (I := .i2l) rfl S Q
theorem eX11_story_112 {d : Nat} {S : zS} {Q : zR → Prop} : zW d MX11_story 112 S Q = zGo d MX11_story (.invokevirtual 18) (zc 186 2 11) 115 S Q := zW_step (I := .invokevirtual 18) rfl S Q
theorem eX11_story_115 {d : Nat} {S : zS} {Q : zR → Prop} : zW d MX11_story 115 S Q = zGo d MX11_story (.aload 0) z0 116 S Q := zW_step (I := .aload_n 0) rfl S Q
theorem eX11_story_116 {d : Nat} {S : zS} {Q : zR → Prop} : zW d MX11_story 116 S Q = zGo d MX11_story (.aload 0) z0 117 S Q := zW_step (I := .aload_n 0) rfl S Q
theorem eX11_story_117 {d : Nat} {S : zS} {Q : zR → Prop} : zW d MX11_story 117 S Q = zGo d MX11_story (.iconst 2) (zv (.int 2)) 118 S Q := zW_step (I := .iconst 2) rfl S Q
theorem eX11_story_118 {d : Nat} {S : zS} {Q : zR → Prop} : zW d MX11_story 118 S Q = zGo d MX11_story (.invokevirtual 246) (zc 193 2 11) 121 S Q := zW_step (I := .invokevirtual 246) rfl S Q
theorem eX11_story_121 {d : Nat} {S : zS} {Q : zR → Prop} : zW d MX11_story 121 S Q = zGo d MX11_story (.i2l) z0 122 S Q := zW_step (I := .i2l) rfl S Q
theorem eX11_story_122 {d : Nat} {S : zS} {Q : zR → Prop} : zW d MX11_story 122 S Q = zGo d MX11_story (.invokevirtual 18) (zc 186 2 11) 125 S Q := zW_step (I := .invokevirtual 18) rfl S Q
theorem eX11_story_125 {d : Nat} {S : zS} {Q : zR → Prop} : zW d MX11_story 125 S Q = zGo d MX11_story (.iload 4) z0 127 S Q := zW_step (I := .iload 4) rfl S Q
theorem eX11_story_127 {d : Nat} {S : zS} {Q : zR → Prop} : zW d MX11_story 127 S Q = zGo d MX11_story (.ifCond .le 12) (zt 139) 130 S Q := zW_step (I := .ifCond .le 12) rfl S Q
theorem eX11_story_130 {d : Nat} {S : zS} {Q : zR → Prop} : zW d MX11_story 130 S Q = zGo d MX11_story (.aload 0) z0 131 S Q := zW_step (I := .aload_n 0) rfl S Q
theorem eX11_story_131 {d : Nat} {S : zS} {Q : zR → Prop} : zW d MX11_story 131 S Q = zGo d MX11_story (.iload 4) z0 133 S Q := zW_step (I := .iload 4) rfl S Q
theorem eX11_story_133 {d : Nat} {S : zS} {Q : zR → Prop} : zW d MX11_story 133 S Q = zGo d MX11_story (.invokevirtual 137) (zc 219 2 11) 136 S Q := zW_step (I := .invokevirtual 137) rfl S Q
theorem eX11_story_136 {d : Nat} {S : zS} {Q : zR → Prop} : zW d MX11_story 136 S Q = zGo d MX11_story (.goto 4) (zt 140) 139 S Q := zW_step (I := .goto 4) rfl S Q
theorem eX11_story_139 {d : Nat} {S : zS} {Q : zR → Prop} : zW d MX11_story 139 S Q = zGo d MX11_story (.iconst 0) (zv (.int 0)) 140 S Q := zW_step (I := .iconst 0) rfl S Q
theorem eX11_story_140 {d : Nat} {S : zS} {Q : zR → Prop} : zW d MX11_story 140 S Q = zGo d MX11_story (.ireturn) z0 141 S Q := zW_step (I := .ireturn) rfl S Q
theorem rX11_story : MX11_story.2.2.2.2.1 = some .int := rfl
section M31
variable {h : Nat → zE} {th : Int32} {to : Int32} {row : Nat → Int64} {gu : Int32} {ch : Int32} {now : Nat → Int32} {tape : Nat → Int32} {tp : Int32} {pt : Int32} {tt : Int32} {ne : Int32} {rd : Nat → Int32} {rM : Int32} {code : Nat → Int32} {rc : Nat → Int32} {cL : Int32} {cR : Int32} {stk : Nat → Int32} {ask : Nat → Int32} {un : Int32} {und : Nat → Int32} {aS : Nat → Int32} {aO : Nat → Int32} {aW : Nat → Int32} {aH : Nat → Int32} {ac : Int32} {thr : Nat → Int32} {ins : Nat → Int32} {gon : Nat → Int32} {nO : Nat → Int32} {mO : Nat → Int32} {rO : Nat → Int32} {wy : Nat → Int64} {ah : Nat → Int64} {late : Nat → Int32} {soon : Nat → Int32} {yet : Nat → Int32} {cir : Nat → Int32} {bed : Nat → Int32} {stp : Nat → Int32} {oO : Nat → Int32} {oW : Nat → Int32} {win : Nat → Int32} {wc : Nat → Int32} {rn : Int32} {wer : Nat → Int32} {iK : Nat → Int32} {kC : Nat → Int32} {kep : Nat → Int32}
variable {d : Nat} {u : zU} {Q : zR → Prop} {H : zH} {n k p t len : Nat} {sg : Nat → Nat}
theorem tho_bit (now : Nat → Int32) (g : Nat) (v : Int32) : ∀ i b, (itr (thoF now g v) 0 i).testBit b = decide (b < i ∧ b ≠ g ∧ now (7 * g + b) = v) := by
  intro i
  induction i with
  | zero => intro b; rw [itr_0, Nat.zero_testBit, decide_eq_false (fun q => Nat.not_lt_zero _ q.1)]
  | succ i ih =>
    intro b
    rw [itr_s]
    generalize itr (thoF now g v) 0 i = r at *
    unfold thoF
    by_cases c1 : i = g
    · rw [if_pos c1, ih]
      congr 1
      apply propext
      constructor
      · exact fun q => ⟨by omega, q.2⟩
      · exact fun q => ⟨by have := q.1; have := q.2.1; omega, q.2⟩
    · rw [if_neg c1]
      by_cases c2 : now (7 * g + i) = v
      · rw [if_pos c2, Nat.testBit_or, ih, Nat.testBit_two_pow]
        by_cases c3 : i = b
        · subst c3
          simp [c1, c2]
        · simp only [c3, decide_false, Bool.or_false]
          congr 1
          apply propext
          constructor
          · exact fun q => ⟨by omega, q.2⟩
          · exact fun q => ⟨by have := q.1; omega, q.2⟩
      · rw [if_neg c2, ih]
        congr 1
        apply propext
        constructor
        · exact fun q => ⟨by omega, q.2⟩
        · refine fun q => ⟨?_, q.2⟩
          have h1 := q.1
          have : b ≠ i := fun e => c2 (e ▸ q.2.2)
          omega
theorem thoV_bit (now : Nat → Int32) (n g : Nat) (v : Int32) (b : Nat) : (thoV now n g v).testBit b = decide (b < n ∧ b ≠ g ∧ now (7 * g + b) = v) := tho_bit now g v n b
theorem thoV_l2 (now : Nat → Int32) (n g : Nat) (v : Int32) : thoV now n g v < 2 ^ n := by
  apply Nat.lt_pow_two_of_testBit
  intro i hi
  rw [thoV_bit, decide_eq_false (fun q => by have := q.1; omega)]
theorem pop_but : ∀ n, n < 8 → ∀ g, g < n → ∀ x, x < 2 ^ n → x.testBit g = false → pop x ≤ n - 1 := by decide +kernel
theorem tho_le (hn : n ≤ 7) {g : Nat} (hg : g < n) (v : Int32) : pop (thoV now n g v) ≤ n - 1 := by
  refine pop_but n (by omega) g hg _ (thoV_l2 _ _ _ _) ?_
  rw [thoV_bit, decide_eq_false (fun q => q.2.1 rfl)]
theorem hasB_nI (hn : n ≤ 7) {a : Nat} (ha : a < 2147483648) : hasB n (nI a) = decide (a < n) := by
  unfold hasB
  have e1 : (nI a < 0) = False := eq_false (nI_pos ha)
  have e2 : (nI a < nI n) = (a < n) := nI_ult ha (by omega)
  simp only [e1, e2, not_false_eq_true, decide_true, Bool.true_and]
abbrev chT : Type := Int32 × (Nat → Int32)
def tlN (now : Nat → Int32) (n a b v : Nat) : chT := if a < n ∧ b < n ∧ a ≠ b ∧ v ≤ 2 then ((if now (7 * a + b) = nI v then -2 else 10 + now (7 * a + b)), upd (upd now (7 * a + b) (nI v)) (7 * b + a) (nI v)) else (-1, now)
def hdN (now : Nat → Int32) (n g : Nat) : chT := if g < n then ((if n - 1 - pop (thoV now n g 2) = 0 then -2 else nI (n - 1 - pop (thoV now n g 2))), itr (hiF g) now n) else (-1, now)
def cyN (now : Nat → Int32) (n a b : Nat) : chT := if a < n ∧ b < n ∧ a ≠ b then ((if (itr (cpF a b) (0, now) n).1 = 0 then -2 else (itr (cpF a b) (0, now) n).1), (itr (cpF a b) (0, now) n).2) else (-1, now)
def mvN (now : Nat → Int32) (n g w : Nat) : chT := if g < n ∧ w ≤ 9 then ((if now (49 + g) = nI w then -2 else now (49 + g)), upd now (49 + g) (nI w)) else (-1, now)
def fmN (now : Nat → Int32) (v : Nat) : chT := if v ≤ 1 then (now 56, upd now 56 (nI v)) else (-1, now)
theorem m_tlN (hn : n ≤ 7) {a b v : Nat} (ha : a < 2147483648) (hb : b < 2147483648) (hv : v < 2147483648) : zK (d + 4) 222 [.ref 54, .int (nI a), .int (nI b), .int (nI v)] ((mdl h th to row (nI n) ch now tape tp pt tt ne rd rM code rc cL cR stk ask un und aS aO aW aH ac thr ins gon nO mO rO wy ah late soon yet cir bed stp oO oW win wc rn wer iK kC kep), u) Q = Q (some (.int (tlN now n a b v).1), ((mdl h th to row (nI n) ch (tlN now n a b v).2 tape tp pt tt ne rd rM code rc cL cR stk ask un und aS aO aW aH ac thr ins gon nO mO rO wy ah late soon yet cir bed stp oO oW win wc rn wer iK kC kep), u)) := by
  unfold tlN
  by_cases c : a < n ∧ b < n ∧ a ≠ b ∧ v ≤ 2
  · simp only [if_pos c]
    exact m_tell hn c.1 c.2.1 c.2.2.1 c.2.2.2
  · simp only [if_neg c]
    refine m_tell_no hn (fun q => c ?_)
    rw [hasB_nI hn ha, hasB_nI hn hb] at q
    have e2 : ((2 : Int32) < nI v) = (2 < v) := nI_ult (a := 2) (by decide) hv
    refine ⟨of_decide_eq_true q.1, of_decide_eq_true q.2.1, fun e => q.2.2.1 (by rw [e]), ?_⟩
    have := q.2.2.2.2
    rw [e2] at this
    omega
theorem m_hdN (hn : n ≤ 7) {g : Nat} (hg : g < 2147483648) : zK (d + 3) 223 [.ref 54, .int (nI g)] ((mdl h th to row (nI n) ch now tape tp pt tt ne rd rM code rc cL cR stk ask un und aS aO aW aH ac thr ins gon nO mO rO wy ah late soon yet cir bed stp oO oW win wc rn wer iK kC kep), u) Q = Q (some (.int (hdN now n g).1), ((mdl h th to row (nI n) ch (hdN now n g).2 tape tp pt tt ne rd rM code rc cL cR stk ask un und aS aO aW aH ac thr ins gon nO mO rO wy ah late soon yet cir bed stp oO oW win wc rn wer iK kC kep), u)) := by
  unfold hdN
  by_cases c : g < n
  · simp only [if_pos c]
    have h1 := tho_le (now := now) hn c 2
    exact m_hide hn c (by omega)
  · simp only [if_neg c]
    exact m_hide_no hn (by rw [hasB_nI hn hg, decide_eq_false c])
theorem m_cyN (hn : n ≤ 7) {a b : Nat} (ha : a < 2147483648) (hb : b < 2147483648) : zK (d + 4) 224 [.ref 54, .int (nI a), .int (nI b)] ((mdl h th to row (nI n) ch now tape tp pt tt ne rd rM code rc cL cR stk ask un und aS aO aW aH ac thr ins gon nO mO rO wy ah late soon yet cir bed stp oO oW win wc rn wer iK kC kep), u) Q = Q (some (.int (cyN now n a b).1), ((mdl h th to row (nI n) ch (cyN now n a b).2 tape tp pt tt ne rd rM code rc cL cR stk ask un und aS aO aW aH ac thr ins gon nO mO rO wy ah late soon yet cir bed stp oO oW win wc rn wer iK kC kep), u)) := by
  unfold cyN
  by_cases c : a < n ∧ b < n ∧ a ≠ b
  · simp only [if_pos c]
    exact m_copy hn c.1 c.2.1 c.2.2
  · simp only [if_neg c]
    refine m_copy_no hn ?_
    rw [hasB_nI hn ha, hasB_nI hn hb]
    have e : (nI a = nI b) = (a = b) := nI_eqI ha hb
    simp only [e]
    by_cases c1 : a < n <;> by_cases c2 : b < n <;> by_cases c3 : a = b <;> simp_all
theorem m_mvN (hn : n ≤ 7) {g w : Nat} (hg : g < 2147483648) (hw : w < 2147483648) : zK (d + 3) 225 [.ref 54, .int (nI g), .int (nI w)] ((mdl h th to row (nI n) ch now tape tp pt tt ne rd rM code rc cL cR stk ask un und aS aO aW aH ac thr ins gon nO mO rO wy ah late soon yet cir bed stp oO oW win wc rn wer iK kC kep), u) Q = Q (some (.int (mvN now n g w).1), ((mdl h th to row (nI n) ch (mvN now n g w).2 tape tp pt tt ne rd rM code rc cL cR stk ask un und aS aO aW aH ac thr ins gon nO mO rO wy ah late soon yet cir bed stp oO oW win wc rn wer iK kC kep), u)) := by
  unfold mvN
  by_cases c : g < n ∧ w ≤ 9
  · simp only [if_pos c]
    exact m_move hn c.1 c.2
  · simp only [if_neg c]
    refine m_move_no hn (fun q => c ?_)
    rw [hasB_nI hn hg] at q
    have e2 : ((9 : Int32) < nI w) = (9 < w) := nI_ult (a := 9) (by decide) hw
    have := q.2.2
    rw [e2] at this
    exact ⟨of_decide_eq_true q.1, by omega⟩
theorem m_fmN {v : Nat} (hv : v < 2147483648) : zK (d + 2) 226 [.ref 54, .int (nI v)] ((mdl h th to row (nI n) ch now tape tp pt tt ne rd rM code rc cL cR stk ask un und aS aO aW aH ac thr ins gon nO mO rO wy ah late soon yet cir bed stp oO oW win wc rn wer iK kC kep), u) Q = Q (some (.int (fmN now v).1), ((mdl h th to row (nI n) ch (fmN now v).2 tape tp pt tt ne rd rM code rc cL cR stk ask un und aS aO aW aH ac thr ins gon nO mO rO wy ah late soon yet cir bed stp oO oW win wc rn wer iK kC kep), u)) := by
  unfold fmN
  by_cases c : v ≤ 1
  · simp only [if_pos c]
    rcases (show v = 0 ∨ v = 1 by omega) with e | e
    · subst e
      exact m_firm (b := false)
    · subst e
      exact m_firm (b := true)
  · simp only [if_neg c]
    have e0 : (nI v = 0) = (v = 0) := nI_eqI (b := 0) hv (by decide)
    have e1 : (nI v = 1) = (v = 1) := nI_eqI (b := 1) hv (by decide)
    exact m_firm_no (by rw [e0]; omega) (by rw [e1]; omega)
def doN (now : Nat → Int32) (n s o w x : Nat) : chT := if s = 0 then hdN now n o else if s = 1 then fmN now o else if s = 2 then cyN now n o w else if s = 3 then mvN now n o w else tlN now n o w x
theorem m_does (hn : n ≤ 7) (hk : k < 60) {s o w x : Nat} (hs : s < 5) (ho : o < 10) (hw : w < 10) (hx : x < 10) (e1 : aS k = nI s) (e2 : aO k = nI o) (e3 : 2 ≤ s → aW k = nI w) (e4 : 4 ≤ s → aH k = nI x) : zK (d + 5) 233 [.ref 54, .int (nI k)] ((mdl h th to row (nI n) ch now tape tp pt tt ne rd rM code rc cL cR stk ask un und aS aO aW aH ac thr ins gon nO mO rO wy ah late soon yet cir bed stp oO oW win wc rn wer iK kC kep), u) Q = Q (some (.int (b01 (decide (¬ (doN now n s o w x).1 < 0)))), ((mdl h th to row (nI n) ch (doN now n s o w x).2 tape tp pt tt ne rd rM code rc cL cR stk ask un und aS aO aW aH ac thr ins gon nO mO rO wy ah late soon yet cir bed stp oO oW win wc rn wer iK kC kep), u)) := by
  have o1 := fun Q => m_hdN (d := 1) (u := u) (Q := Q) (h := h) (th := th) (to := to) (row := row) (ch := ch) (now := now) (tape := tape) (tp := tp) (pt := pt) (tt := tt) (ne := ne) (rd := rd) (rM := rM) (code := code) (rc := rc) (cL := cL) (cR := cR) (stk := stk) (ask := ask) (un := un) (und := und) (aS := aS) (aO := aO) (aW := aW) (aH := aH) (ac := ac) (thr := thr) (ins := ins) (gon := gon) (nO := nO) (mO := mO) (rO := rO) (wy := wy) (ah := ah) (late := late) (soon := soon) (yet := yet) (cir := cir) (bed := bed) (stp := stp) (oO := oO) (oW := oW) (win := win) (wc := wc) (rn := rn) (wer := wer) (iK := iK) (kC := kC) (kep := kep) (n := n) (g := o) hn (by omega)
  have o2 := fun Q => m_fmN (d := 2) (u := u) (Q := Q) (h := h) (th := th) (to := to) (row := row) (ch := ch) (now := now) (tape := tape) (tp := tp) (pt := pt) (tt := tt) (ne := ne) (rd := rd) (rM := rM) (code := code) (rc := rc) (cL := cL) (cR := cR) (stk := stk) (ask := ask) (un := un) (und := und) (aS := aS) (aO := aO) (aW := aW) (aH := aH) (ac := ac) (thr := thr) (ins := ins) (gon := gon) (nO := nO) (mO := mO) (rO := rO) (wy := wy) (ah := ah) (late := late) (soon := soon) (yet := yet) (cir := cir) (bed := bed) (stp := stp) (oO := oO) (oW := oW) (win := win) (wc := wc) (rn := rn) (wer := wer) (iK := iK) (kC := kC) (kep := kep) (n := n) (v := o) (by omega)
  have o3 := fun Q => m_cyN (d := 0) (u := u) (Q := Q) (h := h) (th := th) (to := to) (row := row) (ch := ch) (now := now) (tape := tape) (tp := tp) (pt := pt) (tt := tt) (ne := ne) (rd := rd) (rM := rM) (code := code) (rc := rc) (cL := cL) (cR := cR) (stk := stk) (ask := ask) (un := un) (und := und) (aS := aS) (aO := aO) (aW := aW) (aH := aH) (ac := ac) (thr := thr) (ins := ins) (gon := gon) (nO := nO) (mO := mO) (rO := rO) (wy := wy) (ah := ah) (late := late) (soon := soon) (yet := yet) (cir := cir) (bed := bed) (stp := stp) (oO := oO) (oW := oW) (win := win) (wc := wc) (rn := rn) (wer := wer) (iK := iK) (kC := kC) (kep := kep) (n := n) (a := o) (b := w) hn (by omega) (by omega)
  have o4 := fun Q => m_mvN (d := 1) (u := u) (Q := Q) (h := h) (th := th) (to := to) (row := row) (ch := ch) (now := now) (tape := tape) (tp := tp) (pt := pt) (tt := tt) (ne := ne) (rd := rd) (rM := rM) (code := code) (rc := rc) (cL := cL) (cR := cR) (stk := stk) (ask := ask) (un := un) (und := und) (aS := aS) (aO := aO) (aW := aW) (aH := aH) (ac := ac) (thr := thr) (ins := ins) (gon := gon) (nO := nO) (mO := mO) (rO := rO) (wy := wy) (ah := ah) (late := late) (soon := soon) (yet := yet) (cir := cir) (bed := bed) (stp := stp) (oO := oO) (oW := oW) (win := win) (wc := wc) (rn := rn) (wer := wer) (iK := iK) (kC := kC) (kep := kep) (n := n) (g := o) (w := w) hn (by omega) (by omega)
  have o5 := fun Q => m_tlN (d := 0) (u := u) (Q := Q) (h := h) (th := th) (to := to) (row := row) (ch := ch) (now := now) (tape := tape) (tp := tp) (pt := pt) (tt := tt) (ne := ne) (rd := rd) (rM := rM) (code := code) (rc := rc) (cL := cL) (cR := cR) (stk := stk) (ask := ask) (un := un) (und := und) (aS := aS) (aO := aO) (aW := aW) (aH := aH) (ac := ac) (thr := thr) (ins := ins) (gon := gon) (nO := nO) (mO := mO) (rO := rO) (wy := wy) (ah := ah) (late := late) (soon := soon) (yet := yet) (cir := cir) (bed := bed) (stp := stp) (oO := oO) (oW := oW) (win := win) (wc := wc) (rn := rn) (wer := wer) (iK := iK) (kC := kC) (kep := kep) (n := n) (a := o) (b := w) (v := x) hn (by omega) (by omega) (by omega)
  have eD : doN now n s o w x = if s = 0 then hdN now n o else if s = 1 then fmN now o else if s = 2 then cyN now n o w else if s = 3 then mvN now n o w else tlN now n o w x := rfl
  have ts : ∀ j, j < 5 → (nI j).toInt = j := by decide +kernel
  rw [eD]
  refine zK_of (k := 5) (by omega) ?_
  refine zK_in (M := MX11_does) rfl (Nat.le_of_ble_eq_true rfl) ?_
  show zW 4 MX11_does 0 ([.ref 54, .int (nI k), .null], [], ((mdl h th to row (nI n) ch now tape tp pt tt ne rd rM code rc cL cR stk ask un und aS aO aW aH ac thr ins gon nO mO rO wy ah late soon yet cir bed stp oO oW win wc rn wer iK kC kep), u)) _
  rcases (show s = 0 ∨ s = 1 ∨ s = 2 ∨ s = 3 ∨ s = 4 by omega) with e | e | e | e | e
  · subst e
    simp only [if_true]
    generalize hdN now n o = r at *
    by_cases c : r.1 < 0
    · have c' := eq_true c
      simp (disch := first | assumption | omega | decide) only [eX11_does_0, eX11_does_1, eX11_does_4, eX11_does_5, eX11_does_6, eX11_does_7, eX11_does_8, eX11_does_11, eX11_does_12, eX11_does_13, eX11_does_44, eX11_does_45, eX11_does_46, eX11_does_49, eX11_does_52, eX11_does_53, eX11_does_56, eX11_does_57, eX11_does_58, eX11_does_59, eX11_does_60, eX11_does_63, eX11_does_66, eX11_does_67, eX11_does_70, eX11_does_71, eX11_does_72, eX11_does_73, eX11_does_74, eX11_does_75, eX11_does_78, eX11_does_79, eX11_does_80, eX11_does_83, eX11_does_86, eX11_does_87, eX11_does_90, eX11_does_91, eX11_does_92, eX11_does_93, eX11_does_94, eX11_does_95, eX11_does_98, eX11_does_99, eX11_does_100, eX11_does_103, eX11_does_106, eX11_does_107, eX11_does_110, eX11_does_111, eX11_does_112, eX11_does_113, eX11_does_114, eX11_does_115, eX11_does_118, eX11_does_119, eX11_does_120, eX11_does_121, eX11_does_124, eX11_does_125, eX11_does_126, eX11_does_129, eX11_does_132, eX11_does_133, eX11_does_136, eX11_does_137, rX11_does, zg_aload, zg_getfield, zg_goto, zg_iaload, zg_iconst, zg_if, zg_iload, zg_ireturn, zg_istore, zg_iv1, zg_iv2, zg_iv3, zg_tsw, q10, q01, q00, ite_self, zLd_i, zLd_l, zLd_a, zInc_i, zGet_o, zGet2_s, zPut_o, zAld_i, zAll_j, zAst_i, zAsl_j, zLen_i, zLen_j, zRt_i, zRt_z, zRl2_l, zRv_n, List.getElem?_cons_zero, List.getElem?_cons_succ, List.length_cons, List.length_nil, z_set, z_set2, z_cut, List.set_cons_zero, List.set_cons_succ, Option.toList_some, Option.toList_none, List.cons_append, List.nil_append, zif, zW_ite, zfit_0, zfit_1, zfit_2, zfit_3, zisc_o, zRt_c, zRt_b, List.map_cons, List.map_nil, List.sum_cons, List.sum_nil, true_and, and_true, if_true, if_false, ite_true, ite_false, Nat.reduceLT, Nat.reduceLeDiff, Nat.reduceAdd, Nat.reduceEqDiff, eq_self, not_true_eq_false, not_false_eq_true, Nat.lt_irrefl, or_true, true_or, or_false, false_or, z_cell_lt, Value.category, ltT, ltF, leT, leF, natT, natF, iltT, iltF, ieqT, ieqF, vpT, cl_nI, q_bit, pow_cell, z_pw_eq, nI_add, nI_mul, nI_m1, nI_dn, nI_dn0, m1_lt, lg_pos, i32_irr, q_shT, ite01, ite00, updL_z, q_upd, Bool.false_eq_true, nI_l2i, jlT_0, jlF_0, jgT_0, jgF_0, jeT_0, jeF_0, jv_0, jc_0, jm_0, jM_0, ja_0, jA_0, jlT_1, jlF_1, jgT_1, jgF_1, jeT_1, jeF_1, jv_1, jc_1, jm_1, jM_1, ja_1, jA_1, M_54, M_aO, M_aS, e1, e2, ts, zsw, o1, c', b01_f, b01_t]
      try rfl
    · have c' := eq_false c
      simp (disch := first | assumption | omega | decide) only [eX11_does_0, eX11_does_1, eX11_does_4, eX11_does_5, eX11_does_6, eX11_does_7, eX11_does_8, eX11_does_11, eX11_does_12, eX11_does_13, eX11_does_44, eX11_does_45, eX11_does_46, eX11_does_49, eX11_does_52, eX11_does_53, eX11_does_56, eX11_does_57, eX11_does_58, eX11_does_59, eX11_does_60, eX11_does_63, eX11_does_66, eX11_does_67, eX11_does_70, eX11_does_71, eX11_does_72, eX11_does_73, eX11_does_74, eX11_does_75, eX11_does_78, eX11_does_79, eX11_does_80, eX11_does_83, eX11_does_86, eX11_does_87, eX11_does_90, eX11_does_91, eX11_does_92, eX11_does_93, eX11_does_94, eX11_does_95, eX11_does_98, eX11_does_99, eX11_does_100, eX11_does_103, eX11_does_106, eX11_does_107, eX11_does_110, eX11_does_111, eX11_does_112, eX11_does_113, eX11_does_114, eX11_does_115, eX11_does_118, eX11_does_119, eX11_does_120, eX11_does_121, eX11_does_124, eX11_does_125, eX11_does_126, eX11_does_129, eX11_does_132, eX11_does_133, eX11_does_136, eX11_does_137, rX11_does, zg_aload, zg_getfield, zg_goto, zg_iaload, zg_iconst, zg_if, zg_iload, zg_ireturn, zg_istore, zg_iv1, zg_iv2, zg_iv3, zg_tsw, q10, q01, q00, ite_self, zLd_i, zLd_l, zLd_a, zInc_i, zGet_o, zGet2_s, zPut_o, zAld_i, zAll_j, zAst_i, zAsl_j, zLen_i, zLen_j, zRt_i, zRt_z, zRl2_l, zRv_n, List.getElem?_cons_zero, List.getElem?_cons_succ, List.length_cons, List.length_nil, z_set, z_set2, z_cut, List.set_cons_zero, List.set_cons_succ, Option.toList_some, Option.toList_none, List.cons_append, List.nil_append, zif, zW_ite, zfit_0, zfit_1, zfit_2, zfit_3, zisc_o, zRt_c, zRt_b, List.map_cons, List.map_nil, List.sum_cons, List.sum_nil, true_and, and_true, if_true, if_false, ite_true, ite_false, Nat.reduceLT, Nat.reduceLeDiff, Nat.reduceAdd, Nat.reduceEqDiff, eq_self, not_true_eq_false, not_false_eq_true, Nat.lt_irrefl, or_true, true_or, or_false, false_or, z_cell_lt, Value.category, ltT, ltF, leT, leF, natT, natF, iltT, iltF, ieqT, ieqF, vpT, cl_nI, q_bit, pow_cell, z_pw_eq, nI_add, nI_mul, nI_m1, nI_dn, nI_dn0, m1_lt, lg_pos, i32_irr, q_shT, ite01, ite00, updL_z, q_upd, Bool.false_eq_true, nI_l2i, jlT_0, jlF_0, jgT_0, jgF_0, jeT_0, jeF_0, jv_0, jc_0, jm_0, jM_0, ja_0, jA_0, jlT_1, jlF_1, jgT_1, jgF_1, jeT_1, jeF_1, jv_1, jc_1, jm_1, jM_1, ja_1, jA_1, M_54, M_aO, M_aS, e1, e2, ts, zsw, o1, c', b01_f, b01_t]
      try rfl
  · subst e
    simp only [Nat.reduceEqDiff, if_true, if_false]
    generalize fmN now o = r at *
    by_cases c : r.1 < 0
    · have c' := eq_true c
      simp (disch := first | assumption | omega | decide) only [eX11_does_0, eX11_does_1, eX11_does_4, eX11_does_5, eX11_does_6, eX11_does_7, eX11_does_8, eX11_does_11, eX11_does_12, eX11_does_13, eX11_does_44, eX11_does_45, eX11_does_46, eX11_does_49, eX11_does_52, eX11_does_53, eX11_does_56, eX11_does_57, eX11_does_58, eX11_does_59, eX11_does_60, eX11_does_63, eX11_does_66, eX11_does_67, eX11_does_70, eX11_does_71, eX11_does_72, eX11_does_73, eX11_does_74, eX11_does_75, eX11_does_78, eX11_does_79, eX11_does_80, eX11_does_83, eX11_does_86, eX11_does_87, eX11_does_90, eX11_does_91, eX11_does_92, eX11_does_93, eX11_does_94, eX11_does_95, eX11_does_98, eX11_does_99, eX11_does_100, eX11_does_103, eX11_does_106, eX11_does_107, eX11_does_110, eX11_does_111, eX11_does_112, eX11_does_113, eX11_does_114, eX11_does_115, eX11_does_118, eX11_does_119, eX11_does_120, eX11_does_121, eX11_does_124, eX11_does_125, eX11_does_126, eX11_does_129, eX11_does_132, eX11_does_133, eX11_does_136, eX11_does_137, rX11_does, zg_aload, zg_getfield, zg_goto, zg_iaload, zg_iconst, zg_if, zg_iload, zg_ireturn, zg_istore, zg_iv1, zg_iv2, zg_iv3, zg_tsw, q10, q01, q00, ite_self, zLd_i, zLd_l, zLd_a, zInc_i, zGet_o, zGet2_s, zPut_o, zAld_i, zAll_j, zAst_i, zAsl_j, zLen_i, zLen_j, zRt_i, zRt_z, zRl2_l, zRv_n, List.getElem?_cons_zero, List.getElem?_cons_succ, List.length_cons, List.length_nil, z_set, z_set2, z_cut, List.set_cons_zero, List.set_cons_succ, Option.toList_some, Option.toList_none, List.cons_append, List.nil_append, zif, zW_ite, zfit_0, zfit_1, zfit_2, zfit_3, zisc_o, zRt_c, zRt_b, List.map_cons, List.map_nil, List.sum_cons, List.sum_nil, true_and, and_true, if_true, if_false, ite_true, ite_false, Nat.reduceLT, Nat.reduceLeDiff, Nat.reduceAdd, Nat.reduceEqDiff, eq_self, not_true_eq_false, not_false_eq_true, Nat.lt_irrefl, or_true, true_or, or_false, false_or, z_cell_lt, Value.category, ltT, ltF, leT, leF, natT, natF, iltT, iltF, ieqT, ieqF, vpT, cl_nI, q_bit, pow_cell, z_pw_eq, nI_add, nI_mul, nI_m1, nI_dn, nI_dn0, m1_lt, lg_pos, i32_irr, q_shT, ite01, ite00, updL_z, q_upd, Bool.false_eq_true, nI_l2i, jlT_0, jlF_0, jgT_0, jgF_0, jeT_0, jeF_0, jv_0, jc_0, jm_0, jM_0, ja_0, jA_0, jlT_1, jlF_1, jgT_1, jgF_1, jeT_1, jeF_1, jv_1, jc_1, jm_1, jM_1, ja_1, jA_1, M_54, M_aO, M_aS, e1, e2, ts, zsw, o2, c', b01_f, b01_t]
      try rfl
    · have c' := eq_false c
      simp (disch := first | assumption | omega | decide) only [eX11_does_0, eX11_does_1, eX11_does_4, eX11_does_5, eX11_does_6, eX11_does_7, eX11_does_8, eX11_does_11, eX11_does_12, eX11_does_13, eX11_does_44, eX11_does_45, eX11_does_46, eX11_does_49, eX11_does_52, eX11_does_53, eX11_does_56, eX11_does_57, eX11_does_58, eX11_does_59, eX11_does_60, eX11_does_63, eX11_does_66, eX11_does_67, eX11_does_70, eX11_does_71, eX11_does_72, eX11_does_73, eX11_does_74, eX11_does_75, eX11_does_78, eX11_does_79, eX11_does_80, eX11_does_83, eX11_does_86, eX11_does_87, eX11_does_90, eX11_does_91, eX11_does_92, eX11_does_93, eX11_does_94, eX11_does_95, eX11_does_98, eX11_does_99, eX11_does_100, eX11_does_103, eX11_does_106, eX11_does_107, eX11_does_110, eX11_does_111, eX11_does_112, eX11_does_113, eX11_does_114, eX11_does_115, eX11_does_118, eX11_does_119, eX11_does_120, eX11_does_121, eX11_does_124, eX11_does_125, eX11_does_126, eX11_does_129, eX11_does_132, eX11_does_133, eX11_does_136, eX11_does_137, rX11_does, zg_aload, zg_getfield, zg_goto, zg_iaload, zg_iconst, zg_if, zg_iload, zg_ireturn, zg_istore, zg_iv1, zg_iv2, zg_iv3, zg_tsw, q10, q01, q00, ite_self, zLd_i, zLd_l, zLd_a, zInc_i, zGet_o, zGet2_s, zPut_o, zAld_i, zAll_j, zAst_i, zAsl_j, zLen_i, zLen_j, zRt_i, zRt_z, zRl2_l, zRv_n, List.getElem?_cons_zero, List.getElem?_cons_succ, List.length_cons, List.length_nil, z_set, z_set2, z_cut, List.set_cons_zero, List.set_cons_succ, Option.toList_some, Option.toList_none, List.cons_append, List.nil_append, zif, zW_ite, zfit_0, zfit_1, zfit_2, zfit_3, zisc_o, zRt_c, zRt_b, List.map_cons, List.map_nil, List.sum_cons, List.sum_nil, true_and, and_true, if_true, if_false, ite_true, ite_false, Nat.reduceLT, Nat.reduceLeDiff, Nat.reduceAdd, Nat.reduceEqDiff, eq_self, not_true_eq_false, not_false_eq_true, Nat.lt_irrefl, or_true, true_or, or_false, false_or, z_cell_lt, Value.category, ltT, ltF, leT, leF, natT, natF, iltT, iltF, ieqT, ieqF, vpT, cl_nI, q_bit, pow_cell, z_pw_eq, nI_add, nI_mul, nI_m1, nI_dn, nI_dn0, m1_lt, lg_pos, i32_irr, q_shT, ite01, ite00, updL_z, q_upd, Bool.false_eq_true, nI_l2i, jlT_0, jlF_0, jgT_0, jgF_0, jeT_0, jeF_0, jv_0, jc_0, jm_0, jM_0, ja_0, jA_0, jlT_1, jlF_1, jgT_1, jgF_1, jeT_1, jeF_1, jv_1, jc_1, jm_1, jM_1, ja_1, jA_1, M_54, M_aO, M_aS, e1, e2, ts, zsw, o2, c', b01_f, b01_t]
      try rfl
  · subst e
    have e3 := e3 (by decide)
    simp only [Nat.reduceEqDiff, if_true, if_false]
    generalize cyN now n o w = r at *
    by_cases c : r.1 < 0
    · have c' := eq_true c
      simp (disch := first | assumption | omega | decide) only [eX11_does_0, eX11_does_1, eX11_does_4, eX11_does_5, eX11_does_6, eX11_does_7, eX11_does_8, eX11_does_11, eX11_does_12, eX11_does_13, eX11_does_44, eX11_does_45, eX11_does_46, eX11_does_49, eX11_does_52, eX11_does_53, eX11_does_56, eX11_does_57, eX11_does_58, eX11_does_59, eX11_does_60, eX11_does_63, eX11_does_66, eX11_does_67, eX11_does_70, eX11_does_71, eX11_does_72, eX11_does_73, eX11_does_74, eX11_does_75, eX11_does_78, eX11_does_79, eX11_does_80, eX11_does_83, eX11_does_86, eX11_does_87, eX11_does_90, eX11_does_91, eX11_does_92, eX11_does_93, eX11_does_94, eX11_does_95, eX11_does_98, eX11_does_99, eX11_does_100, eX11_does_103, eX11_does_106, eX11_does_107, eX11_does_110, eX11_does_111, eX11_does_112, eX11_does_113, eX11_does_114, eX11_does_115, eX11_does_118, eX11_does_119, eX11_does_120, eX11_does_121, eX11_does_124, eX11_does_125, eX11_does_126, eX11_does_129, eX11_does_132, eX11_does_133, eX11_does_136, eX11_does_137, rX11_does, zg_aload, zg_getfield, zg_goto, zg_iaload, zg_iconst, zg_if, zg_iload, zg_ireturn, zg_istore, zg_iv1, zg_iv2, zg_iv3, zg_tsw, q10, q01, q00, ite_self, zLd_i, zLd_l, zLd_a, zInc_i, zGet_o, zGet2_s, zPut_o, zAld_i, zAll_j, zAst_i, zAsl_j, zLen_i, zLen_j, zRt_i, zRt_z, zRl2_l, zRv_n, List.getElem?_cons_zero, List.getElem?_cons_succ, List.length_cons, List.length_nil, z_set, z_set2, z_cut, List.set_cons_zero, List.set_cons_succ, Option.toList_some, Option.toList_none, List.cons_append, List.nil_append, zif, zW_ite, zfit_0, zfit_1, zfit_2, zfit_3, zisc_o, zRt_c, zRt_b, List.map_cons, List.map_nil, List.sum_cons, List.sum_nil, true_and, and_true, if_true, if_false, ite_true, ite_false, Nat.reduceLT, Nat.reduceLeDiff, Nat.reduceAdd, Nat.reduceEqDiff, eq_self, not_true_eq_false, not_false_eq_true, Nat.lt_irrefl, or_true, true_or, or_false, false_or, z_cell_lt, Value.category, ltT, ltF, leT, leF, natT, natF, iltT, iltF, ieqT, ieqF, vpT, cl_nI, q_bit, pow_cell, z_pw_eq, nI_add, nI_mul, nI_m1, nI_dn, nI_dn0, m1_lt, lg_pos, i32_irr, q_shT, ite01, ite00, updL_z, q_upd, Bool.false_eq_true, nI_l2i, jlT_0, jlF_0, jgT_0, jgF_0, jeT_0, jeF_0, jv_0, jc_0, jm_0, jM_0, ja_0, jA_0, jlT_1, jlF_1, jgT_1, jgF_1, jeT_1, jeF_1, jv_1, jc_1, jm_1, jM_1, ja_1, jA_1, M_54, M_aO, M_aS, M_aW, e3, e1, e2, ts, zsw, o3, c', b01_f, b01_t]
      try rfl
    · have c' := eq_false c
      simp (disch := first | assumption | omega | decide) only [eX11_does_0, eX11_does_1, eX11_does_4, eX11_does_5, eX11_does_6, eX11_does_7, eX11_does_8, eX11_does_11, eX11_does_12, eX11_does_13, eX11_does_44, eX11_does_45, eX11_does_46, eX11_does_49, eX11_does_52, eX11_does_53, eX11_does_56, eX11_does_57, eX11_does_58, eX11_does_59, eX11_does_60, eX11_does_63, eX11_does_66, eX11_does_67, eX11_does_70, eX11_does_71, eX11_does_72, eX11_does_73, eX11_does_74, eX11_does_75, eX11_does_78, eX11_does_79, eX11_does_80, eX11_does_83, eX11_does_86, eX11_does_87, eX11_does_90, eX11_does_91, eX11_does_92, eX11_does_93, eX11_does_94, eX11_does_95, eX11_does_98, eX11_does_99, eX11_does_100, eX11_does_103, eX11_does_106, eX11_does_107, eX11_does_110, eX11_does_111, eX11_does_112, eX11_does_113, eX11_does_114, eX11_does_115, eX11_does_118, eX11_does_119, eX11_does_120, eX11_does_121, eX11_does_124, eX11_does_125, eX11_does_126, eX11_does_129, eX11_does_132, eX11_does_133, eX11_does_136, eX11_does_137, rX11_does, zg_aload, zg_getfield, zg_goto, zg_iaload, zg_iconst, zg_if, zg_iload, zg_ireturn, zg_istore, zg_iv1, zg_iv2, zg_iv3, zg_tsw, q10, q01, q00, ite_self, zLd_i, zLd_l, zLd_a, zInc_i, zGet_o, zGet2_s, zPut_o, zAld_i, zAll_j, zAst_i, zAsl_j, zLen_i, zLen_j, zRt_i, zRt_z, zRl2_l, zRv_n, List.getElem?_cons_zero, List.getElem?_cons_succ, List.length_cons, List.length_nil, z_set, z_set2, z_cut, List.set_cons_zero, List.set_cons_succ, Option.toList_some, Option.toList_none, List.cons_append, List.nil_append, zif, zW_ite, zfit_0, zfit_1, zfit_2, zfit_3, zisc_o, zRt_c, zRt_b, List.map_cons, List.map_nil, List.sum_cons, List.sum_nil, true_and, and_true, if_true, if_false, ite_true, ite_false, Nat.reduceLT, Nat.reduceLeDiff, Nat.reduceAdd, Nat.reduceEqDiff, eq_self, not_true_eq_false, not_false_eq_true, Nat.lt_irrefl, or_true, true_or, or_false, false_or, z_cell_lt, Value.category, ltT, ltF, leT, leF, natT, natF, iltT, iltF, ieqT, ieqF, vpT, cl_nI, q_bit, pow_cell, z_pw_eq, nI_add, nI_mul, nI_m1, nI_dn, nI_dn0, m1_lt, lg_pos, i32_irr, q_shT, ite01, ite00, updL_z, q_upd, Bool.false_eq_true, nI_l2i, jlT_0, jlF_0, jgT_0, jgF_0, jeT_0, jeF_0, jv_0, jc_0, jm_0, jM_0, ja_0, jA_0, jlT_1, jlF_1, jgT_1, jgF_1, jeT_1, jeF_1, jv_1, jc_1, jm_1, jM_1, ja_1, jA_1, M_54, M_aO, M_aS, M_aW, e3, e1, e2, ts, zsw, o3, c', b01_f, b01_t]
      try rfl
  · subst e
    have e3 := e3 (by decide)
    simp only [Nat.reduceEqDiff, if_true, if_false]
    generalize mvN now n o w = r at *
    by_cases c : r.1 < 0
    · have c' := eq_true c
      simp (disch := first | assumption | omega | decide) only [eX11_does_0, eX11_does_1, eX11_does_4, eX11_does_5, eX11_does_6, eX11_does_7, eX11_does_8, eX11_does_11, eX11_does_12, eX11_does_13, eX11_does_44, eX11_does_45, eX11_does_46, eX11_does_49, eX11_does_52, eX11_does_53, eX11_does_56, eX11_does_57, eX11_does_58, eX11_does_59, eX11_does_60, eX11_does_63, eX11_does_66, eX11_does_67, eX11_does_70, eX11_does_71, eX11_does_72, eX11_does_73, eX11_does_74, eX11_does_75, eX11_does_78, eX11_does_79, eX11_does_80, eX11_does_83, eX11_does_86, eX11_does_87, eX11_does_90, eX11_does_91, eX11_does_92, eX11_does_93, eX11_does_94, eX11_does_95, eX11_does_98, eX11_does_99, eX11_does_100, eX11_does_103, eX11_does_106, eX11_does_107, eX11_does_110, eX11_does_111, eX11_does_112, eX11_does_113, eX11_does_114, eX11_does_115, eX11_does_118, eX11_does_119, eX11_does_120, eX11_does_121, eX11_does_124, eX11_does_125, eX11_does_126, eX11_does_129, eX11_does_132, eX11_does_133, eX11_does_136, eX11_does_137, rX11_does, zg_aload, zg_getfield, zg_goto, zg_iaload, zg_iconst, zg_if, zg_iload, zg_ireturn, zg_istore, zg_iv1, zg_iv2, zg_iv3, zg_tsw, q10, q01, q00, ite_self, zLd_i, zLd_l, zLd_a, zInc_i, zGet_o, zGet2_s, zPut_o, zAld_i, zAll_j, zAst_i, zAsl_j, zLen_i, zLen_j, zRt_i, zRt_z, zRl2_l, zRv_n, List.getElem?_cons_zero, List.getElem?_cons_succ, List.length_cons, List.length_nil, z_set, z_set2, z_cut, List.set_cons_zero, List.set_cons_succ, Option.toList_some, Option.toList_none, List.cons_append, List.nil_append, zif, zW_ite, zfit_0, zfit_1, zfit_2, zfit_3, zisc_o, zRt_c, zRt_b, List.map_cons, List.map_nil, List.sum_cons, List.sum_nil, true_and, and_true, if_true, if_false, ite_true, ite_false, Nat.reduceLT, Nat.reduceLeDiff, Nat.reduceAdd, Nat.reduceEqDiff, eq_self, not_true_eq_false, not_false_eq_true, Nat.lt_irrefl, or_true, true_or, or_false, false_or, z_cell_lt, Value.category, ltT, ltF, leT, leF, natT, natF, iltT, iltF, ieqT, ieqF, vpT, cl_nI, q_bit, pow_cell, z_pw_eq, nI_add, nI_mul, nI_m1, nI_dn, nI_dn0, m1_lt, lg_pos, i32_irr, q_shT, ite01, ite00, updL_z, q_upd, Bool.false_eq_true, nI_l2i, jlT_0, jlF_0, jgT_0, jgF_0, jeT_0, jeF_0, jv_0, jc_0, jm_0, jM_0, ja_0, jA_0, jlT_1, jlF_1, jgT_1, jgF_1, jeT_1, jeF_1, jv_1, jc_1, jm_1, jM_1, ja_1, jA_1, M_54, M_aO, M_aS, M_aW, e3, e1, e2, ts, zsw, o4, c', b01_f, b01_t]
      try rfl
    · have c' := eq_false c
      simp (disch := first | assumption | omega | decide) only [eX11_does_0, eX11_does_1, eX11_does_4, eX11_does_5, eX11_does_6, eX11_does_7, eX11_does_8, eX11_does_11, eX11_does_12, eX11_does_13, eX11_does_44, eX11_does_45, eX11_does_46, eX11_does_49, eX11_does_52, eX11_does_53, eX11_does_56, eX11_does_57, eX11_does_58, eX11_does_59, eX11_does_60, eX11_does_63, eX11_does_66, eX11_does_67, eX11_does_70, eX11_does_71, eX11_does_72, eX11_does_73, eX11_does_74, eX11_does_75, eX11_does_78, eX11_does_79, eX11_does_80, eX11_does_83, eX11_does_86, eX11_does_87, eX11_does_90, eX11_does_91, eX11_does_92, eX11_does_93, eX11_does_94, eX11_does_95, eX11_does_98, eX11_does_99, eX11_does_100, eX11_does_103, eX11_does_106, eX11_does_107, eX11_does_110, eX11_does_111, eX11_does_112, eX11_does_113, eX11_does_114, eX11_does_115, eX11_does_118, eX11_does_119, eX11_does_120, eX11_does_121, eX11_does_124, eX11_does_125, eX11_does_126, eX11_does_129, eX11_does_132, eX11_does_133, eX11_does_136, eX11_does_137, rX11_does, zg_aload, zg_getfield, zg_goto, zg_iaload, zg_iconst, zg_if, zg_iload, zg_ireturn, zg_istore, zg_iv1, zg_iv2, zg_iv3, zg_tsw, q10, q01, q00, ite_self, zLd_i, zLd_l, zLd_a, zInc_i, zGet_o, zGet2_s, zPut_o, zAld_i, zAll_j, zAst_i, zAsl_j, zLen_i, zLen_j, zRt_i, zRt_z, zRl2_l, zRv_n, List.getElem?_cons_zero, List.getElem?_cons_succ, List.length_cons, List.length_nil, z_set, z_set2, z_cut, List.set_cons_zero, List.set_cons_succ, Option.toList_some, Option.toList_none, List.cons_append, List.nil_append, zif, zW_ite, zfit_0, zfit_1, zfit_2, zfit_3, zisc_o, zRt_c, zRt_b, List.map_cons, List.map_nil, List.sum_cons, List.sum_nil, true_and, and_true, if_true, if_false, ite_true, ite_false, Nat.reduceLT, Nat.reduceLeDiff, Nat.reduceAdd, Nat.reduceEqDiff, eq_self, not_true_eq_false, not_false_eq_true, Nat.lt_irrefl, or_true, true_or, or_false, false_or, z_cell_lt, Value.category, ltT, ltF, leT, leF, natT, natF, iltT, iltF, ieqT, ieqF, vpT, cl_nI, q_bit, pow_cell, z_pw_eq, nI_add, nI_mul, nI_m1, nI_dn, nI_dn0, m1_lt, lg_pos, i32_irr, q_shT, ite01, ite00, updL_z, q_upd, Bool.false_eq_true, nI_l2i, jlT_0, jlF_0, jgT_0, jgF_0, jeT_0, jeF_0, jv_0, jc_0, jm_0, jM_0, ja_0, jA_0, jlT_1, jlF_1, jgT_1, jgF_1, jeT_1, jeF_1, jv_1, jc_1, jm_1, jM_1, ja_1, jA_1, M_54, M_aO, M_aS, M_aW, e3, e1, e2, ts, zsw, o4, c', b01_f, b01_t]
      try rfl
  · subst e
    have e3 := e3 (by decide)
    have e4 := e4 (by decide)
    simp only [Nat.reduceEqDiff, if_true, if_false]
    generalize tlN now n o w x = r at *
    by_cases c : r.1 < 0
    · have c' := eq_true c
      simp (disch := first | assumption | omega | decide) only [eX11_does_0, eX11_does_1, eX11_does_4, eX11_does_5, eX11_does_6, eX11_does_7, eX11_does_8, eX11_does_11, eX11_does_12, eX11_does_13, eX11_does_44, eX11_does_45, eX11_does_46, eX11_does_49, eX11_does_52, eX11_does_53, eX11_does_56, eX11_does_57, eX11_does_58, eX11_does_59, eX11_does_60, eX11_does_63, eX11_does_66, eX11_does_67, eX11_does_70, eX11_does_71, eX11_does_72, eX11_does_73, eX11_does_74, eX11_does_75, eX11_does_78, eX11_does_79, eX11_does_80, eX11_does_83, eX11_does_86, eX11_does_87, eX11_does_90, eX11_does_91, eX11_does_92, eX11_does_93, eX11_does_94, eX11_does_95, eX11_does_98, eX11_does_99, eX11_does_100, eX11_does_103, eX11_does_106, eX11_does_107, eX11_does_110, eX11_does_111, eX11_does_112, eX11_does_113, eX11_does_114, eX11_does_115, eX11_does_118, eX11_does_119, eX11_does_120, eX11_does_121, eX11_does_124, eX11_does_125, eX11_does_126, eX11_does_129, eX11_does_132, eX11_does_133, eX11_does_136, eX11_does_137, rX11_does, zg_aload, zg_getfield, zg_goto, zg_iaload, zg_iconst, zg_if, zg_iload, zg_ireturn, zg_istore, zg_iv1, zg_iv2, zg_iv3, zg_tsw, q10, q01, q00, ite_self, zLd_i, zLd_l, zLd_a, zInc_i, zGet_o, zGet2_s, zPut_o, zAld_i, zAll_j, zAst_i, zAsl_j, zLen_i, zLen_j, zRt_i, zRt_z, zRl2_l, zRv_n, List.getElem?_cons_zero, List.getElem?_cons_succ, List.length_cons, List.length_nil, z_set, z_set2, z_cut, List.set_cons_zero, List.set_cons_succ, Option.toList_some, Option.toList_none, List.cons_append, List.nil_append, zif, zW_ite, zfit_0, zfit_1, zfit_2, zfit_3, zisc_o, zRt_c, zRt_b, List.map_cons, List.map_nil, List.sum_cons, List.sum_nil, true_and, and_true, if_true, if_false, ite_true, ite_false, Nat.reduceLT, Nat.reduceLeDiff, Nat.reduceAdd, Nat.reduceEqDiff, eq_self, not_true_eq_false, not_false_eq_true, Nat.lt_irrefl, or_true, true_or, or_false, false_or, z_cell_lt, Value.category, ltT, ltF, leT, leF, natT, natF, iltT, iltF, ieqT, ieqF, vpT, cl_nI, q_bit, pow_cell, z_pw_eq, nI_add, nI_mul, nI_m1, nI_dn, nI_dn0, m1_lt, lg_pos, i32_irr, q_shT, ite01, ite00, updL_z, q_upd, Bool.false_eq_true, nI_l2i, jlT_0, jlF_0, jgT_0, jgF_0, jeT_0, jeF_0, jv_0, jc_0, jm_0, jM_0, ja_0, jA_0, jlT_1, jlF_1, jgT_1, jgF_1, jeT_1, jeF_1, jv_1, jc_1, jm_1, jM_1, ja_1, jA_1, M_54, M_aO, M_aS, M_aW, e3, M_aH, e4, e1, e2, ts, zsw, o5, c', b01_f, b01_t]
      try rfl
    · have c' := eq_false c
      simp (disch := first | assumption | omega | decide) only [eX11_does_0, eX11_does_1, eX11_does_4, eX11_does_5, eX11_does_6, eX11_does_7, eX11_does_8, eX11_does_11, eX11_does_12, eX11_does_13, eX11_does_44, eX11_does_45, eX11_does_46, eX11_does_49, eX11_does_52, eX11_does_53, eX11_does_56, eX11_does_57, eX11_does_58, eX11_does_59, eX11_does_60, eX11_does_63, eX11_does_66, eX11_does_67, eX11_does_70, eX11_does_71, eX11_does_72, eX11_does_73, eX11_does_74, eX11_does_75, eX11_does_78, eX11_does_79, eX11_does_80, eX11_does_83, eX11_does_86, eX11_does_87, eX11_does_90, eX11_does_91, eX11_does_92, eX11_does_93, eX11_does_94, eX11_does_95, eX11_does_98, eX11_does_99, eX11_does_100, eX11_does_103, eX11_does_106, eX11_does_107, eX11_does_110, eX11_does_111, eX11_does_112, eX11_does_113, eX11_does_114, eX11_does_115, eX11_does_118, eX11_does_119, eX11_does_120, eX11_does_121, eX11_does_124, eX11_does_125, eX11_does_126, eX11_does_129, eX11_does_132, eX11_does_133, eX11_does_136, eX11_does_137, rX11_does, zg_aload, zg_getfield, zg_goto, zg_iaload, zg_iconst, zg_if, zg_iload, zg_ireturn, zg_istore, zg_iv1, zg_iv2, zg_iv3, zg_tsw, q10, q01, q00, ite_self, zLd_i, zLd_l, zLd_a, zInc_i, zGet_o, zGet2_s, zPut_o, zAld_i, zAll_j, zAst_i, zAsl_j, zLen_i, zLen_j, zRt_i, zRt_z, zRl2_l, zRv_n, List.getElem?_cons_zero, List.getElem?_cons_succ, List.length_cons, List.length_nil, z_set, z_set2, z_cut, List.set_cons_zero, List.set_cons_succ, Option.toList_some, Option.toList_none, List.cons_append, List.nil_append, zif, zW_ite, zfit_0, zfit_1, zfit_2, zfit_3, zisc_o, zRt_c, zRt_b, List.map_cons, List.map_nil, List.sum_cons, List.sum_nil, true_and, and_true, if_true, if_false, ite_true, ite_false, Nat.reduceLT, Nat.reduceLeDiff, Nat.reduceAdd, Nat.reduceEqDiff, eq_self, not_true_eq_false, not_false_eq_true, Nat.lt_irrefl, or_true, true_or, or_false, false_or, z_cell_lt, Value.category, ltT, ltF, leT, leF, natT, natF, iltT, iltF, ieqT, ieqF, vpT, cl_nI, q_bit, pow_cell, z_pw_eq, nI_add, nI_mul, nI_m1, nI_dn, nI_dn0, m1_lt, lg_pos, i32_irr, q_shT, ite01, ite00, updL_z, q_upd, Bool.false_eq_true, nI_l2i, jlT_0, jlF_0, jgT_0, jgF_0, jeT_0, jeF_0, jv_0, jc_0, jm_0, jM_0, ja_0, jA_0, jlT_1, jlF_1, jgT_1, jgF_1, jeT_1, jeF_1, jv_1, jc_1, jm_1, jM_1, ja_1, jA_1, M_54, M_aO, M_aS, M_aW, e3, M_aH, e4, e1, e2, ts, zsw, o5, c', b01_f, b01_t]
      try rfl
end M31

