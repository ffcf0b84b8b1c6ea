/-! ORDERS: one state's part of the tally -/
theorem eX4_tallyState_0 {d : Nat} {S : zS} {Q : zR → Prop} : zW d MX4_tallyState 0 S Q = zGo d MX4_tallyState (.aload 0) z0 1 S Q := zW_step (I := .aload_n 0) rfl S Q
theorem eX4_tallyState_1 {d : Nat} {S : zS} {Q : zR → Prop} : zW d MX4_tallyState 1 S Q = zGo d MX4_tallyState (.getfield 9) (zf 3 4 0) 4 S Q := zW_step (I := .getfield 9) rfl S Q
theorem eX4_tallyState_4 {d : Nat} {S : zS} {Q : zR → Prop} : zW d MX4_tallyState 4 S Q = zGo d MX4_tallyState (.iload 1) z0 5 S Q := zW_step (I := .iload_n 1) rfl S Q
theorem eX4_tallyState_5 {d : Nat} {S : zS} {Q : zR → Prop} : zW d MX4_tallyState 5 S Q = zGo d MX4_tallyState (.iaload) z0 6 S Q := zW_step (I := .iaload) rfl S Q
theorem eX4_tallyState_6 {d : Nat} {S : zS} {Q : zR → Prop} : zW d MX4_tallyState 6 S Q = zGo d MX4_tallyState (.istore 2) z0 7 S Q := zW_step (I := .istore_n 2) rfl S Q
theorem eX4_tallyState_7 {d : Nat} {S : zS} {Q : zR → Prop} : zW d MX4_tallyState 7 S Q = zGo d MX4_tallyState (.iload 2) z0 8 S Q := zW_step (I := .iload_n 2) rfl S Q
theorem eX4_tallyState_8 {d : Nat} {S : zS} {Q : zR → Prop} : zW d MX4_tallyState 8 S Q = zGo d MX4_tallyState (.aload 0) z0 9 S Q := zW_step (I := .aload_n 0) rfl S Q
theorem eX4_tallyState_9 {d : Nat} {S : zS} {Q : zR → Prop} : zW d MX4_tallyState 9 S Q = zGo d MX4_tallyState (.getfield 15) (zf 3 4 1) 12 S Q := zW_step (I := .getfield 15) rfl S Q
theorem eX4_tallyState_12 {d : Nat} {S : zS} {Q : zR → Prop} : zW d MX4_tallyState 12 S Q = zGo d MX4_tallyState (.iload 1) z0 13 S Q := zW_step (I := .iload_n 1) rfl S Q
theorem eX4_tallyState_13 {d : Nat} {S : zS} {Q : zR → Prop} : zW d MX4_tallyState 13 S Q = zGo d MX4_tallyState (.iaload) z0 14 S Q := zW_step (I := .iaload) rfl S Q
theorem eX4_tallyState_14 {d : Nat} {S : zS} {Q : zR → Prop} : zW d MX4_tallyState 14 S Q = zGo d MX4_tallyState (.ior) z0 15 S Q := zW_step (I := .ior) rfl S Q
theorem eX4_tallyState_15 {d : Nat} {S : zS} {Q : zR → Prop} : zW d MX4_tallyState 15 S Q = zGo d MX4_tallyState (.istore 3) z0 16 S Q := zW_step (I := .istore_n 3) rfl S Q
theorem eX4_tallyState_16 {d : Nat} {S : zS} {Q : zR → Prop} : zW d MX4_tallyState 16 S Q = zGo d MX4_tallyState (.aload 0) z0 17 S Q := zW_step (I := .aload_n 0) rfl S Q
theorem eX4_tallyState_17 {d : Nat} {S : zS} {Q : zR → Prop} : zW d MX4_tallyState 17 S Q = zGo d MX4_tallyState (.getfield 21) (zf 3 4 3) 20 S Q := zW_step (I := .getfield 21) rfl S Q
theorem eX4_tallyState_20 {d : Nat} {S : zS} {Q : zR → Prop} : zW d MX4_tallyState 20 S Q = zGo d MX4_tallyState (.iload 1) z0 21 S Q := zW_step (I := .iload_n 1) rfl S Q
theorem eX4_tallyState_21 {d : Nat} {S : zS} {Q : zR → Prop} : zW d MX4_tallyState 21 S Q = zGo d MX4_tallyState (.laload) z0 22 S Q := zW_step (I := .laload) rfl S Q
theorem eX4_tallyState_22 {d : Nat} {S : zS} {Q : zR → Prop} : zW d MX4_tallyState 22 S Q = zGo d MX4_tallyState (.lstore 4) z0 24 S Q := zW_step (I := .lstore 4) rfl S Q
theorem eX4_tallyState_24 {d : Nat} {S : zS} {Q : zR → Prop} : zW d MX4_tallyState 24 S Q = zGo d MX4_tallyState (.aload 0) z0 25 S Q := zW_step (I := .aload_n 0) rfl S Q
theorem eX4_tallyState_25 {d : Nat} {S : zS} {Q : zR → Prop} : zW d MX4_tallyState 25 S Q = zGo d MX4_tallyState (.getfield 18) (zf 3 4 2) 28 S Q := zW_step (I := .getfield 18) rfl S Q
theorem eX4_tallyState_28 {d : Nat} {S : zS} {Q : zR → Prop} : zW d MX4_tallyState 28 S Q = zGo d MX4_tallyState (.iload 1) z0 29 S Q := zW_step (I := .iload_n 1) rfl S Q
theorem eX4_tallyState_29 {d : Nat} {S : zS} {Q : zR → Prop} : zW d MX4_tallyState 29 S Q = zGo d MX4_tallyState (.iaload) z0 30 S Q := zW_step (I := .iaload) rfl S Q
theorem eX4_tallyState_30 {d : Nat} {S : zS} {Q : zR → Prop} : zW d MX4_tallyState 30 S Q = zGo d MX4_tallyState (.istore 6) z0 32 S Q := zW_step (I := .istore 6) rfl S Q
theorem eX4_tallyState_32 {d : Nat} {S : zS} {Q : zR → Prop} : zW d MX4_tallyState 32 S Q = zGo d MX4_tallyState (.iconst 0) (zv (.int 0)) 33 S Q := zW_step (I := .iconst 0) rfl S Q
theorem eX4_tallyState_33 {d : Nat} {S : zS} {Q : zR → Prop} : zW d MX4_tallyState 33 S Q = zGo d MX4_tallyState (.istore 7) z0 35 S Q := zW_step (I := .istore 7) rfl S Q
theorem eX4_tallyState_35 {d : Nat} {S : zS} {Q : zR → Prop} : zW d MX4_tallyState 35 S Q = zGo d MX4_tallyState (.iload 7) z0 37 S Q := zW_step (I := .iload 7) rfl S Q
theorem eX4_tallyState_37 {d : Nat} {S : zS} {Q : zR → Prop} : zW d MX4_tallyState 37 S Q = zGo d MX4_tallyState (.aload 0) z0 38 S Q := zW_step (I := .aload_n 0) rfl S Q
theorem eX4_tallyState_38 {d : Nat} {S : zS} {Q : zR → Prop} : zW d MX4_tallyState 38 S Q = zGo d MX4_tallyState (.getfield 58) (zf 0 4 13) 41 S Q := zW_step (I := .getfield 58) rfl S Q
theorem eX4_tallyState_41 {d : Nat} {S : zS} {Q : zR → Prop} : zW d MX4_tallyState 41 S Q = zGo d MX4_tallyState (.if_icmp .ge 99) (zt 140) 44 S Q := zW_step (I := .if_icmp .ge 99) rfl S Q
theorem eX4_tallyState_44 {d : Nat} {S : zS} {Q : zR → Prop} : zW d MX4_tallyState 44 S Q = zGo d MX4_tallyState (.iload 6) z0 46 S Q := zW_step (I := .iload 6) rfl S Q
theorem eX4_tallyState_46 {d : Nat} {S : zS} {Q : zR → Prop} : zW d MX4_tallyState 46 S Q = zGo d MX4_tallyState (.iload 7) z0 48 S Q := zW_step (I := .iload 7) rfl S Q
theorem eX4_tallyState_48 {d : Nat} {S : zS} {Q : zR → Prop} : zW d MX4_tallyState 48 S Q = zGo d MX4_tallyState (.ishr) z0 49 S Q := zW_step (I := .ishr) rfl S Q
theorem eX4_tallyState_49 {d : Nat} {S : zS} {Q : zR → Prop} : zW d MX4_tallyState 49 S Q = zGo d MX4_tallyState (.iconst 1) (zv (.int 1)) 50 S Q := zW_step (I := .iconst 1) rfl S Q
theorem eX4_tallyState_50 {d : Nat} {S : zS} {Q : zR → Prop} : zW d MX4_tallyState 50 S Q = zGo d MX4_tallyState (.iand) z0 51 S Q := zW_step (I := .iand) rfl S Q
theorem eX4_tallyState_51 {d : Nat} {S : zS} {Q : zR → Prop} : zW d MX4_tallyState 51 S Q = zGo d MX4_tallyState (.iconst 1) (zv (.int 1)) 52 S Q := zW_step (I := .iconst 1) rfl S Q
theorem eX4_tallyState_52 {d : Nat} {S : zS} {Q : zR → Prop} : zW d MX4_tallyState 52 S Q = zGo d MX4_tallyState (.if_icmp .ne 82) (zt 134) 55 S Q := zW_step (I := .if_icmp .ne 82) rfl S Q
theorem eX4_tallyState_55 {d : Nat} {S : zS} {Q : zR → Prop} : zW d MX4_tallyState 55 S Q = zGo d MX4_tallyState (.iload 1) z0 56 S Q := zW_step (I := .iload_n 1) rfl S Q
theorem eX4_tallyState_56 {d : Nat} {S : zS} {Q : zR → Prop} : zW d MX4_tallyState 56 S Q = zGo d MX4_tallyState (.getstatic 59) (zv (.ref 1000)) 59 S Q := zW_step (I := .getstatic 59) rfl S Q
theorem eX4_tallyState_59 {d : Nat} {S : zS} {Q : zR → Prop} : zW d MX4_tallyState 59 S Q = zGo d MX4_tallyState (.iload 7) z0 61 S Q := zW_step (I := .iload 7) rfl S Q
theorem eX4_tallyState_61 {d : Nat} {S : zS} {Q : zR → Prop} : zW d MX4_tallyState 61 S Q = zGo d MX4_tallyState (.iaload) z0 62 S Q := zW_step (I := .iaload) rfl S Q
theorem eX4_tallyState_62 {d : Nat} {S : zS} {Q : zR → Prop} : zW d MX4_tallyState 62 S Q = zGo d MX4_tallyState (.iadd) z0 63 S Q := zW_step (I := .iadd) rfl S Q
theorem eX4_tallyState_63 {d : Nat} {S : zS} {Q : zR → Prop} : zW d MX4_tallyState 63 S Q = zGo d MX4_tallyState (.istore 8) z0 65 S Q := zW_step (I := .istore 8) rfl S Q
theorem eX4_tallyState_65 {d : Nat} {S : zS} {Q : zR → Prop} : zW d MX4_tallyState 65 S Q = zGo d MX4_tallyState (.aload 0) z0 66 S Q := zW_step (I := .aload_n 0) rfl S Q
theorem eX4_tallyState_66 {d : Nat} {S : zS} {Q : zR → Prop} : zW d MX4_tallyState 66 S Q = zGo d MX4_tallyState (.getfield 21) (zf 3 4 3) 69 S Q := zW_step (I := .getfield 21) rfl S Q
theorem eX4_tallyState_69 {d : Nat} {S : zS} {Q : zR → Prop} : zW d MX4_tallyState 69 S Q = zGo d MX4_tallyState (.iload 8) z0 71 S Q := zW_step (I := .iload 8) rfl S Q
theorem eX4_tallyState_71 {d : Nat} {S : zS} {Q : zR → Prop} : zW d MX4_tallyState 71 S Q = zGo d MX4_tallyState (.dup2) z0 72 S Q := zW_step (I := .dup2) rfl S Q
theorem eX4_tallyState_72 {d : Nat} {S : zS} {Q : zR → Prop} : zW d MX4_tallyState 72 S Q = zGo d MX4_tallyState (.laload) z0 73 S Q := zW_step (I := .laload) rfl S Q
theorem eX4_tallyState_73 {d : Nat} {S : zS} {Q : zR → Prop} : zW d MX4_tallyState 73 S Q = zGo d MX4_tallyState (.lload 4) z0 75 S Q := zW_step (I := .lload 4) rfl S Q
theorem eX4_tallyState_75 {d : Nat} {S : zS} {Q : zR → Prop} : zW d MX4_tallyState 75 S Q = zGo d MX4_tallyState (.ladd) z0 76 S Q := zW_step (I := .ladd) rfl S Q
theorem eX4_tallyState_76 {d : Nat} {S : zS} {Q : zR → Prop} : zW d MX4_tallyState 76 S Q = zGo d MX4_tallyState (.lastore) z0 77 S Q := zW_step (I := .lastore) rfl S Q
theorem eX4_tallyState_77 {d : Nat} {S : zS} {Q : zR → Prop} : zW d MX4_tallyState 77 S Q = zGo d MX4_tallyState (.iload 2) z0 78 S Q := zW_step (I := .iload_n 2) rfl S Q
theorem eX4_tallyState_78 {d : Nat} {S : zS} {Q : zR → Prop} : zW d MX4_tallyState 78 S Q = zGo d MX4_tallyState (.iload 7) z0 80 S Q := zW_step (I := .iload 7) rfl S Q
theorem eX4_tallyState_80 {d : Nat} {S : zS} {Q : zR → Prop} : zW d MX4_tallyState 80 S Q = zGo d MX4_tallyState (.ishr) z0 81 S Q := zW_step (I := .ishr) rfl S Q
theorem eX4_tallyState_81 {d : Nat} {S : zS} {Q : zR → Prop} : zW d MX4_tallyState 81 S Q = zGo d MX4_tallyState (.iconst 1) (zv (.int 1)) 82 S Q := zW_step (I := .iconst 1) rfl S Q
theorem eX4_tallyState_82 {d : Nat} {S : zS} {Q : zR → Prop} : zW d MX4_tallyState 82 S Q = zGo d MX4_tallyState (.iand) z0 83 S Q := zW_step (I := .iand) rfl S Q
theorem eX4_tallyState_83 {d : Nat} {S : zS} {Q : zR → Prop} : zW d MX4_tallyState 83 S Q = zGo d MX4_tallyState (.ifCond .ne 51) (zt 134) 86 S Q := zW_step (I := .ifCond .ne 51) rfl S Q
theorem eX4_tallyState_86 {d : Nat} {S : zS} {Q : zR → Prop} : zW d MX4_tallyState 86 S Q = zGo d MX4_tallyState (.lload 4) z0 88 S Q := zW_step (I := .lload 4) rfl S Q
theorem eX4_tallyState_88 {d : Nat} {S : zS} {Q : zR → Prop} : zW d MX4_tallyState 88 S Q = zGo d MX4_tallyState (.aload 0) z0 89 S Q := zW_step (I := .aload_n 0) rfl S Q
theorem eX4_tallyState_89 {d : Nat} {S : zS} {Q : zR → Prop} : zW d MX4_tallyState 89 S Q = zGo d MX4_tallyState (.getfield 25) (zf 3 4 4) 92 S Q := zW_step (I := .getfield 25) rfl S Q
theorem eX4_tallyState_92 {d : Nat} {S : zS} {Q : zR → Prop} : zW d MX4_tallyState 92 S Q = zGo d MX4_tallyState (.iload 8) z0 94 S Q := zW_step (I := .iload 8) rfl S Q
theorem eX4_tallyState_94 {d : Nat} {S : zS} {Q : zR → Prop} : zW d MX4_tallyState 94 S Q = zGo d MX4_tallyState (.laload) z0 95 S Q := zW_step (I := .laload) rfl S Q
theorem eX4_tallyState_95 {d : Nat} {S : zS} {Q : zR → Prop} : zW d MX4_tallyState 95 S Q = zGo d MX4_tallyState (.lmul) z0 96 S Q := zW_step (I := .lmul) rfl S Q
theorem eX4_tallyState_96 {d : Nat} {S : zS} {Q : zR → Prop} : zW d MX4_tallyState 96 S Q = zGo d MX4_tallyState (.lstore 9) z0 98 S Q := zW_step (I := .lstore 9) rfl S Q
theorem eX4_tallyState_98 {d : Nat} {S : zS} {Q : zR → Prop} : zW d MX4_tallyState 98 S Q = zGo d MX4_tallyState (.aload 0) z0 99 S Q := zW_step (I := .aload_n 0) rfl S Q
theorem eX4_tallyState_99 {d : Nat} {S : zS} {Q : zR → Prop} : zW d MX4_tallyState 99 S Q = zGo d MX4_tallyState (.getfield 31) (zf 3 4 6) 102 S Q := zW_step (I := .getfield 31) rfl S Q
theorem eX4_tallyState_102 {d : Nat} {S : zS} {Q : zR → Prop} : zW d MX4_tallyState 102 S Q = zGo d MX4_tallyState (.iload 7) z0 104 S Q := zW_step (I := .iload 7) rfl S Q
theorem eX4_tallyState_104 {d : Nat} {S : zS} {Q : zR → Prop} : zW d MX4_tallyState 104 S Q = zGo d MX4_tallyState (.sipush 128) (zv (.int 128)) 107 S Q := zW_step (I := .sipush 128) rfl S Q
theorem eX4_tallyState_107 {d : Nat} {S : zS} {Q : zR → Prop} : zW d MX4_tallyState 107 S Q = zGo d MX4_tallyState (.imul) z0 108 S Q := zW_step (I := .imul) rfl S Q
theorem eX4_tallyState_108 {d : Nat} {S : zS} {Q : zR → Prop} : zW d MX4_tallyState 108 S Q = zGo d MX4_tallyState (.iload 3) z0 109 S Q := zW_step (I := .iload_n 3) rfl S Q
theorem eX4_tallyState_109 {d : Nat} {S : zS} {Q : zR → Prop} : zW d MX4_tallyState 109 S Q = zGo d MX4_tallyState (.iadd) z0 110 S Q := zW_step (I := .iadd) rfl S Q
theorem eX4_tallyState_110 {d : Nat} {S : zS} {Q : zR → Prop} : zW d MX4_tallyState 110 S Q = zGo d MX4_tallyState (.dup2) z0 111 S Q := zW_step (I := .dup2) rfl S Q
theorem eX4_tallyState_111 {d : Nat} {S : zS} {Q : zR → Prop} : zW d MX4_tallyState 111 S Q = zGo d MX4_tallyState (.laload) z0 112 S Q := zW_step (I := .laload) rfl S Q
theorem eX4_tallyState_112 {d : Nat} {S : zS} {Q : zR → Prop} : zW d MX4_tallyState 112 S Q = zGo d MX4_tallyState (.lload 9) z0 114 S Q := zW_step (I := .lload 9) rfl S Q
theorem eX4_tallyState_114 {d : Nat} {S : zS} {Q : zR → Prop} : zW d MX4_tallyState 114 S Q = zGo d MX4_tallyState (.ladd) z0 115 S Q := zW_step (I := .ladd) rfl S Q
theorem eX4_tallyState_115 {d : Nat} {S : zS} {Q : zR → Prop} : zW d MX4_tallyState 115 S Q = zGo d MX4_tallyState (.lastore) z0 116 S Q := zW_step (I := .lastore) rfl S Q
theorem eX4_tallyState_116 {d : Nat} {S : zS} {Q : zR → Prop} : zW d MX4_tallyState 116 S Q = zGo d MX4_tallyState (.aload 0) z0 117 S Q := zW_step (I := .aload_n 0) rfl S Q
theorem eX4_tallyState_117 {d : Nat} {S : zS} {Q : zR → Prop} : zW d MX4_tallyState 117 S Q = zGo d MX4_tallyState (.getfield 34) (zf 3 4 7) 120 S Q := zW_step (I := .getfield 34) rfl S Q
theorem eX4_tallyState_120 {d : Nat} {S : zS} {Q : zR → Prop} : zW d MX4_tallyState 120 S Q = zGo d MX4_tallyState (.iload 7) z0 122 S Q := zW_step (I := .iload 7) rfl S Q
theorem eX4_tallyState_122 {d : Nat} {S : zS} {Q : zR → Prop} : zW d MX4_tallyState 122 S Q = zGo d MX4_tallyState (.sipush 128) (zv (.int 128)) 125 S Q := zW_step (I := .sipush 128) rfl S Q
theorem eX4_tallyState_125 {d : Nat} {S : zS} {Q : zR → Prop} : zW d MX4_tallyState 125 S Q = zGo d MX4_tallyState (.imul) z0 126 S Q := zW_step (I := .imul) rfl S Q
theorem eX4_tallyState_126 {d : Nat} {S : zS} {Q : zR → Prop} : zW d MX4_tallyState 126 S Q = zGo d MX4_tallyState (.iload 2) z0 127 S Q := zW_step (I := .iload_n 2) rfl S Q
theorem eX4_tallyState_127 {d : Nat} {S : zS} {Q : zR → Prop} : zW d MX4_tallyState 127 S Q = zGo d MX4_tallyState (.iadd) z0 128 S Q := zW_step (I := .iadd) rfl S Q
theorem eX4_tallyState_128 {d : Nat} {S : zS} {Q : zR → Prop} : zW d MX4_tallyState 128 S Q = zGo d MX4_tallyState (.dup2) z0 129 S Q := zW_step (I := .dup2) rfl S Q
theorem eX4_tallyState_129 {d : Nat} {S : zS} {Q : zR → Prop} : zW d MX4_tallyState 129 S Q = zGo d MX4_tallyState (.laload) z0 130 S Q := zW_step (I := .laload) rfl S Q
theorem eX4_tallyState_130 {d : Nat} {S : zS} {Q : zR → Prop} : zW d MX4_tallyState 130 S Q = zGo d MX4_tallyState (.lload 9) z0 132 S Q := zW_step (I := .lload 9) rfl S Q
theorem eX4_tallyState_132 {d : Nat} {S : zS} {Q : zR → Prop} : zW d MX4_tallyState 132 S Q = zGo d MX4_tallyState (.ladd) z0 133 S Q := zW_step (I := .ladd) rfl S Q
theorem eX4_tallyState_133 {d : Nat} {S : zS} {Q : zR → Prop} : zW d MX4_tallyState 133 S Q = zGo d MX4_tallyState (.lastore) z0 134 S Q := zW_step (I := .lastore) rfl S Q
theorem eX4_tallyState_134 {d : Nat} {S : zS} {Q : zR → Prop} : zW d MX4_tallyState 134 S Q = zGo d MX4_tallyState (.iinc 7 1) (zv (.int 1)) 137 S Q := zW_step (I := .iinc 7 1) rfl S Q
theorem eX4_tallyState_137 {d : Nat} {S : zS} {Q : zR → Prop} : zW d MX4_tallyState 137 S Q = zGo d MX4_tallyState (.goto (-102)) (zt 35) 140 S Q := zW_step (I := .goto (-102)) rfl S Q
theorem eX4_tallyState_140 {d : Nat} {S : zS} {Q : zR → Prop} : zW d MX4_tallyState 140 S Q = zGo d MX4_tallyState (.return_) z0 141 S Q := zW_step (I := .return_) rfl S Q
theorem rX4_tallyState : MX4_tallyState.2.2.2.2.1 = none := rfl
def b3 (x y z : Nat → Int64) (B : Nat → Nat → Int64) : Nat → Nat → Int64 := fun i => if i = 0 then x else if i = 3 then y else if i = 4 then z else B i
theorem b3_0 {x y z x' : Nat → Int64} {B : Nat → Nat → Int64} : z_up (b3 x y z B) 0 x' = b3 x' y z B := by
  funext i
  unfold z_up b3
  by_cases c : i = 0 <;> simp [c]
theorem b3_3 {x y z x' : Nat → Int64} {B : Nat → Nat → Int64} : z_up (b3 x y z B) 3 x' = b3 x x' z B := by
  funext i
  unfold z_up b3
  by_cases c : i = 3 <;> simp [c]
theorem b3_4 {x y z x' : Nat → Int64} {B : Nat → Nat → Int64} : z_up (b3 x y z B) 4 x' = b3 x y x' B := by
  funext i
  unfold z_up b3
  by_cases c : i = 4 <;> simp [c]
abbrev tT : Type := (Nat → Int64) × (Nat → Int64) × (Nat → Int64)
def tsS (bh : Nat → Int64) (s ins com us : Nat) (he : Int64) (q : tT) : Nat → tT
  | 0 => q
  | i + 1 =>
    let r := tsS bh s ins com us he q i
    if us.testBit i = true then
      (if ins.testBit i = true then (z_up r.1 (s + 3 ^ i) (r.1 (s + 3 ^ i) + he), r.2.1, r.2.2)
      else (z_up r.1 (s + 3 ^ i) (r.1 (s + 3 ^ i) + he), z_up r.2.1 (128 * i + com) (r.2.1 (128 * i + com) + he * bh (s + 3 ^ i)), z_up r.2.2 (128 * i + ins) (r.2.2 (128 * i + ins) + he * bh (s + 3 ^ i))))
    else r
section TALLY
variable {h h' : Nat → zE} {o k len m n la : Nat} {A : Nat → Nat → Nat} {B : Nat → Nat → Int64} {C : Nat → Nat → Nat} {op : Nat → Int32} {sn : Int32} {tl : Bool} {d : Nat} {u : zU} {Q : zR → Prop}
theorem w_ts (hk : ordOK o k) (hn : n ≤ 7) (hlen : len < 10000) (hm : 128 * n ≤ m) (hm2 : m < 10000) {s ins com us : Nat} {he : Int64} {q : tT} (hi1 : ins < 128) (hc1 : com < 128) (hus : us < 128) (hb : ∀ i, i < n → us.testBit i = true → s + 3 ^ i < len) : ∀ j i x8 x9, n - i = j → i ≤ n → zW d MX4_tallyState 35 ([.ref o, .int (nI s), .int (nI ins), .int (nI com), .long he, .null, .int (nI us), .int (nI i), x8, x9, .null], [], (ordSet h o k len m A (b3 (tsS (B 1) s ins com us he q i).1 (tsS (B 1) s ins com us he q i).2.1 (tsS (B 1) s ins com us he q i).2.2 B) C op sn tl n la, u)) (fun z => z = (none, (ordSet h o k len m A (b3 (tsS (B 1) s ins com us he q n).1 (tsS (B 1) s ins com us he q n).2.1 (tsS (B 1) s ins com us he q n).2.2 B) C op sn tl n la, u))) := by
  obtain ⟨k1, k2, k3⟩ := id hk
  have ho0 : o < 1000 := by omega
  have hk3 : k + 3 < 1000 := by omega
  have hk4 : k + 4 < 1000 := by omega
  have hk6 : k + 6 < 1000 := by omega
  have hk7 : k + 7 < 1000 := by omega
  have g3 : ∀ x y z, ordSet h o k len m A (b3 x y z B) C op sn tl n la (k + 3) = zJ len x := fun x y z => ord_B (B := b3 x y z B) (i := 0) hk (by decide)
  have g4 : ∀ x y z, ordSet h o k len m A (b3 x y z B) C op sn tl n la (k + 4) = zJ len (B 1) := fun x y z => ord_B (B := b3 x y z B) (i := 1) hk (by decide)
  have g6 : ∀ x y z, ordSet h o k len m A (b3 x y z B) C op sn tl n la (k + 6) = zJ m y := fun x y z => ord_D (B := b3 x y z B) (i := 0) hk (by decide)
  have g7 : ∀ x y z, ordSet h o k len m A (b3 x y z B) C op sn tl n la (k + 7) = zJ m z := fun x y z => ord_D (B := b3 x y z B) (i := 1) hk (by decide)
  have u3 : ∀ x y z x', z_up (ordSet h o k len m A (b3 x y z B) C op sn tl n la) (k + 3) (zJ len x') = ordSet h o k len m A (b3 x' y z B) C op sn tl n la := fun x y z x' => (ord_upB (B := b3 x y z B) (i := 0) hk (by decide)).trans (by rw [b3_0])
  have u6 : ∀ x y z x', z_up (ordSet h o k len m A (b3 x y z B) C op sn tl n la) (k + 6) (zJ m x') = ordSet h o k len m A (b3 x x' z B) C op sn tl n la := fun x y z x' => (ord_upD (B := b3 x y z B) (i := 0) hk (by decide)).trans (by rw [show 3 + 0 = 3 from rfl, b3_3])
  have u7 : ∀ x y z x', z_up (ordSet h o k len m A (b3 x y z B) C op sn tl n la) (k + 7) (zJ m x') = ordSet h o k len m A (b3 x y x' B) C op sn tl n la := fun x y z x' => (ord_upD (B := b3 x y z B) (i := 1) hk (by decide)).trans (by rw [show 3 + 1 = 4 from rfl, b3_4])
  intro j
  induction j with
  | zero =>
    intro i x8 x9 hi hle
    have e : i = n := by omega
    subst e
    rw [eX4_tallyState_35]
    simp only [eX4_tallyState_0, eX4_tallyState_1, eX4_tallyState_4, eX4_tallyState_5, eX4_tallyState_6, eX4_tallyState_7, eX4_tallyState_8, eX4_tallyState_9, eX4_tallyState_12, eX4_tallyState_13, eX4_tallyState_14, eX4_tallyState_15, eX4_tallyState_16, eX4_tallyState_17, eX4_tallyState_20, eX4_tallyState_21, eX4_tallyState_22, eX4_tallyState_24, eX4_tallyState_25, eX4_tallyState_28, eX4_tallyState_29, eX4_tallyState_30, eX4_tallyState_32, eX4_tallyState_33, eX4_tallyState_37, eX4_tallyState_38, eX4_tallyState_41, eX4_tallyState_44, eX4_tallyState_46, eX4_tallyState_48, eX4_tallyState_49, eX4_tallyState_50, eX4_tallyState_51, eX4_tallyState_52, eX4_tallyState_55, eX4_tallyState_56, eX4_tallyState_59, eX4_tallyState_61, eX4_tallyState_62, eX4_tallyState_63, eX4_tallyState_65, eX4_tallyState_66, eX4_tallyState_69, eX4_tallyState_71, eX4_tallyState_72, eX4_tallyState_73, eX4_tallyState_75, eX4_tallyState_76, eX4_tallyState_77, eX4_tallyState_78, eX4_tallyState_80, eX4_tallyState_81, eX4_tallyState_82, eX4_tallyState_83, eX4_tallyState_86, eX4_tallyState_88, eX4_tallyState_89, eX4_tallyState_92, eX4_tallyState_94, eX4_tallyState_95, eX4_tallyState_96, eX4_tallyState_98, eX4_tallyState_99, eX4_tallyState_102, eX4_tallyState_104, eX4_tallyState_107, eX4_tallyState_108, eX4_tallyState_109, eX4_tallyState_110, eX4_tallyState_111, eX4_tallyState_112, eX4_tallyState_114, eX4_tallyState_115, eX4_tallyState_116, eX4_tallyState_117, eX4_tallyState_120, eX4_tallyState_122, eX4_tallyState_125, eX4_tallyState_126, eX4_tallyState_127, eX4_tallyState_128, eX4_tallyState_129, eX4_tallyState_130, eX4_tallyState_132, eX4_tallyState_133, eX4_tallyState_134, eX4_tallyState_137, eX4_tallyState_140, rX4_tallyState, zg_aload, zg_dup2, zg_getfield, zg_getstatic, zg_goto, zg_iadd, zg_iaload, zg_iand, zg_icmp, zg_iconst, zg_if, zg_iinc, zg_iload, zg_imul, zg_ior, zg_ishr, zg_istore, zg_ladd, zg_laload, zg_lastore, zg_lload, zg_lmul, zg_lstore, zg_return, zg_sipush, q10, q01, q00, ite_self, zLd_i, zLd_l, zLd_a, zInc_i, zGet_o, zGet2_s, zPut_o, zAld_i, zAll_j, zAst_i, zAsl_j, zLen_i, zLen_j, zRt_i, zRt_z, zRl2_l, zRv_n, List.getElem?_cons_zero, List.getElem?_cons_succ, List.length_cons, List.length_nil, z_set, z_set2, z_cut, List.set_cons_zero, List.set_cons_succ, Option.toList_some, Option.toList_none, List.cons_append, List.nil_append, zif, zW_ite, zfit_0, zfit_1, zfit_2, zfit_3, zisc_o, zRt_c, zRt_b, List.map_cons, List.map_nil, List.sum_cons, List.sum_nil, true_and, and_true, if_true, if_false, ite_true, ite_false, Nat.reduceLT, Nat.reduceLeDiff, Nat.reduceAdd, Nat.reduceEqDiff, eq_self, not_true_eq_false, not_false_eq_true, Nat.lt_irrefl, or_true, true_or, or_false, false_or, z_cell_lt, Value.category, ord_0, ho0, Int32.lt_irrefl]
  | succ j ih =>
    intro i x8 x9 hi hle
    have hi7 : i < 7 := by omega
    have c1 : nI i < nI n := nI_lt (show i < n by omega) (by omega)
    have i1 : vp_in (nI i) 8 := vp_in_nI (show i < 8 by omega) (by decide)
    have ih := fun x8 x9 => ih (i + 1) x8 x9 (by omega) (by omega)
    have e1 : tsS (B 1) s ins com us he q (i + 1) = if us.testBit i = true then (if ins.testBit i = true then (z_up (tsS (B 1) s ins com us he q i).1 (s + 3 ^ i) ((tsS (B 1) s ins com us he q i).1 (s + 3 ^ i) + he), (tsS (B 1) s ins com us he q i).2.1, (tsS (B 1) s ins com us he q i).2.2) else (z_up (tsS (B 1) s ins com us he q i).1 (s + 3 ^ i) ((tsS (B 1) s ins com us he q i).1 (s + 3 ^ i) + he), z_up (tsS (B 1) s ins com us he q i).2.1 (128 * i + com) ((tsS (B 1) s ins com us he q i).2.1 (128 * i + com) + he * B 1 (s + 3 ^ i)), z_up (tsS (B 1) s ins com us he q i).2.2 (128 * i + ins) ((tsS (B 1) s ins com us he q i).2.2 (128 * i + ins) + he * B 1 (s + 3 ^ i)))) else tsS (B 1) s ins com us he q i := rfl
    rw [e1] at ih
    have r0 : nI i * 128 = nI (128 * i) := by rw [Int32.mul_comm]; exact pk_mul 128 i
    have j1 : vp_in (nI (128 * i + com)) m := vp_in_nI (by omega) (by omega)
    have j2 : (nI (128 * i + com)).toNatClampNeg = 128 * i + com := nI_clamp (by omega)
    have j3 : vp_in (nI (128 * i + ins)) m := vp_in_nI (by omega) (by omega)
    have j4 : (nI (128 * i + ins)).toNatClampNeg = 128 * i + ins := nI_clamp (by omega)
    rw [eX4_tallyState_35]
    by_cases c2 : us.testBit i = true
    · have hx := hb i (by omega) c2
      have i3 : vp_in (nI (s + 3 ^ i)) len := vp_in_nI hx (by omega)
      have i4 : (nI (s + 3 ^ i)).toNatClampNeg = s + 3 ^ i := nI_clamp (by omega)
      rw [if_pos c2] at ih
      by_cases c3 : ins.testBit i = true
      · rw [if_pos c3] at ih
        simp only [eX4_tallyState_0, eX4_tallyState_1, eX4_tallyState_4, eX4_tallyState_5, eX4_tallyState_6, eX4_tallyState_7, eX4_tallyState_8, eX4_tallyState_9, eX4_tallyState_12, eX4_tallyState_13, eX4_tallyState_14, eX4_tallyState_15, eX4_tallyState_16, eX4_tallyState_17, eX4_tallyState_20, eX4_tallyState_21, eX4_tallyState_22, eX4_tallyState_24, eX4_tallyState_25, eX4_tallyState_28, eX4_tallyState_29, eX4_tallyState_30, eX4_tallyState_32, eX4_tallyState_33, eX4_tallyState_37, eX4_tallyState_38, eX4_tallyState_41, eX4_tallyState_44, eX4_tallyState_46, eX4_tallyState_48, eX4_tallyState_49, eX4_tallyState_50, eX4_tallyState_51, eX4_tallyState_52, eX4_tallyState_55, eX4_tallyState_56, eX4_tallyState_59, eX4_tallyState_61, eX4_tallyState_62, eX4_tallyState_63, eX4_tallyState_65, eX4_tallyState_66, eX4_tallyState_69, eX4_tallyState_71, eX4_tallyState_72, eX4_tallyState_73, eX4_tallyState_75, eX4_tallyState_76, eX4_tallyState_77, eX4_tallyState_78, eX4_tallyState_80, eX4_tallyState_81, eX4_tallyState_82, eX4_tallyState_83, eX4_tallyState_86, eX4_tallyState_88, eX4_tallyState_89, eX4_tallyState_92, eX4_tallyState_94, eX4_tallyState_95, eX4_tallyState_96, eX4_tallyState_98, eX4_tallyState_99, eX4_tallyState_102, eX4_tallyState_104, eX4_tallyState_107, eX4_tallyState_108, eX4_tallyState_109, eX4_tallyState_110, eX4_tallyState_111, eX4_tallyState_112, eX4_tallyState_114, eX4_tallyState_115, eX4_tallyState_116, eX4_tallyState_117, eX4_tallyState_120, eX4_tallyState_122, eX4_tallyState_125, eX4_tallyState_126, eX4_tallyState_127, eX4_tallyState_128, eX4_tallyState_129, eX4_tallyState_130, eX4_tallyState_132, eX4_tallyState_133, eX4_tallyState_134, eX4_tallyState_137, eX4_tallyState_140, rX4_tallyState, zg_aload, zg_dup2, zg_getfield, zg_getstatic, zg_goto, zg_iadd, zg_iaload, zg_iand, zg_icmp, zg_iconst, zg_if, zg_iinc, zg_iload, zg_imul, zg_ior, zg_ishr, zg_istore, zg_ladd, zg_laload, zg_lastore, zg_lload, zg_lmul, zg_lstore, zg_return, zg_sipush, q10, q01, q00, ite_self, zLd_i, zLd_l, zLd_a, zInc_i, zGet_o, zGet2_s, zPut_o, zAld_i, zAll_j, zAst_i, zAsl_j, zLen_i, zLen_j, zRt_i, zRt_z, zRl2_l, zRv_n, List.getElem?_cons_zero, List.getElem?_cons_succ, List.length_cons, List.length_nil, z_set, z_set2, z_cut, List.set_cons_zero, List.set_cons_succ, Option.toList_some, Option.toList_none, List.cons_append, List.nil_append, zif, zW_ite, zfit_0, zfit_1, zfit_2, zfit_3, zisc_o, zRt_c, zRt_b, List.map_cons, List.map_nil, List.sum_cons, List.sum_nil, true_and, and_true, if_true, if_false, ite_true, ite_false, Nat.reduceLT, Nat.reduceLeDiff, Nat.reduceAdd, Nat.reduceEqDiff, eq_self, not_true_eq_false, not_false_eq_true, Nat.lt_irrefl, or_true, true_or, or_false, false_or, z_cell_lt, Value.category, ord_0, ho0, hk3, hk4, hk6, hk7, c1, q_bit us hus i (by omega), c2, pow_cell, i1, nI_c hi7, z_pw_eq i (by omega), nI_add, i3, i4, g3, updL_z, u3, q_bit ins hi1 i (by omega), c3, nI_1]
        exact ih _ _
      · rw [if_neg c3] at ih
        simp only [eX4_tallyState_0, eX4_tallyState_1, eX4_tallyState_4, eX4_tallyState_5, eX4_tallyState_6, eX4_tallyState_7, eX4_tallyState_8, eX4_tallyState_9, eX4_tallyState_12, eX4_tallyState_13, eX4_tallyState_14, eX4_tallyState_15, eX4_tallyState_16, eX4_tallyState_17, eX4_tallyState_20, eX4_tallyState_21, eX4_tallyState_22, eX4_tallyState_24, eX4_tallyState_25, eX4_tallyState_28, eX4_tallyState_29, eX4_tallyState_30, eX4_tallyState_32, eX4_tallyState_33, eX4_tallyState_37, eX4_tallyState_38, eX4_tallyState_41, eX4_tallyState_44, eX4_tallyState_46, eX4_tallyState_48, eX4_tallyState_49, eX4_tallyState_50, eX4_tallyState_51, eX4_tallyState_52, eX4_tallyState_55, eX4_tallyState_56, eX4_tallyState_59, eX4_tallyState_61, eX4_tallyState_62, eX4_tallyState_63, eX4_tallyState_65, eX4_tallyState_66, eX4_tallyState_69, eX4_tallyState_71, eX4_tallyState_72, eX4_tallyState_73, eX4_tallyState_75, eX4_tallyState_76, eX4_tallyState_77, eX4_tallyState_78, eX4_tallyState_80, eX4_tallyState_81, eX4_tallyState_82, eX4_tallyState_83, eX4_tallyState_86, eX4_tallyState_88, eX4_tallyState_89, eX4_tallyState_92, eX4_tallyState_94, eX4_tallyState_95, eX4_tallyState_96, eX4_tallyState_98, eX4_tallyState_99, eX4_tallyState_102, eX4_tallyState_104, eX4_tallyState_107, eX4_tallyState_108, eX4_tallyState_109, eX4_tallyState_110, eX4_tallyState_111, eX4_tallyState_112, eX4_tallyState_114, eX4_tallyState_115, eX4_tallyState_116, eX4_tallyState_117, eX4_tallyState_120, eX4_tallyState_122, eX4_tallyState_125, eX4_tallyState_126, eX4_tallyState_127, eX4_tallyState_128, eX4_tallyState_129, eX4_tallyState_130, eX4_tallyState_132, eX4_tallyState_133, eX4_tallyState_134, eX4_tallyState_137, eX4_tallyState_140, rX4_tallyState, zg_aload, zg_dup2, zg_getfield, zg_getstatic, zg_goto, zg_iadd, zg_iaload, zg_iand, zg_icmp, zg_iconst, zg_if, zg_iinc, zg_iload, zg_imul, zg_ior, zg_ishr, zg_istore, zg_ladd, zg_laload, zg_lastore, zg_lload, zg_lmul, zg_lstore, zg_return, zg_sipush, q10, q01, q00, ite_self, zLd_i, zLd_l, zLd_a, zInc_i, zGet_o, zGet2_s, zPut_o, zAld_i, zAll_j, zAst_i, zAsl_j, zLen_i, zLen_j, zRt_i, zRt_z, zRl2_l, zRv_n, List.getElem?_cons_zero, List.getElem?_cons_succ, List.length_cons, List.length_nil, z_set, z_set2, z_cut, List.set_cons_zero, List.set_cons_succ, Option.toList_some, Option.toList_none, List.cons_append, List.nil_append, zif, zW_ite, zfit_0, zfit_1, zfit_2, zfit_3, zisc_o, zRt_c, zRt_b, List.map_cons, List.map_nil, List.sum_cons, List.sum_nil, true_and, and_true, if_true, if_false, ite_true, ite_false, Nat.reduceLT, Nat.reduceLeDiff, Nat.reduceAdd, Nat.reduceEqDiff, eq_self, not_true_eq_false, not_false_eq_true, Nat.lt_irrefl, or_true, true_or, or_false, false_or, z_cell_lt, Value.category, ord_0, ho0, hk3, hk4, hk6, hk7, c1, q_bit us hus i (by omega), c2, pow_cell, i1, nI_c hi7, z_pw_eq i (by omega), nI_add, i3, i4, g3, g4, g6, g7, updL_z, u3, u6, u7, q_bit ins hi1 i (by omega), c3, r0, j1, j2, j3, j4, nI_1]
        exact ih _ _
    · rw [if_neg c2] at ih
      simp only [eX4_tallyState_0, eX4_tallyState_1, eX4_tallyState_4, eX4_tallyState_5, eX4_tallyState_6, eX4_tallyState_7, eX4_tallyState_8, eX4_tallyState_9, eX4_tallyState_12, eX4_tallyState_13, eX4_tallyState_14, eX4_tallyState_15, eX4_tallyState_16, eX4_tallyState_17, eX4_tallyState_20, eX4_tallyState_21, eX4_tallyState_22, eX4_tallyState_24, eX4_tallyState_25, eX4_tallyState_28, eX4_tallyState_29, eX4_tallyState_30, eX4_tallyState_32, eX4_tallyState_33, eX4_tallyState_37, eX4_tallyState_38, eX4_tallyState_41, eX4_tallyState_44, eX4_tallyState_46, eX4_tallyState_48, eX4_tallyState_49, eX4_tallyState_50, eX4_tallyState_51, eX4_tallyState_52, eX4_tallyState_55, eX4_tallyState_56, eX4_tallyState_59, eX4_tallyState_61, eX4_tallyState_62, eX4_tallyState_63, eX4_tallyState_65, eX4_tallyState_66, eX4_tallyState_69, eX4_tallyState_71, eX4_tallyState_72, eX4_tallyState_73, eX4_tallyState_75, eX4_tallyState_76, eX4_tallyState_77, eX4_tallyState_78, eX4_tallyState_80, eX4_tallyState_81, eX4_tallyState_82, eX4_tallyState_83, eX4_tallyState_86, eX4_tallyState_88, eX4_tallyState_89, eX4_tallyState_92, eX4_tallyState_94, eX4_tallyState_95, eX4_tallyState_96, eX4_tallyState_98, eX4_tallyState_99, eX4_tallyState_102, eX4_tallyState_104, eX4_tallyState_107, eX4_tallyState_108, eX4_tallyState_109, eX4_tallyState_110, eX4_tallyState_111, eX4_tallyState_112, eX4_tallyState_114, eX4_tallyState_115, eX4_tallyState_116, eX4_tallyState_117, eX4_tallyState_120, eX4_tallyState_122, eX4_tallyState_125, eX4_tallyState_126, eX4_tallyState_127, eX4_tallyState_128, eX4_tallyState_129, eX4_tallyState_130, eX4_tallyState_132, eX4_tallyState_133, eX4_tallyState_134, eX4_tallyState_137, eX4_tallyState_140, rX4_tallyState, zg_aload, zg_dup2, zg_getfield, zg_getstatic, zg_goto, zg_iadd, zg_iaload, zg_iand, zg_icmp, zg_iconst, zg_if, zg_iinc, zg_iload, zg_imul, zg_ior, zg_ishr, zg_istore, zg_ladd, zg_laload, zg_lastore, zg_lload, zg_lmul, zg_lstore, zg_return, zg_sipush, q10, q01, q00, ite_self, zLd_i, zLd_l, zLd_a, zInc_i, zGet_o, zGet2_s, zPut_o, zAld_i, zAll_j, zAst_i, zAsl_j, zLen_i, zLen_j, zRt_i, zRt_z, zRl2_l, zRv_n, List.getElem?_cons_zero, List.getElem?_cons_succ, List.length_cons, List.length_nil, z_set, z_set2, z_cut, List.set_cons_zero, List.set_cons_succ, Option.toList_some, Option.toList_none, List.cons_append, List.nil_append, zif, zW_ite, zfit_0, zfit_1, zfit_2, zfit_3, zisc_o, zRt_c, zRt_b, List.map_cons, List.map_nil, List.sum_cons, List.sum_nil, true_and, and_true, if_true, if_false, ite_true, ite_false, Nat.reduceLT, Nat.reduceLeDiff, Nat.reduceAdd, Nat.reduceEqDiff, eq_self, not_true_eq_false, not_false_eq_true, Nat.lt_irrefl, or_true, true_or, or_false, false_or, z_cell_lt, Value.category, ord_0, ho0, c1, q_bit us hus i (by omega), c2, nI_1]
      exact ih _ _
end TALLY

