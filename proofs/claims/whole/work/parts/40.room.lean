/-! ORDERS: who is in and who has gone in each state -/
theorem eX4_makeRoom_0 {d : Nat} {S : zS} {Q : zR → Prop} : zW d MX4_makeRoom 0 S Q = zGo d MX4_makeRoom (.aload 0) z0 1 S Q := zW_step (I := .aload_n 0) rfl S Q
theorem eX4_makeRoom_1 {d : Nat} {S : zS} {Q : zR → Prop} : zW d MX4_makeRoom 1 S Q = zGo d MX4_makeRoom (.getfield 9) (zf 3 4 0) 4 S Q := zW_step (I := .getfield 9) rfl S Q
theorem eX4_makeRoom_4 {d : Nat} {S : zS} {Q : zR → Prop} : zW d MX4_makeRoom 4 S Q = zGo d MX4_makeRoom (.arraylength) z0 5 S Q := zW_step (I := .arraylength) rfl S Q
theorem eX4_makeRoom_5 {d : Nat} {S : zS} {Q : zR → Prop} : zW d MX4_makeRoom 5 S Q = zGo d MX4_makeRoom (.aload 0) z0 6 S Q := zW_step (I := .aload_n 0) rfl S Q
theorem eX4_makeRoom_6 {d : Nat} {S : zS} {Q : zR → Prop} : zW d MX4_makeRoom 6 S Q = zGo d MX4_makeRoom (.getfield 62) (zf 0 4 14) 9 S Q := zW_step (I := .getfield 62) rfl S Q
theorem eX4_makeRoom_9 {d : Nat} {S : zS} {Q : zR → Prop} : zW d MX4_makeRoom 9 S Q = zGo d MX4_makeRoom (.if_icmp .le 4) (zt 13) 12 S Q := zW_step (I := .if_icmp .le 4) rfl S Q
theorem eX4_makeRoom_12 {d : Nat} {S : zS} {Q : zR → Prop} : zW d MX4_makeRoom 12 S Q = zGo d MX4_makeRoom (.return_) z0 13 S Q := zW_step (I := .return_) rfl S Q
theorem eX4_makeRoom_13 {d : Nat} {S : zS} {Q : zR → Prop} : zW d MX4_makeRoom 13 S Q = zGo d MX4_makeRoom (.aload 0) z0 14 S Q := zW_step (I := .aload_n 0) rfl S Q
theorem eX4_makeRoom_14 {d : Nat} {S : zS} {Q : zR → Prop} : zW d MX4_makeRoom 14 S Q = zGo d MX4_makeRoom (.aload 0) z0 15 S Q := zW_step (I := .aload_n 0) rfl S Q
theorem eX4_makeRoom_15 {d : Nat} {S : zS} {Q : zR → Prop} : zW d MX4_makeRoom 15 S Q = zGo d MX4_makeRoom (.getfield 62) (zf 0 4 14) 18 S Q := zW_step (I := .getfield 62) rfl S Q
theorem eX4_makeRoom_18 {d : Nat} {S : zS} {Q : zR → Prop} : zW d MX4_makeRoom 18 S Q = zGo d MX4_makeRoom (.iconst 1) (zv (.int 1)) 19 S Q := zW_step (I := .iconst 1) rfl S Q
theorem eX4_makeRoom_19 {d : Nat} {S : zS} {Q : zR → Prop} : zW d MX4_makeRoom 19 S Q = zGo d MX4_makeRoom (.iadd) z0 20 S Q := zW_step (I := .iadd) rfl S Q
theorem eX4_makeRoom_20 {d : Nat} {S : zS} {Q : zR → Prop} : zW d MX4_makeRoom 20 S Q = zGo d MX4_makeRoom (.newarray .int) (zb 0) 22 S Q := zW_step (I := .newarray .int) rfl S Q
theorem eX4_makeRoom_22 {d : Nat} {S : zS} {Q : zR → Prop} : zW d MX4_makeRoom 22 S Q = zGo d MX4_makeRoom (.putfield 9) (zf 3 4 0) 25 S Q := zW_step (I := .putfield 9) rfl S Q
theorem eX4_makeRoom_25 {d : Nat} {S : zS} {Q : zR → Prop} : zW d MX4_makeRoom 25 S Q = zGo d MX4_makeRoom (.aload 0) z0 26 S Q := zW_step (I := .aload_n 0) rfl S Q
theorem eX4_makeRoom_26 {d : Nat} {S : zS} {Q : zR → Prop} : zW d MX4_makeRoom 26 S Q = zGo d MX4_makeRoom (.aload 0) z0 27 S Q := zW_step (I := .aload_n 0) rfl S Q
theorem eX4_makeRoom_27 {d : Nat} {S : zS} {Q : zR → Prop} : zW d MX4_makeRoom 27 S Q = zGo d MX4_makeRoom (.getfield 62) (zf 0 4 14) 30 S Q := zW_step (I := .getfield 62) rfl S Q
theorem eX4_makeRoom_30 {d : Nat} {S : zS} {Q : zR → Prop} : zW d MX4_makeRoom 30 S Q = zGo d MX4_makeRoom (.iconst 1) (zv (.int 1)) 31 S Q := zW_step (I := .iconst 1) rfl S Q
theorem eX4_makeRoom_31 {d : Nat} {S : zS} {Q : zR → Prop} : zW d MX4_makeRoom 31 S Q = zGo d MX4_makeRoom (.iadd) z0 32 S Q := zW_step (I := .iadd) rfl S Q
theorem eX4_makeRoom_32 {d : Nat} {S : zS} {Q : zR → Prop} : zW d MX4_makeRoom 32 S Q = zGo d MX4_makeRoom (.newarray .int) (zb 0) 34 S Q := zW_step (I := .newarray .int) rfl S Q
theorem eX4_makeRoom_34 {d : Nat} {S : zS} {Q : zR → Prop} : zW d MX4_makeRoom 34 S Q = zGo d MX4_makeRoom (.putfield 15) (zf 3 4 1) 37 S Q := zW_step (I := .putfield 15) rfl S Q
theorem eX4_makeRoom_37 {d : Nat} {S : zS} {Q : zR → Prop} : zW d MX4_makeRoom 37 S Q = zGo d MX4_makeRoom (.aload 0) z0 38 S Q := zW_step (I := .aload_n 0) rfl S Q
theorem eX4_makeRoom_38 {d : Nat} {S : zS} {Q : zR → Prop} : zW d MX4_makeRoom 38 S Q = zGo d MX4_makeRoom (.aload 0) z0 39 S Q := zW_step (I := .aload_n 0) rfl S Q
theorem eX4_makeRoom_39 {d : Nat} {S : zS} {Q : zR → Prop} : zW d MX4_makeRoom 39 S Q = zGo d MX4_makeRoom (.getfield 62) (zf 0 4 14) 42 S Q := zW_step (I := .getfield 62) rfl S Q
theorem eX4_makeRoom_42 {d : Nat} {S : zS} {Q : zR → Prop} : zW d MX4_makeRoom 42 S Q = zGo d MX4_makeRoom (.iconst 1) (zv (.int 1)) 43 S Q := zW_step (I := .iconst 1) rfl S Q
theorem eX4_makeRoom_43 {d : Nat} {S : zS} {Q : zR → Prop} : zW d MX4_makeRoom 43 S Q = zGo d MX4_makeRoom (.iadd) z0 44 S Q := zW_step (I := .iadd) rfl S Q
theorem eX4_makeRoom_44 {d : Nat} {S : zS} {Q : zR → Prop} : zW d MX4_makeRoom 44 S Q = zGo d MX4_makeRoom (.newarray .int) (zb 0) 46 S Q := zW_step (I := .newarray .int) rfl S Q
theorem eX4_makeRoom_46 {d : Nat} {S : zS} {Q : zR → Prop} : zW d MX4_makeRoom 46 S Q = zGo d MX4_makeRoom (.putfield 18) (zf 3 4 2) 49 S Q := zW_step (I := .putfield 18) rfl S Q
theorem eX4_makeRoom_49 {d : Nat} {S : zS} {Q : zR → Prop} : zW d MX4_makeRoom 49 S Q = zGo d MX4_makeRoom (.aload 0) z0 50 S Q := zW_step (I := .aload_n 0) rfl S Q
theorem eX4_makeRoom_50 {d : Nat} {S : zS} {Q : zR → Prop} : zW d MX4_makeRoom 50 S Q = zGo d MX4_makeRoom (.aload 0) z0 51 S Q := zW_step (I := .aload_n 0) rfl S Q
theorem eX4_makeRoom_51 {d : Nat} {S : zS} {Q : zR → Prop} : zW d MX4_makeRoom 51 S Q = zGo d MX4_makeRoom (.getfield 62) (zf 0 4 14) 54 S Q := zW_step (I := .getfield 62) rfl S Q
theorem eX4_makeRoom_54 {d : Nat} {S : zS} {Q : zR → Prop} : zW d MX4_makeRoom 54 S Q = zGo d MX4_makeRoom (.iconst 1) (zv (.int 1)) 55 S Q := zW_step (I := .iconst 1) rfl S Q
theorem eX4_makeRoom_55 {d : Nat} {S : zS} {Q : zR → Prop} : zW d MX4_makeRoom 55 S Q = zGo d MX4_makeRoom (.iadd) z0 56 S Q := zW_step (I := .iadd) rfl S Q
theorem eX4_makeRoom_56 {d : Nat} {S : zS} {Q : zR → Prop} : zW d MX4_makeRoom 56 S Q = zGo d MX4_makeRoom (.newarray .long) (zb 1) 58 S Q := zW_step (I := .newarray .long) rfl S Q
theorem eX4_makeRoom_58 {d : Nat} {S : zS} {Q : zR → Prop} : zW d MX4_makeRoom 58 S Q = zGo d MX4_makeRoom (.putfield 21) (zf 3 4 3) 61 S Q := zW_step (I := .putfield 21) rfl S Q
theorem eX4_makeRoom_61 {d : Nat} {S : zS} {Q : zR → Prop} : zW d MX4_makeRoom 61 S Q = zGo d MX4_makeRoom (.aload 0) z0 62 S Q := zW_step (I := .aload_n 0) rfl S Q
theorem eX4_makeRoom_62 {d : Nat} {S : zS} {Q : zR → Prop} : zW d MX4_makeRoom 62 S Q = zGo d MX4_makeRoom (.aload 0) z0 63 S Q := zW_step (I := .aload_n 0) rfl S Q
theorem eX4_makeRoom_63 {d : Nat} {S : zS} {Q : zR → Prop} : zW d MX4_makeRoom 63 S Q = zGo d MX4_makeRoom (.getfield 62) (zf 0 4 14) 66 S Q := zW_step (I := .getfield 62) rfl S Q
theorem eX4_makeRoom_66 {d : Nat} {S : zS} {Q : zR → Prop} : zW d MX4_makeRoom 66 S Q = zGo d MX4_makeRoom (.iconst 1) (zv (.int 1)) 67 S Q := zW_step (I := .iconst 1) rfl S Q
theorem eX4_makeRoom_67 {d : Nat} {S : zS} {Q : zR → Prop} : zW d MX4_makeRoom 67 S Q = zGo d MX4_makeRoom (.iadd) z0 68 S Q := zW_step (I := .iadd) rfl S Q
theorem eX4_makeRoom_68 {d : Nat} {S : zS} {Q : zR → Prop} : zW d MX4_makeRoom 68 S Q = zGo d MX4_makeRoom (.newarray .long) (zb 1) 70 S Q := zW_step (I := .newarray .long) rfl S Q
theorem eX4_makeRoom_70 {d : Nat} {S : zS} {Q : zR → Prop} : zW d MX4_makeRoom 70 S Q = zGo d MX4_makeRoom (.putfield 25) (zf 3 4 4) 73 S Q := zW_step (I := .putfield 25) rfl S Q
theorem eX4_makeRoom_73 {d : Nat} {S : zS} {Q : zR → Prop} : zW d MX4_makeRoom 73 S Q = zGo d MX4_makeRoom (.aload 0) z0 74 S Q := zW_step (I := .aload_n 0) rfl S Q
theorem eX4_makeRoom_74 {d : Nat} {S : zS} {Q : zR → Prop} : zW d MX4_makeRoom 74 S Q = zGo d MX4_makeRoom (.aload 0) z0 75 S Q := zW_step (I := .aload_n 0) rfl S Q
theorem eX4_makeRoom_75 {d : Nat} {S : zS} {Q : zR → Prop} : zW d MX4_makeRoom 75 S Q = zGo d MX4_makeRoom (.getfield 62) (zf 0 4 14) 78 S Q := zW_step (I := .getfield 62) rfl S Q
theorem eX4_makeRoom_78 {d : Nat} {S : zS} {Q : zR → Prop} : zW d MX4_makeRoom 78 S Q = zGo d MX4_makeRoom (.iconst 1) (zv (.int 1)) 79 S Q := zW_step (I := .iconst 1) rfl S Q
theorem eX4_makeRoom_79 {d : Nat} {S : zS} {Q : zR → Prop} : zW d MX4_makeRoom 79 S Q = zGo d MX4_makeRoom (.iadd) z0 80 S Q := zW_step (I := .iadd) rfl S Q
theorem eX4_makeRoom_80 {d : Nat} {S : zS} {Q : zR → Prop} : zW d MX4_makeRoom 80 S Q = zGo d MX4_makeRoom (.newarray .long) (zb 1) 82 S Q := zW_step (I := .newarray .long) rfl S Q
theorem eX4_makeRoom_82 {d : Nat} {S : zS} {Q : zR → Prop} : zW d MX4_makeRoom 82 S Q = zGo d MX4_makeRoom (.putfield 28) (zf 3 4 5) 85 S Q := zW_step (I := .putfield 28) rfl S Q
theorem eX4_makeRoom_85 {d : Nat} {S : zS} {Q : zR → Prop} : zW d MX4_makeRoom 85 S Q = zGo d MX4_makeRoom (.aload 0) z0 86 S Q := zW_step (I := .aload_n 0) rfl S Q
theorem eX4_makeRoom_86 {d : Nat} {S : zS} {Q : zR → Prop} : zW d MX4_makeRoom 86 S Q = zGo d MX4_makeRoom (.aload 0) z0 87 S Q := zW_step (I := .aload_n 0) rfl S Q
theorem eX4_makeRoom_87 {d : Nat} {S : zS} {Q : zR → Prop} : zW d MX4_makeRoom 87 S Q = zGo d MX4_makeRoom (.getfield 58) (zf 0 4 13) 90 S Q := zW_step (I := .getfield 58) rfl S Q
theorem eX4_makeRoom_90 {d : Nat} {S : zS} {Q : zR → Prop} : zW d MX4_makeRoom 90 S Q = zGo d MX4_makeRoom (.sipush 128) (zv (.int 128)) 93 S Q := zW_step (I := .sipush 128) rfl S Q
theorem eX4_makeRoom_93 {d : Nat} {S : zS} {Q : zR → Prop} : zW d MX4_makeRoom 93 S Q = zGo d MX4_makeRoom (.imul) z0 94 S Q := zW_step (I := .imul) rfl S Q
theorem eX4_makeRoom_94 {d : Nat} {S : zS} {Q : zR → Prop} : zW d MX4_makeRoom 94 S Q = zGo d MX4_makeRoom (.newarray .long) (zb 1) 96 S Q := zW_step (I := .newarray .long) rfl S Q
theorem eX4_makeRoom_96 {d : Nat} {S : zS} {Q : zR → Prop} : zW d MX4_makeRoom 96 S Q = zGo d MX4_makeRoom (.putfield 31) (zf 3 4 6) 99 S Q := zW_step (I := .putfield 31) rfl S Q
theorem eX4_makeRoom_99 {d : Nat} {S : zS} {Q : zR → Prop} : zW d MX4_makeRoom 99 S Q = zGo d MX4_makeRoom (.aload 0) z0 100 S Q := zW_step (I := .aload_n 0) rfl S Q
theorem eX4_makeRoom_100 {d : Nat} {S : zS} {Q : zR → Prop} : zW d MX4_makeRoom 100 S Q = zGo d MX4_makeRoom (.aload 0) z0 101 S Q := zW_step (I := .aload_n 0) rfl S Q
theorem eX4_makeRoom_101 {d : Nat} {S : zS} {Q : zR → Prop} : zW d MX4_makeRoom 101 S Q = zGo d MX4_makeRoom (.getfield 58) (zf 0 4 13) 104 S Q := zW_step (I := .getfield 58) rfl S Q
theorem eX4_makeRoom_104 {d : Nat} {S : zS} {Q : zR → Prop} : zW d MX4_makeRoom 104 S Q = zGo d MX4_makeRoom (.sipush 128) (zv (.int 128)) 107 S Q := zW_step (I := .sipush 128) rfl S Q
theorem eX4_makeRoom_107 {d : Nat} {S : zS} {Q : zR → Prop} : zW d MX4_makeRoom 107 S Q = zGo d MX4_makeRoom (.imul) z0 108 S Q := zW_step (I := .imul) rfl S Q
theorem eX4_makeRoom_108 {d : Nat} {S : zS} {Q : zR → Prop} : zW d MX4_makeRoom 108 S Q = zGo d MX4_makeRoom (.newarray .long) (zb 1) 110 S Q := zW_step (I := .newarray .long) rfl S Q
theorem eX4_makeRoom_110 {d : Nat} {S : zS} {Q : zR → Prop} : zW d MX4_makeRoom 110 S Q = zGo d MX4_makeRoom (.putfield 34) (zf 3 4 7) 113 S Q := zW_step (I := .putfield 34) rfl S Q
theorem eX4_makeRoom_113 {d : Nat} {S : zS} {Q : zR → Prop} : zW d MX4_makeRoom 113 S Q = zGo d MX4_makeRoom (.iconst 0) (zv (.int 0)) 114 S Q := zW_step (I := .iconst 0) rfl S Q
theorem eX4_makeRoom_114 {d : Nat} {S : zS} {Q : zR → Prop} : zW d MX4_makeRoom 114 S Q = zGo d MX4_makeRoom (.istore 1) z0 115 S Q := zW_step (I := .istore_n 1) rfl S Q
theorem eX4_makeRoom_115 {d : Nat} {S : zS} {Q : zR → Prop} : zW d MX4_makeRoom 115 S Q = zGo d MX4_makeRoom (.iload 1) z0 116 S Q := zW_step (I := .iload_n 1) rfl S Q
theorem eX4_makeRoom_116 {d : Nat} {S : zS} {Q : zR → Prop} : zW d MX4_makeRoom 116 S Q = zGo d MX4_makeRoom (.aload 0) z0 117 S Q := zW_step (I := .aload_n 0) rfl S Q
theorem eX4_makeRoom_117 {d : Nat} {S : zS} {Q : zR → Prop} : zW d MX4_makeRoom 117 S Q = zGo d MX4_makeRoom (.getfield 58) (zf 0 4 13) 120 S Q := zW_step (I := .getfield 58) rfl S Q
theorem eX4_makeRoom_120 {d : Nat} {S : zS} {Q : zR → Prop} : zW d MX4_makeRoom 120 S Q = zGo d MX4_makeRoom (.if_icmp .ge 123) (zt 243) 123 S Q := zW_step (I := .if_icmp .ge 123) rfl S Q
theorem eX4_makeRoom_123 {d : Nat} {S : zS} {Q : zR → Prop} : zW d MX4_makeRoom 123 S Q = zGo d MX4_makeRoom (.getstatic 59) (zv (.ref 1000)) 126 S Q := zW_step (I := .getstatic 59) rfl S Q
theorem eX4_makeRoom_126 {d : Nat} {S : zS} {Q : zR → Prop} : zW d MX4_makeRoom 126 S Q = zGo d MX4_makeRoom (.iload 1) z0 127 S Q := zW_step (I := .iload_n 1) rfl S Q
theorem eX4_makeRoom_127 {d : Nat} {S : zS} {Q : zR → Prop} : zW d MX4_makeRoom 127 S Q = zGo d MX4_makeRoom (.iaload) z0 128 S Q := zW_step (I := .iaload) rfl S Q
theorem eX4_makeRoom_128 {d : Nat} {S : zS} {Q : zR → Prop} : zW d MX4_makeRoom 128 S Q = zGo d MX4_makeRoom (.istore 2) z0 129 S Q := zW_step (I := .istore_n 2) rfl S Q
theorem eX4_makeRoom_129 {d : Nat} {S : zS} {Q : zR → Prop} : zW d MX4_makeRoom 129 S Q = zGo d MX4_makeRoom (.iconst 1) (zv (.int 1)) 130 S Q := zW_step (I := .iconst 1) rfl S Q
theorem eX4_makeRoom_130 {d : Nat} {S : zS} {Q : zR → Prop} : zW d MX4_makeRoom 130 S Q = zGo d MX4_makeRoom (.iload 1) z0 131 S Q := zW_step (I := .iload_n 1) rfl S Q
theorem eX4_makeRoom_131 {d : Nat} {S : zS} {Q : zR → Prop} : zW d MX4_makeRoom 131 S Q = zGo d MX4_makeRoom (.ishl) z0 132 S Q := zW_step (I := .ishl) rfl S Q
theorem eX4_makeRoom_132 {d : Nat} {S : zS} {Q : zR → Prop} : zW d MX4_makeRoom 132 S Q = zGo d MX4_makeRoom (.istore 3) z0 133 S Q := zW_step (I := .istore_n 3) rfl S Q
theorem eX4_makeRoom_133 {d : Nat} {S : zS} {Q : zR → Prop} : zW d MX4_makeRoom 133 S Q = zGo d MX4_makeRoom (.iload 2) z0 134 S Q := zW_step (I := .iload_n 2) rfl S Q
theorem eX4_makeRoom_134 {d : Nat} {S : zS} {Q : zR → Prop} : zW d MX4_makeRoom 134 S Q = zGo d MX4_makeRoom (.istore 4) z0 136 S Q := zW_step (I := .istore 4) rfl S Q
theorem eX4_makeRoom_136 {d : Nat} {S : zS} {Q : zR → Prop} : zW d MX4_makeRoom 136 S Q = zGo d MX4_makeRoom (.iload 4) z0 138 S Q := zW_step (I := .iload 4) rfl S Q
theorem eX4_makeRoom_138 {d : Nat} {S : zS} {Q : zR → Prop} : zW d MX4_makeRoom 138 S Q = zGo d MX4_makeRoom (.iconst 3) (zv (.int 3)) 139 S Q := zW_step (I := .iconst 3) rfl S Q
theorem eX4_makeRoom_139 {d : Nat} {S : zS} {Q : zR → Prop} : zW d MX4_makeRoom 139 S Q = zGo d MX4_makeRoom (.iload 2) z0 140 S Q := zW_step (I := .iload_n 2) rfl S Q
theorem eX4_makeRoom_140 {d : Nat} {S : zS} {Q : zR → Prop} : zW d MX4_makeRoom 140 S Q = zGo d MX4_makeRoom (.imul) z0 141 S Q := zW_step (I := .imul) rfl S Q
theorem eX4_makeRoom_141 {d : Nat} {S : zS} {Q : zR → Prop} : zW d MX4_makeRoom 141 S Q = zGo d MX4_makeRoom (.if_icmp .ge 96) (zt 237) 144 S Q := zW_step (I := .if_icmp .ge 96) rfl S Q
theorem eX4_makeRoom_144 {d : Nat} {S : zS} {Q : zR → Prop} : zW d MX4_makeRoom 144 S Q = zGo d MX4_makeRoom (.iload 4) z0 146 S Q := zW_step (I := .iload 4) rfl S Q
theorem eX4_makeRoom_146 {d : Nat} {S : zS} {Q : zR → Prop} : zW d MX4_makeRoom 146 S Q = zGo d MX4_makeRoom (.iload 2) z0 147 S Q := zW_step (I := .iload_n 2) rfl S Q
theorem eX4_makeRoom_147 {d : Nat} {S : zS} {Q : zR → Prop} : zW d MX4_makeRoom 147 S Q = zGo d MX4_makeRoom (.isub) z0 148 S Q := zW_step (I := .isub) rfl S Q
theorem eX4_makeRoom_148 {d : Nat} {S : zS} {Q : zR → Prop} : zW d MX4_makeRoom 148 S Q = zGo d MX4_makeRoom (.istore 5) z0 150 S Q := zW_step (I := .istore 5) rfl S Q
theorem eX4_makeRoom_150 {d : Nat} {S : zS} {Q : zR → Prop} : zW d MX4_makeRoom 150 S Q = zGo d MX4_makeRoom (.iload 4) z0 152 S Q := zW_step (I := .iload 4) rfl S Q
theorem eX4_makeRoom_152 {d : Nat} {S : zS} {Q : zR → Prop} : zW d MX4_makeRoom 152 S Q = zGo d MX4_makeRoom (.iconst 2) (zv (.int 2)) 153 S Q := zW_step (I := .iconst 2) rfl S Q
theorem eX4_makeRoom_153 {d : Nat} {S : zS} {Q : zR → Prop} : zW d MX4_makeRoom 153 S Q = zGo d MX4_makeRoom (.iload 2) z0 154 S Q := zW_step (I := .iload_n 2) rfl S Q
theorem eX4_makeRoom_154 {d : Nat} {S : zS} {Q : zR → Prop} : zW d MX4_makeRoom 154 S Q = zGo d MX4_makeRoom (.imul) z0 155 S Q := zW_step (I := .imul) rfl S Q
theorem eX4_makeRoom_155 {d : Nat} {S : zS} {Q : zR → Prop} : zW d MX4_makeRoom 155 S Q = zGo d MX4_makeRoom (.if_icmp .lt 7) (zt 162) 158 S Q := zW_step (I := .if_icmp .lt 7) rfl S Q
theorem eX4_makeRoom_158 {d : Nat} {S : zS} {Q : zR → Prop} : zW d MX4_makeRoom 158 S Q = zGo d MX4_makeRoom (.iconst 1) (zv (.int 1)) 159 S Q := zW_step (I := .iconst 1) rfl S Q
theorem eX4_makeRoom_159 {d : Nat} {S : zS} {Q : zR → Prop} : zW d MX4_makeRoom 159 S Q = zGo d MX4_makeRoom (.goto 4) (zt 163) 162 S Q := zW_step (I := .goto 4) rfl S Q
theorem eX4_makeRoom_162 {d : Nat} {S : zS} {Q : zR → Prop} : zW d MX4_makeRoom 162 S Q = zGo d MX4_makeRoom (.iconst 0) (zv (.int 0)) 163 S Q := zW_step (I := .iconst 0) rfl S Q
theorem eX4_makeRoom_163 {d : Nat} {S : zS} {Q : zR → Prop} : zW d MX4_makeRoom 163 S Q = zGo d MX4_makeRoom (.istore 6) z0 165 S Q := zW_step (I := .istore 6) rfl S Q
theorem eX4_makeRoom_165 {d : Nat} {S : zS} {Q : zR → Prop} : zW d MX4_makeRoom 165 S Q = zGo d MX4_makeRoom (.aload 0) z0 166 S Q := zW_step (I := .aload_n 0) rfl S Q
theorem eX4_makeRoom_166 {d : Nat} {S : zS} {Q : zR → Prop} : zW d MX4_makeRoom 166 S Q = zGo d MX4_makeRoom (.getfield 9) (zf 3 4 0) 169 S Q := zW_step (I := .getfield 9) rfl S Q
theorem eX4_makeRoom_169 {d : Nat} {S : zS} {Q : zR → Prop} : zW d MX4_makeRoom 169 S Q = zGo d MX4_makeRoom (.iload 4) z0 171 S Q := zW_step (I := .iload 4) rfl S Q
theorem eX4_makeRoom_171 {d : Nat} {S : zS} {Q : zR → Prop} : zW d MX4_makeRoom 171 S Q = zGo d MX4_makeRoom (.iload 6) z0 173 S Q := zW_step (I := .iload 6) rfl S Q
theorem eX4_makeRoom_173 {d : Nat} {S : zS} {Q : zR → Prop} : zW d MX4_makeRoom 173 S Q = zGo d MX4_makeRoom (.ifCond .eq 17) (zt 190) 176 S Q := zW_step (I := .ifCond .eq 17) rfl S Q
theorem eX4_makeRoom_176 {d : Nat} {S : zS} {Q : zR → Prop} : zW d MX4_makeRoom 176 S Q = zGo d MX4_makeRoom (.aload 0) z0 177 S Q := zW_step (I := .aload_n 0) rfl S Q
theorem eX4_makeRoom_177 {d : Nat} {S : zS} {Q : zR → Prop} : zW d MX4_makeRoom 177 S Q = zGo d MX4_makeRoom (.getfield 9) (zf 3 4 0) 180 S Q := zW_step (I := .getfield 9) rfl S Q
theorem eX4_makeRoom_180 {d : Nat} {S : zS} {Q : zR → Prop} : zW d MX4_makeRoom 180 S Q = zGo d MX4_makeRoom (.iload 5) z0 182 S Q := zW_step (I := .iload 5) rfl S Q
theorem eX4_makeRoom_182 {d : Nat} {S : zS} {Q : zR → Prop} : zW d MX4_makeRoom 182 S Q = zGo d MX4_makeRoom (.iaload) z0 183 S Q := zW_step (I := .iaload) rfl S Q
theorem eX4_makeRoom_183 {d : Nat} {S : zS} {Q : zR → Prop} : zW d MX4_makeRoom 183 S Q = zGo d MX4_makeRoom (.iload 3) z0 184 S Q := zW_step (I := .iload_n 3) rfl S Q
theorem eX4_makeRoom_184 {d : Nat} {S : zS} {Q : zR → Prop} : zW d MX4_makeRoom 184 S Q = zGo d MX4_makeRoom (.iconst (-1)) (zv (.int (-1))) 185 S Q := zW_step (I := .iconst (-1)) rfl S Q
theorem eX4_makeRoom_185 {d : Nat} {S : zS} {Q : zR → Prop} : zW d MX4_makeRoom 185 S Q = zGo d MX4_makeRoom (.ixor) z0 186 S Q := zW_step (I := .ixor) rfl S Q
theorem eX4_makeRoom_186 {d : Nat} {S : zS} {Q : zR → Prop} : zW d MX4_makeRoom 186 S Q = zGo d MX4_makeRoom (.iand) z0 187 S Q := zW_step (I := .iand) rfl S Q
theorem eX4_makeRoom_187 {d : Nat} {S : zS} {Q : zR → Prop} : zW d MX4_makeRoom 187 S Q = zGo d MX4_makeRoom (.goto 12) (zt 199) 190 S Q := zW_step (I := .goto 12) rfl S Q
theorem eX4_makeRoom_190 {d : Nat} {S : zS} {Q : zR → Prop} : zW d MX4_makeRoom 190 S Q = zGo d MX4_makeRoom (.aload 0) z0 191 S Q := zW_step (I := .aload_n 0) rfl S Q
theorem eX4_makeRoom_191 {d : Nat} {S : zS} {Q : zR → Prop} : zW d MX4_makeRoom 191 S Q = zGo d MX4_makeRoom (.getfield 9) (zf 3 4 0) 194 S Q := zW_step (I := .getfield 9) rfl S Q
theorem eX4_makeRoom_194 {d : Nat} {S : zS} {Q : zR → Prop} : zW d MX4_makeRoom 194 S Q = zGo d MX4_makeRoom (.iload 5) z0 196 S Q := zW_step (I := .iload 5) rfl S Q
theorem eX4_makeRoom_196 {d : Nat} {S : zS} {Q : zR → Prop} : zW d MX4_makeRoom 196 S Q = zGo d MX4_makeRoom (.iaload) z0 197 S Q := zW_step (I := .iaload) rfl S Q
theorem eX4_makeRoom_197 {d : Nat} {S : zS} {Q : zR → Prop} : zW d MX4_makeRoom 197 S Q = zGo d MX4_makeRoom (.iload 3) z0 198 S Q := zW_step (I := .iload_n 3) rfl S Q
theorem eX4_makeRoom_198 {d : Nat} {S : zS} {Q : zR → Prop} : zW d MX4_makeRoom 198 S Q = zGo d MX4_makeRoom (.ior) z0 199 S Q := zW_step (I := .ior) rfl S Q
theorem eX4_makeRoom_199 {d : Nat} {S : zS} {Q : zR → Prop} : zW d MX4_makeRoom 199 S Q = zGo d MX4_makeRoom (.iastore) z0 200 S Q := zW_step (I := .iastore) rfl S Q
theorem eX4_makeRoom_200 {d : Nat} {S : zS} {Q : zR → Prop} : zW d MX4_makeRoom 200 S Q = zGo d MX4_makeRoom (.aload 0) z0 201 S Q := zW_step (I := .aload_n 0) rfl S Q
theorem eX4_makeRoom_201 {d : Nat} {S : zS} {Q : zR → Prop} : zW d MX4_makeRoom 201 S Q = zGo d MX4_makeRoom (.getfield 15) (zf 3 4 1) 204 S Q := zW_step (I := .getfield 15) rfl S Q
theorem eX4_makeRoom_204 {d : Nat} {S : zS} {Q : zR → Prop} : zW d MX4_makeRoom 204 S Q = zGo d MX4_makeRoom (.iload 4) z0 206 S Q := zW_step (I := .iload 4) rfl S Q
theorem eX4_makeRoom_206 {d : Nat} {S : zS} {Q : zR → Prop} : zW d MX4_makeRoom 206 S Q = zGo d MX4_makeRoom (.iload 6) z0 208 S Q := zW_step (I := .iload 6) rfl S Q
theorem eX4_makeRoom_208 {d : Nat} {S : zS} {Q : zR → Prop} : zW d MX4_makeRoom 208 S Q = zGo d MX4_makeRoom (.ifCond .eq 15) (zt 223) 211 S Q := zW_step (I := .ifCond .eq 15) rfl S Q
theorem eX4_makeRoom_211 {d : Nat} {S : zS} {Q : zR → Prop} : zW d MX4_makeRoom 211 S Q = zGo d MX4_makeRoom (.aload 0) z0 212 S Q := zW_step (I := .aload_n 0) rfl S Q
theorem eX4_makeRoom_212 {d : Nat} {S : zS} {Q : zR → Prop} : zW d MX4_makeRoom 212 S Q = zGo d MX4_makeRoom (.getfield 15) (zf 3 4 1) 215 S Q := zW_step (I := .getfield 15) rfl S Q
theorem eX4_makeRoom_215 {d : Nat} {S : zS} {Q : zR → Prop} : zW d MX4_makeRoom 215 S Q = zGo d MX4_makeRoom (.iload 5) z0 217 S Q := zW_step (I := .iload 5) rfl S Q
theorem eX4_makeRoom_217 {d : Nat} {S : zS} {Q : zR → Prop} : zW d MX4_makeRoom 217 S Q = zGo d MX4_makeRoom (.iaload) z0 218 S Q := zW_step (I := .iaload) rfl S Q
theorem eX4_makeRoom_218 {d : Nat} {S : zS} {Q : zR → Prop} : zW d MX4_makeRoom 218 S Q = zGo d MX4_makeRoom (.iload 3) z0 219 S Q := zW_step (I := .iload_n 3) rfl S Q
theorem eX4_makeRoom_219 {d : Nat} {S : zS} {Q : zR → Prop} : zW d MX4_makeRoom 219 S Q = zGo d MX4_makeRoom (.ior) z0 220 S Q := zW_step (I := .ior) rfl S Q
theorem eX4_makeRoom_220 {d : Nat} {S : zS} {Q : zR → Prop} : zW d MX4_makeRoom 220 S Q = zGo d MX4_makeRoom (.goto 10) (zt 230) 223 S Q := zW_step (I := .goto 10) rfl S Q
theorem eX4_makeRoom_223 {d : Nat} {S : zS} {Q : zR → Prop} : zW d MX4_makeRoom 223 S Q = zGo d MX4_makeRoom (.aload 0) z0 224 S Q := zW_step (I := .aload_n 0) rfl S Q
theorem eX4_makeRoom_224 {d : Nat} {S : zS} {Q : zR → Prop} : zW d MX4_makeRoom 224 S Q = zGo d MX4_makeRoom (.getfield 15) (zf 3 4 1) 227 S Q := zW_step (I := .getfield 15) rfl S Q
theorem eX4_makeRoom_227 {d : Nat} {S : zS} {Q : zR → Prop} : zW d MX4_makeRoom 227 S Q = zGo d MX4_makeRoom (.iload 5) z0 229 S Q := zW_step (I := .iload 5) rfl S Q
theorem eX4_makeRoom_229 {d : Nat} {S : zS} {Q : zR → Prop} : zW d MX4_makeRoom 229 S Q = zGo d MX4_makeRoom (.iaload) z0 230 S Q := zW_step (I := .iaload) rfl S Q
theorem eX4_makeRoom_230 {d : Nat} {S : zS} {Q : zR → Prop} : zW d MX4_makeRoom 230 S Q = zGo d MX4_makeRoom (.iastore) z0 231 S Q := zW_step (I := .iastore) rfl S Q
theorem eX4_makeRoom_231 {d : Nat} {S : zS} {Q : zR → Prop} : zW d MX4_makeRoom 231 S Q = zGo d MX4_makeRoom (.iinc 4 1) (zv (.int 1)) 234 S Q := zW_step (I := .iinc 4 1) rfl S Q
theorem eX4_makeRoom_234 {d : Nat} {S : zS} {Q : zR → Prop} : zW d MX4_makeRoom 234 S Q = zGo d MX4_makeRoom (.goto (-98)) (zt 136) 237 S Q := zW_step (I := .goto (-98)) rfl S Q
theorem eX4_makeRoom_237 {d : Nat} {S : zS} {Q : zR → Prop} : zW d MX4_makeRoom 237 S Q = zGo d MX4_makeRoom (.iinc 1 1) (zv (.int 1)) 240 S Q := zW_step (I := .iinc 1 1) rfl S Q
theorem eX4_makeRoom_240 {d : Nat} {S : zS} {Q : zR → Prop} : zW d MX4_makeRoom 240 S Q = zGo d MX4_makeRoom (.goto (-125)) (zt 115) 243 S Q := zW_step (I := .goto (-125)) rfl S Q
theorem eX4_makeRoom_243 {d : Nat} {S : zS} {Q : zR → Prop} : zW d MX4_makeRoom 243 S Q = zGo d MX4_makeRoom (.return_) z0 244 S Q := zW_step (I := .return_) rfl S Q
theorem rX4_makeRoom : MX4_makeRoom.2.2.2.2.1 = none := rfl
def a2 (f e : Nat → Nat) (A : Nat → Nat → Nat) : Nat → Nat → Nat := fun i => if i = 0 then f else if i = 1 then e else A i
def mkI (g : Nat) (q : (Nat → Nat) × (Nat → Nat)) : Nat → (Nat → Nat) × (Nat → Nat)
  | 0 => q
  | t + 1 => (z_up (mkI g q t).1 (3 ^ g + t) (if t < 3 ^ g then (mkI g q t).1 t ||| 2 ^ g else (mkI g q t).1 t &&& (127 - 2 ^ g)), z_up (mkI g q t).2 (3 ^ g + t) (if t < 3 ^ g then (mkI g q t).2 t else (mkI g q t).2 t ||| 2 ^ g))
def mkO (q : (Nat → Nat) × (Nat → Nat)) : Nat → (Nat → Nat) × (Nat → Nat)
  | 0 => q
  | g + 1 => mkI g (mkO q g) (2 * 3 ^ g)
theorem a2_0 {f e f' : Nat → Nat} {A : Nat → Nat → Nat} : z_up (a2 f e A) 0 f' = a2 f' e A := by
  funext i
  unfold z_up a2
  by_cases c : i = 0 <;> simp [c]
theorem a2_1 {f e e' : Nat → Nat} {A : Nat → Nat → Nat} : z_up (a2 f e A) 1 e' = a2 f e' A := by
  funext i
  unfold z_up a2
  by_cases c : i = 0
  · simp [c]
  · by_cases c2 : i = 1 <;> simp [c, c2]
theorem mkI_lt {g : Nat} (hg : g < 7) {q : (Nat → Nat) × (Nat → Nat)} (h1 : ∀ s, q.1 s < 128) (h2 : ∀ s, q.2 s < 128) : ∀ t, (∀ s, (mkI g q t).1 s < 128) ∧ (∀ s, (mkI g q t).2 s < 128) := by
  intro t
  induction t with
  | zero => exact ⟨h1, h2⟩
  | succ t ih =>
    refine ⟨z_up_lt2 ih.1 ?_, z_up_lt2 ih.2 ?_⟩
    · split
      · exact q_or_lt (ih.1 t) (q_pow_lt hg)
      · exact q_and_lt (ih.1 t)
    · split
      · exact ih.2 t
      · exact q_or_lt (ih.2 t) (q_pow_lt hg)
theorem mkO_lt {q : (Nat → Nat) × (Nat → Nat)} (h1 : ∀ s, q.1 s < 128) (h2 : ∀ s, q.2 s < 128) : ∀ g, g ≤ 7 → (∀ s, (mkO q g).1 s < 128) ∧ (∀ s, (mkO q g).2 s < 128) := by
  intro g
  induction g with
  | zero => intro _; exact ⟨h1, h2⟩
  | succ g ih =>
    intro hg
    have := ih (by omega)
    exact mkI_lt (by omega) this.1 this.2 _
section ROOM
variable {h h' : Nat → zE} {o k len m n la : Nat} {A : Nat → Nat → Nat} {B : Nat → Nat → Int64} {C : Nat → Nat → Nat} {op : Nat → Int32} {sn : Int32} {tl : Bool} {d : Nat} {u : zU} {Q : zR → Prop}
theorem w_mkI (hk : ordOK o k) {g : Nat} (hg : g < 7) (hlen : 3 * 3 ^ g ≤ len) (hl2 : len < 10000) {q : (Nat → Nat) × (Nat → Nat)} (h1 : ∀ s, q.1 s < 128) (h2 : ∀ s, q.2 s < 128) : ∀ j t x5 x6, 2 * 3 ^ g - t = j → t ≤ 2 * 3 ^ g → ∃ y5 y6, zW d MX4_makeRoom 136 ([.ref o, .int (nI g), .int (nI (3 ^ g)), .int (nI (2 ^ g)), .int (nI (3 ^ g + t)), x5, x6], [], (ordSet h o k len m (a2 (mkI g q t).1 (mkI g q t).2 A) B C op sn tl n la, u)) Q = zW d MX4_makeRoom 237 ([.ref o, .int (nI g), .int (nI (3 ^ g)), .int (nI (2 ^ g)), .int (nI (3 ^ g + 2 * 3 ^ g)), y5, y6], [], (ordSet h o k len m (a2 (mkI g q (2 * 3 ^ g)).1 (mkI g q (2 * 3 ^ g)).2 A) B C op sn tl n la, u)) Q := by
  obtain ⟨k1, k2, k3⟩ := id hk
  have ho0 : o < 1000 := by omega
  have hk0 : k < 1000 := by omega
  have hk1 : k + 1 < 1000 := by omega
  have hP := p3_lt hg
  have g0 : ∀ f e, ordSet h o k len m (a2 f e A) B C op sn tl n la k = zI 0 len (fun x => nI (f x)) := fun f e => ord_A (A := a2 f e A) (i := 0) hk (by decide)
  have g1 : ∀ f e, ordSet h o k len m (a2 f e A) B C op sn tl n la (k + 1) = zI 0 len (fun x => nI (e x)) := fun f e => ord_A (A := a2 f e A) (i := 1) hk (by decide)
  have u0 : ∀ f e f', z_up (ordSet h o k len m (a2 f e A) B C op sn tl n la) k (zI 0 len (fun x => nI (f' x))) = ordSet h o k len m (a2 f' e A) B C op sn tl n la := fun f e f' => by
    have := ord_upA (h := h) (len := len) (m := m) (A := a2 f e A) (B := B) (C := C) (op := op) (sn := sn) (tl := tl) (n := n) (la := la) (i := 0) (f := f') hk (by decide)
    rw [a2_0] at this
    exact this
  have u1 : ∀ f e e', z_up (ordSet h o k len m (a2 f e A) B C op sn tl n la) (k + 1) (zI 0 len (fun x => nI (e' x))) = ordSet h o k len m (a2 f e' A) B C op sn tl n la := fun f e e' => by
    have := ord_upA (h := h) (len := len) (m := m) (A := a2 f e A) (B := B) (C := C) (op := op) (sn := sn) (tl := tl) (n := n) (la := la) (i := 1) (f := e') hk (by decide)
    rw [a2_1] at this
    exact this
  have m3 : (3 : Int32) * nI (3 ^ g) = nI (3 * 3 ^ g) := pk_mul 3 _
  have m2 : (2 : Int32) * nI (3 ^ g) = nI (2 * 3 ^ g) := pk_mul 2 _
  intro j
  induction j with
  | zero =>
    intro t x5 x6 ht hle
    have et : t = 2 * 3 ^ g := by omega
    subst et
    refine ⟨x5, x6, ?_⟩
    have c1 : (nI (3 ^ g + 2 * 3 ^ g) < nI (3 * 3 ^ g)) = False := (nI_ult (by omega) (by omega)).trans (eq_false (by omega))
    rw [eX4_makeRoom_136]
    simp only [eX4_makeRoom_0, eX4_makeRoom_1, eX4_makeRoom_4, eX4_makeRoom_5, eX4_makeRoom_6, eX4_makeRoom_9, eX4_makeRoom_12, eX4_makeRoom_13, eX4_makeRoom_14, eX4_makeRoom_15, eX4_makeRoom_18, eX4_makeRoom_19, eX4_makeRoom_20, eX4_makeRoom_22, eX4_makeRoom_25, eX4_makeRoom_26, eX4_makeRoom_27, eX4_makeRoom_30, eX4_makeRoom_31, eX4_makeRoom_32, eX4_makeRoom_34, eX4_makeRoom_37, eX4_makeRoom_38, eX4_makeRoom_39, eX4_makeRoom_42, eX4_makeRoom_43, eX4_makeRoom_44, eX4_makeRoom_46, eX4_makeRoom_49, eX4_makeRoom_50, eX4_makeRoom_51, eX4_makeRoom_54, eX4_makeRoom_55, eX4_makeRoom_56, eX4_makeRoom_58, eX4_makeRoom_61, eX4_makeRoom_62, eX4_makeRoom_63, eX4_makeRoom_66, eX4_makeRoom_67, eX4_makeRoom_68, eX4_makeRoom_70, eX4_makeRoom_73, eX4_makeRoom_74, eX4_makeRoom_75, eX4_makeRoom_78, eX4_makeRoom_79, eX4_makeRoom_80, eX4_makeRoom_82, eX4_makeRoom_85, eX4_makeRoom_86, eX4_makeRoom_87, eX4_makeRoom_90, eX4_makeRoom_93, eX4_makeRoom_94, eX4_makeRoom_96, eX4_makeRoom_99, eX4_makeRoom_100, eX4_makeRoom_101, eX4_makeRoom_104, eX4_makeRoom_107, eX4_makeRoom_108, eX4_makeRoom_110, eX4_makeRoom_113, eX4_makeRoom_114, eX4_makeRoom_115, eX4_makeRoom_116, eX4_makeRoom_117, eX4_makeRoom_120, eX4_makeRoom_123, eX4_makeRoom_126, eX4_makeRoom_127, eX4_makeRoom_128, eX4_makeRoom_129, eX4_makeRoom_130, eX4_makeRoom_131, eX4_makeRoom_132, eX4_makeRoom_133, eX4_makeRoom_134, eX4_makeRoom_138, eX4_makeRoom_139, eX4_makeRoom_140, eX4_makeRoom_141, eX4_makeRoom_144, eX4_makeRoom_146, eX4_makeRoom_147, eX4_makeRoom_148, eX4_makeRoom_150, eX4_makeRoom_152, eX4_makeRoom_153, eX4_makeRoom_154, eX4_makeRoom_155, eX4_makeRoom_158, eX4_makeRoom_159, eX4_makeRoom_162, eX4_makeRoom_163, eX4_makeRoom_165, eX4_makeRoom_166, eX4_makeRoom_169, eX4_makeRoom_171, eX4_makeRoom_173, eX4_makeRoom_176, eX4_makeRoom_177, eX4_makeRoom_180, eX4_makeRoom_182, eX4_makeRoom_183, eX4_makeRoom_184, eX4_makeRoom_185, eX4_makeRoom_186, eX4_makeRoom_187, eX4_makeRoom_190, eX4_makeRoom_191, eX4_makeRoom_194, eX4_makeRoom_196, eX4_makeRoom_197, eX4_makeRoom_198, eX4_makeRoom_199, eX4_makeRoom_200, eX4_makeRoom_201, eX4_makeRoom_204, eX4_makeRoom_206, eX4_makeRoom_208, eX4_makeRoom_211, eX4_makeRoom_212, eX4_makeRoom_215, eX4_makeRoom_217, eX4_makeRoom_218, eX4_makeRoom_219, eX4_makeRoom_220, eX4_makeRoom_223, eX4_makeRoom_224, eX4_makeRoom_227, eX4_makeRoom_229, eX4_makeRoom_230, eX4_makeRoom_231, eX4_makeRoom_234, eX4_makeRoom_240, eX4_makeRoom_243, rX4_makeRoom, zg_aload, zg_arraylength, zg_getfield, zg_getstatic, zg_goto, zg_iadd, zg_iaload, zg_iand, zg_iastore, zg_icmp, zg_iconst, zg_if, zg_iinc, zg_iload, zg_imul, zg_ior, zg_ishl, zg_istore, zg_isub, zg_ixor, zg_newarray, zg_putfield, zg_return, zg_sipush, q10, q01, q00, ite_self, zLd_i, zLd_l, zLd_a, zInc_i, zGet_o, zGet2_s, zPut_o, zAld_i, zAll_j, zAst_i, zAsl_j, zLen_i, zLen_j, zRt_i, zRt_z, zRl2_l, zRv_n, List.getElem?_cons_zero, List.getElem?_cons_succ, List.length_cons, List.length_nil, z_set, z_set2, z_cut, List.set_cons_zero, List.set_cons_succ, Option.toList_some, Option.toList_none, List.cons_append, List.nil_append, zif, zW_ite, zfit_0, zfit_1, zfit_2, zfit_3, zisc_o, zRt_c, zRt_b, List.map_cons, List.map_nil, List.sum_cons, List.sum_nil, true_and, and_true, if_true, if_false, ite_true, ite_false, Nat.reduceLT, Nat.reduceLeDiff, Nat.reduceAdd, Nat.reduceEqDiff, eq_self, not_true_eq_false, not_false_eq_true, Nat.lt_irrefl, or_true, true_or, or_false, false_or, z_cell_lt, Value.category, m3, c1]
  | succ j ih =>
    intro t x5 x6 ht hle
    have lt := mkI_lt hg h1 h2 t
    have c1 : (nI (3 ^ g + t) < nI (3 * 3 ^ g)) = True := (nI_ult (by omega) (by omega)).trans (eq_true (by omega))
    have c2' : (nI (3 ^ g + t) < nI (2 * 3 ^ g)) = (t < 3 ^ g) := (nI_ult (by omega) (by omega)).trans (propext ⟨fun q => by omega, fun q => by omega⟩)
    have e1 : nI (3 ^ g + t) - nI (3 ^ g) = nI t := by rw [pk_sub (by omega), Nat.add_sub_cancel_left]
    have i1 : vp_in (nI (3 ^ g + t)) len := vp_in_nI (by omega) (by omega)
    have i2 : (nI (3 ^ g + t)).toNatClampNeg = 3 ^ g + t := nI_clamp (by omega)
    have i3 : vp_in (nI t) len := vp_in_nI (by omega) (by omega)
    have i4 : (nI t).toNatClampNeg = t := nI_clamp (by omega)
    have a1 := q_andn _ (lt.1 t) _ (q_pow_lt hg)
    have ih := fun x5 x6 => ih (t + 1) x5 x6 (by omega) (by omega)
    rw [show mkI g q (t + 1) = (z_up (mkI g q t).1 (3 ^ g + t) (if t < 3 ^ g then (mkI g q t).1 t ||| 2 ^ g else (mkI g q t).1 t &&& (127 - 2 ^ g)), z_up (mkI g q t).2 (3 ^ g + t) (if t < 3 ^ g then (mkI g q t).2 t else (mkI g q t).2 t ||| 2 ^ g)) from rfl] at ih
    have e2 : nI (3 ^ g + t) + 1 = nI (3 ^ g + (t + 1)) := nI_1 _
    rw [eX4_makeRoom_136]
    by_cases r1 : t < 3 ^ g
    · rw [if_pos r1, if_pos r1] at ih
      obtain ⟨y5, y6, ih⟩ := ih (.int (nI t)) (.int 0)
      refine ⟨y5, y6, ?_⟩
      simp only [eX4_makeRoom_0, eX4_makeRoom_1, eX4_makeRoom_4, eX4_makeRoom_5, eX4_makeRoom_6, eX4_makeRoom_9, eX4_makeRoom_12, eX4_makeRoom_13, eX4_makeRoom_14, eX4_makeRoom_15, eX4_makeRoom_18, eX4_makeRoom_19, eX4_makeRoom_20, eX4_makeRoom_22, eX4_makeRoom_25, eX4_makeRoom_26, eX4_makeRoom_27, eX4_makeRoom_30, eX4_makeRoom_31, eX4_makeRoom_32, eX4_makeRoom_34, eX4_makeRoom_37, eX4_makeRoom_38, eX4_makeRoom_39, eX4_makeRoom_42, eX4_makeRoom_43, eX4_makeRoom_44, eX4_makeRoom_46, eX4_makeRoom_49, eX4_makeRoom_50, eX4_makeRoom_51, eX4_makeRoom_54, eX4_makeRoom_55, eX4_makeRoom_56, eX4_makeRoom_58, eX4_makeRoom_61, eX4_makeRoom_62, eX4_makeRoom_63, eX4_makeRoom_66, eX4_makeRoom_67, eX4_makeRoom_68, eX4_makeRoom_70, eX4_makeRoom_73, eX4_makeRoom_74, eX4_makeRoom_75, eX4_makeRoom_78, eX4_makeRoom_79, eX4_makeRoom_80, eX4_makeRoom_82, eX4_makeRoom_85, eX4_makeRoom_86, eX4_makeRoom_87, eX4_makeRoom_90, eX4_makeRoom_93, eX4_makeRoom_94, eX4_makeRoom_96, eX4_makeRoom_99, eX4_makeRoom_100, eX4_makeRoom_101, eX4_makeRoom_104, eX4_makeRoom_107, eX4_makeRoom_108, eX4_makeRoom_110, eX4_makeRoom_113, eX4_makeRoom_114, eX4_makeRoom_115, eX4_makeRoom_116, eX4_makeRoom_117, eX4_makeRoom_120, eX4_makeRoom_123, eX4_makeRoom_126, eX4_makeRoom_127, eX4_makeRoom_128, eX4_makeRoom_129, eX4_makeRoom_130, eX4_makeRoom_131, eX4_makeRoom_132, eX4_makeRoom_133, eX4_makeRoom_134, eX4_makeRoom_138, eX4_makeRoom_139, eX4_makeRoom_140, eX4_makeRoom_141, eX4_makeRoom_144, eX4_makeRoom_146, eX4_makeRoom_147, eX4_makeRoom_148, eX4_makeRoom_150, eX4_makeRoom_152, eX4_makeRoom_153, eX4_makeRoom_154, eX4_makeRoom_155, eX4_makeRoom_158, eX4_makeRoom_159, eX4_makeRoom_162, eX4_makeRoom_163, eX4_makeRoom_165, eX4_makeRoom_166, eX4_makeRoom_169, eX4_makeRoom_171, eX4_makeRoom_173, eX4_makeRoom_176, eX4_makeRoom_177, eX4_makeRoom_180, eX4_makeRoom_182, eX4_makeRoom_183, eX4_makeRoom_184, eX4_makeRoom_185, eX4_makeRoom_186, eX4_makeRoom_187, eX4_makeRoom_190, eX4_makeRoom_191, eX4_makeRoom_194, eX4_makeRoom_196, eX4_makeRoom_197, eX4_makeRoom_198, eX4_makeRoom_199, eX4_makeRoom_200, eX4_makeRoom_201, eX4_makeRoom_204, eX4_makeRoom_206, eX4_makeRoom_208, eX4_makeRoom_211, eX4_makeRoom_212, eX4_makeRoom_215, eX4_makeRoom_217, eX4_makeRoom_218, eX4_makeRoom_219, eX4_makeRoom_220, eX4_makeRoom_223, eX4_makeRoom_224, eX4_makeRoom_227, eX4_makeRoom_229, eX4_makeRoom_230, eX4_makeRoom_231, eX4_makeRoom_234, eX4_makeRoom_240, eX4_makeRoom_243, rX4_makeRoom, zg_aload, zg_arraylength, zg_getfield, zg_getstatic, zg_goto, zg_iadd, zg_iaload, zg_iand, zg_iastore, zg_icmp, zg_iconst, zg_if, zg_iinc, zg_iload, zg_imul, zg_ior, zg_ishl, zg_istore, zg_isub, zg_ixor, zg_newarray, zg_putfield, zg_return, zg_sipush, q10, q01, q00, ite_self, zLd_i, zLd_l, zLd_a, zInc_i, zGet_o, zGet2_s, zPut_o, zAld_i, zAll_j, zAst_i, zAsl_j, zLen_i, zLen_j, zRt_i, zRt_z, zRl2_l, zRv_n, List.getElem?_cons_zero, List.getElem?_cons_succ, List.length_cons, List.length_nil, z_set, z_set2, z_cut, List.set_cons_zero, List.set_cons_succ, Option.toList_some, Option.toList_none, List.cons_append, List.nil_append, zif, zW_ite, zfit_0, zfit_1, zfit_2, zfit_3, zisc_o, zRt_c, zRt_b, List.map_cons, List.map_nil, List.sum_cons, List.sum_nil, true_and, and_true, if_true, if_false, ite_true, ite_false, Nat.reduceLT, Nat.reduceLeDiff, Nat.reduceAdd, Nat.reduceEqDiff, eq_self, not_true_eq_false, not_false_eq_true, Nat.lt_irrefl, or_true, true_or, or_false, false_or, z_cell_lt, Value.category, m3, m2, c1, c2', e1, i1, i2, i3, i4, r1, ord_0, g0, g1, ho0, hk0, hk1, q_or, q_upd, u0, u1, e2]
      exact ih
    · rw [if_neg r1, if_neg r1] at ih
      obtain ⟨y5, y6, ih⟩ := ih (.int (nI t)) (.int 1)
      refine ⟨y5, y6, ?_⟩
      simp only [eX4_makeRoom_0, eX4_makeRoom_1, eX4_makeRoom_4, eX4_makeRoom_5, eX4_makeRoom_6, eX4_makeRoom_9, eX4_makeRoom_12, eX4_makeRoom_13, eX4_makeRoom_14, eX4_makeRoom_15, eX4_makeRoom_18, eX4_makeRoom_19, eX4_makeRoom_20, eX4_makeRoom_22, eX4_makeRoom_25, eX4_makeRoom_26, eX4_makeRoom_27, eX4_makeRoom_30, eX4_makeRoom_31, eX4_makeRoom_32, eX4_makeRoom_34, eX4_makeRoom_37, eX4_makeRoom_38, eX4_makeRoom_39, eX4_makeRoom_42, eX4_makeRoom_43, eX4_makeRoom_44, eX4_makeRoom_46, eX4_makeRoom_49, eX4_makeRoom_50, eX4_makeRoom_51, eX4_makeRoom_54, eX4_makeRoom_55, eX4_makeRoom_56, eX4_makeRoom_58, eX4_makeRoom_61, eX4_makeRoom_62, eX4_makeRoom_63, eX4_makeRoom_66, eX4_makeRoom_67, eX4_makeRoom_68, eX4_makeRoom_70, eX4_makeRoom_73, eX4_makeRoom_74, eX4_makeRoom_75, eX4_makeRoom_78, eX4_makeRoom_79, eX4_makeRoom_80, eX4_makeRoom_82, eX4_makeRoom_85, eX4_makeRoom_86, eX4_makeRoom_87, eX4_makeRoom_90, eX4_makeRoom_93, eX4_makeRoom_94, eX4_makeRoom_96, eX4_makeRoom_99, eX4_makeRoom_100, eX4_makeRoom_101, eX4_makeRoom_104, eX4_makeRoom_107, eX4_makeRoom_108, eX4_makeRoom_110, eX4_makeRoom_113, eX4_makeRoom_114, eX4_makeRoom_115, eX4_makeRoom_116, eX4_makeRoom_117, eX4_makeRoom_120, eX4_makeRoom_123, eX4_makeRoom_126, eX4_makeRoom_127, eX4_makeRoom_128, eX4_makeRoom_129, eX4_makeRoom_130, eX4_makeRoom_131, eX4_makeRoom_132, eX4_makeRoom_133, eX4_makeRoom_134, eX4_makeRoom_138, eX4_makeRoom_139, eX4_makeRoom_140, eX4_makeRoom_141, eX4_makeRoom_144, eX4_makeRoom_146, eX4_makeRoom_147, eX4_makeRoom_148, eX4_makeRoom_150, eX4_makeRoom_152, eX4_makeRoom_153, eX4_makeRoom_154, eX4_makeRoom_155, eX4_makeRoom_158, eX4_makeRoom_159, eX4_makeRoom_162, eX4_makeRoom_163, eX4_makeRoom_165, eX4_makeRoom_166, eX4_makeRoom_169, eX4_makeRoom_171, eX4_makeRoom_173, eX4_makeRoom_176, eX4_makeRoom_177, eX4_makeRoom_180, eX4_makeRoom_182, eX4_makeRoom_183, eX4_makeRoom_184, eX4_makeRoom_185, eX4_makeRoom_186, eX4_makeRoom_187, eX4_makeRoom_190, eX4_makeRoom_191, eX4_makeRoom_194, eX4_makeRoom_196, eX4_makeRoom_197, eX4_makeRoom_198, eX4_makeRoom_199, eX4_makeRoom_200, eX4_makeRoom_201, eX4_makeRoom_204, eX4_makeRoom_206, eX4_makeRoom_208, eX4_makeRoom_211, eX4_makeRoom_212, eX4_makeRoom_215, eX4_makeRoom_217, eX4_makeRoom_218, eX4_makeRoom_219, eX4_makeRoom_220, eX4_makeRoom_223, eX4_makeRoom_224, eX4_makeRoom_227, eX4_makeRoom_229, eX4_makeRoom_230, eX4_makeRoom_231, eX4_makeRoom_234, eX4_makeRoom_240, eX4_makeRoom_243, rX4_makeRoom, zg_aload, zg_arraylength, zg_getfield, zg_getstatic, zg_goto, zg_iadd, zg_iaload, zg_iand, zg_iastore, zg_icmp, zg_iconst, zg_if, zg_iinc, zg_iload, zg_imul, zg_ior, zg_ishl, zg_istore, zg_isub, zg_ixor, zg_newarray, zg_putfield, zg_return, zg_sipush, q10, q01, q00, ite_self, zLd_i, zLd_l, zLd_a, zInc_i, zGet_o, zGet2_s, zPut_o, zAld_i, zAll_j, zAst_i, zAsl_j, zLen_i, zLen_j, zRt_i, zRt_z, zRl2_l, zRv_n, List.getElem?_cons_zero, List.getElem?_cons_succ, List.length_cons, List.length_nil, z_set, z_set2, z_cut, List.set_cons_zero, List.set_cons_succ, Option.toList_some, Option.toList_none, List.cons_append, List.nil_append, zif, zW_ite, zfit_0, zfit_1, zfit_2, zfit_3, zisc_o, zRt_c, zRt_b, List.map_cons, List.map_nil, List.sum_cons, List.sum_nil, true_and, and_true, if_true, if_false, ite_true, ite_false, Nat.reduceLT, Nat.reduceLeDiff, Nat.reduceAdd, Nat.reduceEqDiff, eq_self, not_true_eq_false, not_false_eq_true, Nat.lt_irrefl, or_true, true_or, or_false, false_or, z_cell_lt, Value.category, m3, m2, c1, c2', e1, i1, i2, i3, i4, r1, ord_0, g0, g1, ho0, hk0, hk1, a1, q_or, q_upd, u0, u1, e2]
      exact ih
theorem w_mkO (hk : ordOK o k) (hn : n ≤ 7) (hlen : 3 ^ n ≤ len) (hl2 : len < 10000) {q : (Nat → Nat) × (Nat → Nat)} (h1 : ∀ s, q.1 s < 128) (h2 : ∀ s, q.2 s < 128) : ∀ j g x2 x3 x4 x5 x6, n - g = j → g ≤ n → zW d MX4_makeRoom 115 ([.ref o, .int (nI g), x2, x3, x4, x5, x6], [], (ordSet h o k len m (a2 (mkO q g).1 (mkO q g).2 A) B C op sn tl n la, u)) Q = Q (none, (ordSet h o k len m (a2 (mkO q n).1 (mkO q n).2 A) B C op sn tl n la, u)) := by
  obtain ⟨k1, k2, k3⟩ := id hk
  have ho0 : o < 1000 := by omega
  intro j
  induction j with
  | zero =>
    intro g x2 x3 x4 x5 x6 hg hle
    have e : g = n := by omega
    subst e
    rw [eX4_makeRoom_115]
    simp only [eX4_makeRoom_0, eX4_makeRoom_1, eX4_makeRoom_4, eX4_makeRoom_5, eX4_makeRoom_6, eX4_makeRoom_9, eX4_makeRoom_12, eX4_makeRoom_13, eX4_makeRoom_14, eX4_makeRoom_15, eX4_makeRoom_18, eX4_makeRoom_19, eX4_makeRoom_20, eX4_makeRoom_22, eX4_makeRoom_25, eX4_makeRoom_26, eX4_makeRoom_27, eX4_makeRoom_30, eX4_makeRoom_31, eX4_makeRoom_32, eX4_makeRoom_34, eX4_makeRoom_37, eX4_makeRoom_38, eX4_makeRoom_39, eX4_makeRoom_42, eX4_makeRoom_43, eX4_makeRoom_44, eX4_makeRoom_46, eX4_makeRoom_49, eX4_makeRoom_50, eX4_makeRoom_51, eX4_makeRoom_54, eX4_makeRoom_55, eX4_makeRoom_56, eX4_makeRoom_58, eX4_makeRoom_61, eX4_makeRoom_62, eX4_makeRoom_63, eX4_makeRoom_66, eX4_makeRoom_67, eX4_makeRoom_68, eX4_makeRoom_70, eX4_makeRoom_73, eX4_makeRoom_74, eX4_makeRoom_75, eX4_makeRoom_78, eX4_makeRoom_79, eX4_makeRoom_80, eX4_makeRoom_82, eX4_makeRoom_85, eX4_makeRoom_86, eX4_makeRoom_87, eX4_makeRoom_90, eX4_makeRoom_93, eX4_makeRoom_94, eX4_makeRoom_96, eX4_makeRoom_99, eX4_makeRoom_100, eX4_makeRoom_101, eX4_makeRoom_104, eX4_makeRoom_107, eX4_makeRoom_108, eX4_makeRoom_110, eX4_makeRoom_113, eX4_makeRoom_114, eX4_makeRoom_116, eX4_makeRoom_117, eX4_makeRoom_120, eX4_makeRoom_123, eX4_makeRoom_126, eX4_makeRoom_127, eX4_makeRoom_128, eX4_makeRoom_129, eX4_makeRoom_130, eX4_makeRoom_131, eX4_makeRoom_132, eX4_makeRoom_133, eX4_makeRoom_134, eX4_makeRoom_138, eX4_makeRoom_139, eX4_makeRoom_140, eX4_makeRoom_141, eX4_makeRoom_144, eX4_makeRoom_146, eX4_makeRoom_147, eX4_makeRoom_148, eX4_makeRoom_150, eX4_makeRoom_152, eX4_makeRoom_153, eX4_makeRoom_154, eX4_makeRoom_155, eX4_makeRoom_158, eX4_makeRoom_159, eX4_makeRoom_162, eX4_makeRoom_163, eX4_makeRoom_165, eX4_makeRoom_166, eX4_makeRoom_169, eX4_makeRoom_171, eX4_makeRoom_173, eX4_makeRoom_176, eX4_makeRoom_177, eX4_makeRoom_180, eX4_makeRoom_182, eX4_makeRoom_183, eX4_makeRoom_184, eX4_makeRoom_185, eX4_makeRoom_186, eX4_makeRoom_187, eX4_makeRoom_190, eX4_makeRoom_191, eX4_makeRoom_194, eX4_makeRoom_196, eX4_makeRoom_197, eX4_makeRoom_198, eX4_makeRoom_199, eX4_makeRoom_200, eX4_makeRoom_201, eX4_makeRoom_204, eX4_makeRoom_206, eX4_makeRoom_208, eX4_makeRoom_211, eX4_makeRoom_212, eX4_makeRoom_215, eX4_makeRoom_217, eX4_makeRoom_218, eX4_makeRoom_219, eX4_makeRoom_220, eX4_makeRoom_223, eX4_makeRoom_224, eX4_makeRoom_227, eX4_makeRoom_229, eX4_makeRoom_230, eX4_makeRoom_231, eX4_makeRoom_234, eX4_makeRoom_240, eX4_makeRoom_243, rX4_makeRoom, zg_aload, zg_arraylength, zg_getfield, zg_getstatic, zg_goto, zg_iadd, zg_iaload, zg_iand, zg_iastore, zg_icmp, zg_iconst, zg_if, zg_iinc, zg_iload, zg_imul, zg_ior, zg_ishl, zg_istore, zg_isub, zg_ixor, zg_newarray, zg_putfield, zg_return, zg_sipush, q10, q01, q00, ite_self, zLd_i, zLd_l, zLd_a, zInc_i, zGet_o, zGet2_s, zPut_o, zAld_i, zAll_j, zAst_i, zAsl_j, zLen_i, zLen_j, zRt_i, zRt_z, zRl2_l, zRv_n, List.getElem?_cons_zero, List.getElem?_cons_succ, List.length_cons, List.length_nil, z_set, z_set2, z_cut, List.set_cons_zero, List.set_cons_succ, Option.toList_some, Option.toList_none, List.cons_append, List.nil_append, zif, zW_ite, zfit_0, zfit_1, zfit_2, zfit_3, zisc_o, zRt_c, zRt_b, List.map_cons, List.map_nil, List.sum_cons, List.sum_nil, true_and, and_true, if_true, if_false, ite_true, ite_false, Nat.reduceLT, Nat.reduceLeDiff, Nat.reduceAdd, Nat.reduceEqDiff, eq_self, not_true_eq_false, not_false_eq_true, Nat.lt_irrefl, or_true, true_or, or_false, false_or, z_cell_lt, Value.category, ord_0, ho0, Int32.lt_irrefl]
  | succ j ih =>
    intro g x2 x3 x4 x5 x6 hg hle
    have hg7 : g < 7 := by omega
    have c1 : nI g < nI n := nI_lt (show g < n by omega) (by omega)
    have i1 : vp_in (nI g) 8 := vp_in_nI (show g < 8 by omega) (by decide)
    have lt := mkO_lt h1 h2 g (by omega)
    have hl : 3 * 3 ^ g ≤ len := by
      have : 3 ^ (g + 1) ≤ 3 ^ n := Nat.pow_le_pow_right (by decide) (by omega)
      rw [Nat.pow_succ] at this
      omega
    obtain ⟨y5, y6, e⟩ := w_mkI (d := d) (h := h) (m := m) (A := A) (B := B) (C := C) (op := op) (sn := sn) (tl := tl) (n := n) (la := la) (u := u) (Q := Q) hk hg7 hl hl2 lt.1 lt.2 (2 * 3 ^ g) 0 x5 x6 (by omega) (by omega)
    have ih := ih (g + 1) (.int (nI (3 ^ g))) (.int (nI (2 ^ g))) (.int (nI (3 ^ g + 2 * 3 ^ g))) y5 y6 (by omega) (by omega)
    rw [eX4_makeRoom_115]
    simp only [eX4_makeRoom_0, eX4_makeRoom_1, eX4_makeRoom_4, eX4_makeRoom_5, eX4_makeRoom_6, eX4_makeRoom_9, eX4_makeRoom_12, eX4_makeRoom_13, eX4_makeRoom_14, eX4_makeRoom_15, eX4_makeRoom_18, eX4_makeRoom_19, eX4_makeRoom_20, eX4_makeRoom_22, eX4_makeRoom_25, eX4_makeRoom_26, eX4_makeRoom_27, eX4_makeRoom_30, eX4_makeRoom_31, eX4_makeRoom_32, eX4_makeRoom_34, eX4_makeRoom_37, eX4_makeRoom_38, eX4_makeRoom_39, eX4_makeRoom_42, eX4_makeRoom_43, eX4_makeRoom_44, eX4_makeRoom_46, eX4_makeRoom_49, eX4_makeRoom_50, eX4_makeRoom_51, eX4_makeRoom_54, eX4_makeRoom_55, eX4_makeRoom_56, eX4_makeRoom_58, eX4_makeRoom_61, eX4_makeRoom_62, eX4_makeRoom_63, eX4_makeRoom_66, eX4_makeRoom_67, eX4_makeRoom_68, eX4_makeRoom_70, eX4_makeRoom_73, eX4_makeRoom_74, eX4_makeRoom_75, eX4_makeRoom_78, eX4_makeRoom_79, eX4_makeRoom_80, eX4_makeRoom_82, eX4_makeRoom_85, eX4_makeRoom_86, eX4_makeRoom_87, eX4_makeRoom_90, eX4_makeRoom_93, eX4_makeRoom_94, eX4_makeRoom_96, eX4_makeRoom_99, eX4_makeRoom_100, eX4_makeRoom_101, eX4_makeRoom_104, eX4_makeRoom_107, eX4_makeRoom_108, eX4_makeRoom_110, eX4_makeRoom_113, eX4_makeRoom_114, eX4_makeRoom_116, eX4_makeRoom_117, eX4_makeRoom_120, eX4_makeRoom_123, eX4_makeRoom_126, eX4_makeRoom_127, eX4_makeRoom_128, eX4_makeRoom_129, eX4_makeRoom_130, eX4_makeRoom_131, eX4_makeRoom_132, eX4_makeRoom_133, eX4_makeRoom_134, eX4_makeRoom_138, eX4_makeRoom_139, eX4_makeRoom_140, eX4_makeRoom_141, eX4_makeRoom_144, eX4_makeRoom_146, eX4_makeRoom_147, eX4_makeRoom_148, eX4_makeRoom_150, eX4_makeRoom_152, eX4_makeRoom_153, eX4_makeRoom_154, eX4_makeRoom_155, eX4_makeRoom_158, eX4_makeRoom_159, eX4_makeRoom_162, eX4_makeRoom_163, eX4_makeRoom_165, eX4_makeRoom_166, eX4_makeRoom_169, eX4_makeRoom_171, eX4_makeRoom_173, eX4_makeRoom_176, eX4_makeRoom_177, eX4_makeRoom_180, eX4_makeRoom_182, eX4_makeRoom_183, eX4_makeRoom_184, eX4_makeRoom_185, eX4_makeRoom_186, eX4_makeRoom_187, eX4_makeRoom_190, eX4_makeRoom_191, eX4_makeRoom_194, eX4_makeRoom_196, eX4_makeRoom_197, eX4_makeRoom_198, eX4_makeRoom_199, eX4_makeRoom_200, eX4_makeRoom_201, eX4_makeRoom_204, eX4_makeRoom_206, eX4_makeRoom_208, eX4_makeRoom_211, eX4_makeRoom_212, eX4_makeRoom_215, eX4_makeRoom_217, eX4_makeRoom_218, eX4_makeRoom_219, eX4_makeRoom_220, eX4_makeRoom_223, eX4_makeRoom_224, eX4_makeRoom_227, eX4_makeRoom_229, eX4_makeRoom_230, eX4_makeRoom_231, eX4_makeRoom_234, eX4_makeRoom_240, eX4_makeRoom_243, rX4_makeRoom, zg_aload, zg_arraylength, zg_getfield, zg_getstatic, zg_goto, zg_iadd, zg_iaload, zg_iand, zg_iastore, zg_icmp, zg_iconst, zg_if, zg_iinc, zg_iload, zg_imul, zg_ior, zg_ishl, zg_istore, zg_isub, zg_ixor, zg_newarray, zg_putfield, zg_return, zg_sipush, q10, q01, q00, ite_self, zLd_i, zLd_l, zLd_a, zInc_i, zGet_o, zGet2_s, zPut_o, zAld_i, zAll_j, zAst_i, zAsl_j, zLen_i, zLen_j, zRt_i, zRt_z, zRl2_l, zRv_n, List.getElem?_cons_zero, List.getElem?_cons_succ, List.length_cons, List.length_nil, z_set, z_set2, z_cut, List.set_cons_zero, List.set_cons_succ, Option.toList_some, Option.toList_none, List.cons_append, List.nil_append, zif, zW_ite, zfit_0, zfit_1, zfit_2, zfit_3, zisc_o, zRt_c, zRt_b, List.map_cons, List.map_nil, List.sum_cons, List.sum_nil, true_and, and_true, if_true, if_false, ite_true, ite_false, Nat.reduceLT, Nat.reduceLeDiff, Nat.reduceAdd, Nat.reduceEqDiff, eq_self, not_true_eq_false, not_false_eq_true, Nat.lt_irrefl, or_true, true_or, or_false, false_or, z_cell_lt, Value.category, ord_0, ho0, c1, pow_cell, i1, nI_c hg7, z_pw_eq g (by omega), q_shl g (by omega)]
    refine e.trans ?_
    simp only [eX4_makeRoom_0, eX4_makeRoom_1, eX4_makeRoom_4, eX4_makeRoom_5, eX4_makeRoom_6, eX4_makeRoom_9, eX4_makeRoom_12, eX4_makeRoom_13, eX4_makeRoom_14, eX4_makeRoom_15, eX4_makeRoom_18, eX4_makeRoom_19, eX4_makeRoom_20, eX4_makeRoom_22, eX4_makeRoom_25, eX4_makeRoom_26, eX4_makeRoom_27, eX4_makeRoom_30, eX4_makeRoom_31, eX4_makeRoom_32, eX4_makeRoom_34, eX4_makeRoom_37, eX4_makeRoom_38, eX4_makeRoom_39, eX4_makeRoom_42, eX4_makeRoom_43, eX4_makeRoom_44, eX4_makeRoom_46, eX4_makeRoom_49, eX4_makeRoom_50, eX4_makeRoom_51, eX4_makeRoom_54, eX4_makeRoom_55, eX4_makeRoom_56, eX4_makeRoom_58, eX4_makeRoom_61, eX4_makeRoom_62, eX4_makeRoom_63, eX4_makeRoom_66, eX4_makeRoom_67, eX4_makeRoom_68, eX4_makeRoom_70, eX4_makeRoom_73, eX4_makeRoom_74, eX4_makeRoom_75, eX4_makeRoom_78, eX4_makeRoom_79, eX4_makeRoom_80, eX4_makeRoom_82, eX4_makeRoom_85, eX4_makeRoom_86, eX4_makeRoom_87, eX4_makeRoom_90, eX4_makeRoom_93, eX4_makeRoom_94, eX4_makeRoom_96, eX4_makeRoom_99, eX4_makeRoom_100, eX4_makeRoom_101, eX4_makeRoom_104, eX4_makeRoom_107, eX4_makeRoom_108, eX4_makeRoom_110, eX4_makeRoom_113, eX4_makeRoom_114, eX4_makeRoom_116, eX4_makeRoom_117, eX4_makeRoom_120, eX4_makeRoom_123, eX4_makeRoom_126, eX4_makeRoom_127, eX4_makeRoom_128, eX4_makeRoom_129, eX4_makeRoom_130, eX4_makeRoom_131, eX4_makeRoom_132, eX4_makeRoom_133, eX4_makeRoom_134, eX4_makeRoom_138, eX4_makeRoom_139, eX4_makeRoom_140, eX4_makeRoom_141, eX4_makeRoom_144, eX4_makeRoom_146, eX4_makeRoom_147, eX4_makeRoom_148, eX4_makeRoom_150, eX4_makeRoom_152, eX4_makeRoom_153, eX4_makeRoom_154, eX4_makeRoom_155, eX4_makeRoom_158, eX4_makeRoom_159, eX4_makeRoom_162, eX4_makeRoom_163, eX4_makeRoom_165, eX4_makeRoom_166, eX4_makeRoom_169, eX4_makeRoom_171, eX4_makeRoom_173, eX4_makeRoom_176, eX4_makeRoom_177, eX4_makeRoom_180, eX4_makeRoom_182, eX4_makeRoom_183, eX4_makeRoom_184, eX4_makeRoom_185, eX4_makeRoom_186, eX4_makeRoom_187, eX4_makeRoom_190, eX4_makeRoom_191, eX4_makeRoom_194, eX4_makeRoom_196, eX4_makeRoom_197, eX4_makeRoom_198, eX4_makeRoom_199, eX4_makeRoom_200, eX4_makeRoom_201, eX4_makeRoom_204, eX4_makeRoom_206, eX4_makeRoom_208, eX4_makeRoom_211, eX4_makeRoom_212, eX4_makeRoom_215, eX4_makeRoom_217, eX4_makeRoom_218, eX4_makeRoom_219, eX4_makeRoom_220, eX4_makeRoom_223, eX4_makeRoom_224, eX4_makeRoom_227, eX4_makeRoom_229, eX4_makeRoom_230, eX4_makeRoom_231, eX4_makeRoom_234, eX4_makeRoom_237, eX4_makeRoom_240, eX4_makeRoom_243, rX4_makeRoom, zg_aload, zg_arraylength, zg_getfield, zg_getstatic, zg_goto, zg_iadd, zg_iaload, zg_iand, zg_iastore, zg_icmp, zg_iconst, zg_if, zg_iinc, zg_iload, zg_imul, zg_ior, zg_ishl, zg_istore, zg_isub, zg_ixor, zg_newarray, zg_putfield, zg_return, zg_sipush, q10, q01, q00, ite_self, zLd_i, zLd_l, zLd_a, zInc_i, zGet_o, zGet2_s, zPut_o, zAld_i, zAll_j, zAst_i, zAsl_j, zLen_i, zLen_j, zRt_i, zRt_z, zRl2_l, zRv_n, List.getElem?_cons_zero, List.getElem?_cons_succ, List.length_cons, List.length_nil, z_set, z_set2, z_cut, List.set_cons_zero, List.set_cons_succ, Option.toList_some, Option.toList_none, List.cons_append, List.nil_append, zif, zW_ite, zfit_0, zfit_1, zfit_2, zfit_3, zisc_o, zRt_c, zRt_b, List.map_cons, List.map_nil, List.sum_cons, List.sum_nil, true_and, and_true, if_true, if_false, ite_true, ite_false, Nat.reduceLT, Nat.reduceLeDiff, Nat.reduceAdd, Nat.reduceEqDiff, eq_self, not_true_eq_false, not_false_eq_true, Nat.lt_irrefl, or_true, true_or, or_false, false_or, z_cell_lt, Value.category, nI_1]
    exact ih
end ROOM

