/-! the model: what an event is worth by the rule -/
theorem eX11_worked_0 {d : Nat} {S : zS} {Q : zR → Prop} : zW d MX11_worked 0 S Q = zGo d MX11_worked (.iload 0) z0 1 S Q := zW_step (I := .iload_n 0) rfl S Q
theorem eX11_worked_1 {d : Nat} {S : zS} {Q : zR → Prop} : zW d MX11_worked 1 S Q = zGo d MX11_worked (.tableswitch 93 0 5 #[39, 53, 67, 81, 85, 89]) (94, 0, 0, .null, [(0, 40), (1, 54), (2, 68), (3, 82), (4, 86), (5, 90)]) 40 S Q := zW_step (I := .tableswitch 93 0 5 #[39, 53, 67, 81, 85, 89]) rfl S Q
theorem eX11_worked_40 {d : Nat} {S : zS} {Q : zR → Prop} : zW d MX11_worked 40 S Q = zGo d MX11_worked (.iload 1) z0 41 S Q := zW_step (I := .iload_n 1) rfl S Q
theorem eX11_worked_41 {d : Nat} {S : zS} {Q : zR → Prop} : zW d MX11_worked 41 S Q = zGo d MX11_worked (.iload 2) z0 42 S Q := zW_step (I := .iload_n 2) rfl S Q
theorem eX11_worked_42 {d : Nat} {S : zS} {Q : zR → Prop} : zW d MX11_worked 42 S Q = zGo d MX11_worked (.if_icmp .ge 7) (zt 49) 45 S Q := zW_step (I := .if_icmp .ge 7) rfl S Q
theorem eX11_worked_45 {d : Nat} {S : zS} {Q : zR → Prop} : zW d MX11_worked 45 S Q = zGo d MX11_worked (.iconst 1) (zv (.int 1)) 46 S Q := zW_step (I := .iconst 1) rfl S Q
theorem eX11_worked_46 {d : Nat} {S : zS} {Q : zR → Prop} : zW d MX11_worked 46 S Q = zGo d MX11_worked (.goto 4) (zt 50) 49 S Q := zW_step (I := .goto 4) rfl S Q
theorem eX11_worked_49 {d : Nat} {S : zS} {Q : zR → Prop} : zW d MX11_worked 49 S Q = zGo d MX11_worked (.iconst 0) (zv (.int 0)) 50 S Q := zW_step (I := .iconst 0) rfl S Q
theorem eX11_worked_50 {d : Nat} {S : zS} {Q : zR → Prop} : zW d MX11_worked 50 S Q = zGo d MX11_worked (.invokestatic 69) (zc 184 1 0) 53 S Q := zW_step (I := .invokestatic 69) rfl S Q
theorem eX11_worked_53 {d : Nat} {S : zS} {Q : zR → Prop} : zW d MX11_worked 53 S Q = zGo d MX11_worked (.ireturn) z0 54 S Q := zW_step (I := .ireturn) rfl S Q
theorem eX11_worked_54 {d : Nat} {S : zS} {Q : zR → Prop} : zW d MX11_worked 54 S Q = zGo d MX11_worked (.iload 1) z0 55 S Q := zW_step (I := .iload_n 1) rfl S Q
theorem eX11_worked_55 {d : Nat} {S : zS} {Q : zR → Prop} : zW d MX11_worked 55 S Q = zGo d MX11_worked (.iload 2) z0 56 S Q := zW_step (I := .iload_n 2) rfl S Q
theorem eX11_worked_56 {d : Nat} {S : zS} {Q : zR → Prop} : zW d MX11_worked 56 S Q = zGo d MX11_worked (.if_icmp .le 7) (zt 63) 59 S Q := zW_step (I := .if_icmp .le 7) rfl S Q
theorem eX11_worked_59 {d : Nat} {S : zS} {Q : zR → Prop} : zW d MX11_worked 59 S Q = zGo d MX11_worked (.iconst 1) (zv (.int 1)) 60 S Q := zW_step (I := .iconst 1) rfl S Q
theorem eX11_worked_60 {d : Nat} {S : zS} {Q : zR → Prop} : zW d MX11_worked 60 S Q = zGo d MX11_worked (.goto 4) (zt 64) 63 S Q := zW_step (I := .goto 4) rfl S Q
theorem eX11_worked_63 {d : Nat} {S : zS} {Q : zR → Prop} : zW d MX11_worked 63 S Q = zGo d MX11_worked (.iconst 0) (zv (.int 0)) 64 S Q := zW_step (I := .iconst 0) rfl S Q
theorem eX11_worked_64 {d : Nat} {S : zS} {Q : zR → Prop} : zW d MX11_worked 64 S Q = zGo d MX11_worked (.invokestatic 69) (zc 184 1 0) 67 S Q := zW_step (I := .invokestatic 69) rfl S Q
theorem eX11_worked_67 {d : Nat} {S : zS} {Q : zR → Prop} : zW d MX11_worked 67 S Q = zGo d MX11_worked (.ireturn) z0 68 S Q := zW_step (I := .ireturn) rfl S Q
theorem eX11_worked_68 {d : Nat} {S : zS} {Q : zR → Prop} : zW d MX11_worked 68 S Q = zGo d MX11_worked (.iload 1) z0 69 S Q := zW_step (I := .iload_n 1) rfl S Q
theorem eX11_worked_69 {d : Nat} {S : zS} {Q : zR → Prop} : zW d MX11_worked 69 S Q = zGo d MX11_worked (.iload 2) z0 70 S Q := zW_step (I := .iload_n 2) rfl S Q
theorem eX11_worked_70 {d : Nat} {S : zS} {Q : zR → Prop} : zW d MX11_worked 70 S Q = zGo d MX11_worked (.if_icmp .ne 7) (zt 77) 73 S Q := zW_step (I := .if_icmp .ne 7) rfl S Q
theorem eX11_worked_73 {d : Nat} {S : zS} {Q : zR → Prop} : zW d MX11_worked 73 S Q = zGo d MX11_worked (.iconst 1) (zv (.int 1)) 74 S Q := zW_step (I := .iconst 1) rfl S Q
theorem eX11_worked_74 {d : Nat} {S : zS} {Q : zR → Prop} : zW d MX11_worked 74 S Q = zGo d MX11_worked (.goto 4) (zt 78) 77 S Q := zW_step (I := .goto 4) rfl S Q
theorem eX11_worked_77 {d : Nat} {S : zS} {Q : zR → Prop} : zW d MX11_worked 77 S Q = zGo d MX11_worked (.iconst 0) (zv (.int 0)) 78 S Q := zW_step (I := .iconst 0) rfl S Q
theorem eX11_worked_78 {d : Nat} {S : zS} {Q : zR → Prop} : zW d MX11_worked 78 S Q = zGo d MX11_worked (.invokestatic 69) (zc 184 1 0) 81 S Q := zW_step (I := .invokestatic 69) rfl S Q
theorem eX11_worked_81 {d : Nat} {S : zS} {Q : zR → Prop} : zW d MX11_worked 81 S Q = zGo d MX11_worked (.ireturn) z0 82 S Q := zW_step (I := .ireturn) rfl S Q
theorem eX11_worked_82 {d : Nat} {S : zS} {Q : zR → Prop} : zW d MX11_worked 82 S Q = zGo d MX11_worked (.iload 1) z0 83 S Q := zW_step (I := .iload_n 1) rfl S Q
theorem eX11_worked_83 {d : Nat} {S : zS} {Q : zR → Prop} : zW d MX11_worked 83 S Q = zGo d MX11_worked (.iload 2) z0 84 S Q := zW_step (I := .iload_n 2) rfl S Q
theorem eX11_worked_84 {d : Nat} {S : zS} {Q : zR → Prop} : zW d MX11_worked 84 S Q = zGo d MX11_worked (.iadd) z0 85 S Q := zW_step (I := .iadd) rfl S Q
theorem eX11_worked_85 {d : Nat} {S : zS} {Q : zR → Prop} : zW d MX11_worked 85 S Q = zGo d MX11_worked (.ireturn) z0 86 S Q := zW_step (I := .ireturn) rfl S Q
theorem eX11_worked_86 {d : Nat} {S : zS} {Q : zR → Prop} : zW d MX11_worked 86 S Q = zGo d MX11_worked (.iload 1) z0 87 S Q := zW_step (I := .iload_n 1) rfl S Q
theorem eX11_worked_87 {d : Nat} {S : zS} {Q : zR → Prop} : zW d MX11_worked 87 S Q = zGo d MX11_worked (.iload 2) z0 88 S Q := zW_step (I := .iload_n 2) rfl S Q
theorem eX11_worked_88 {d : Nat} {S : zS} {Q : zR → Prop} : zW d MX11_worked 88 S Q = zGo d MX11_worked (.isub) z0 89 S Q := zW_step (I := .isub) rfl S Q
theorem eX11_worked_89 {d : Nat} {S : zS} {Q : zR → Prop} : zW d MX11_worked 89 S Q = zGo d MX11_worked (.ireturn) z0 90 S Q := zW_step (I := .ireturn) rfl S Q
theorem eX11_worked_90 {d : Nat} {S : zS} {Q : zR → Prop} : zW d MX11_worked 90 S Q = zGo d MX11_worked (.iload 1) z0 91 S Q := zW_step (I := .iload_n 1) rfl S Q
theorem eX11_worked_91 {d : Nat} {S : zS} {Q : zR → Prop} : zW d MX11_worked 91 S Q = zGo d MX11_worked (.iload 2) z0 92 S Q := zW_step (I := .iload_n 2) rfl S Q
theorem eX11_worked_92 {d : Nat} {S : zS} {Q : zR → Prop} : zW d MX11_worked 92 S Q = zGo d MX11_worked (.imul) z0 93 S Q := zW_step (I := .imul) rfl S Q
theorem eX11_worked_93 {d : Nat} {S : zS} {Q : zR → Prop} : zW d MX11_worked 93 S Q = zGo d MX11_worked (.ireturn) z0 94 S Q := zW_step (I := .ireturn) rfl S Q
theorem eX11_worked_94 {d : Nat} {S : zS} {Q : zR → Prop} : zW d MX11_worked 94 S Q = zGo d MX11_worked (.iload 2) z0 95 S Q := zW_step (I := .iload_n 2) rfl S Q
theorem eX11_worked_95 {d : Nat} {S : zS} {Q : zR → Prop} : zW d MX11_worked 95 S Q = zGo d MX11_worked (.ifCond .ne 7) (zt 102) 98 S Q := zW_step (I := .ifCond .ne 7) rfl S Q
theorem eX11_worked_98 {d : Nat} {S : zS} {Q : zR → Prop} : zW d MX11_worked 98 S Q = zGo d MX11_worked (.iconst 0) (zv (.int 0)) 99 S Q := zW_step (I := .iconst 0) rfl S Q
theorem eX11_worked_99 {d : Nat} {S : zS} {Q : zR → Prop} : zW d MX11_worked 99 S Q = zGo d MX11_worked (.goto 6) (zt 105) 102 S Q := zW_step (I := .goto 6) rfl S Q
theorem eX11_worked_102 {d : Nat} {S : zS} {Q : zR → Prop} : zW d MX11_worked 102 S Q = zGo d MX11_worked (.iload 1) z0 103 S Q := zW_step (I := .iload_n 1) rfl S Q
theorem eX11_worked_103 {d : Nat} {S : zS} {Q : zR → Prop} : zW d MX11_worked 103 S Q = zGo d MX11_worked (.iload 2) z0 104 S Q := zW_step (I := .iload_n 2) rfl S Q
theorem eX11_worked_104 {d : Nat} {S : zS} {Q : zR → Prop} : zW d MX11_worked 104 S Q = zGo d MX11_worked (.idiv) z0 105 S Q := zW_step (I := .idiv) rfl S Q
theorem eX11_worked_105 {d : Nat} {S : zS} {Q : zR → Prop} : zW d MX11_worked 105 S Q = zGo d MX11_worked (.ireturn) z0 106 S Q := zW_step (I := .ireturn) rfl S Q
theorem rX11_worked : MX11_worked.2.2.2.2.1 = some .int := rfl
theorem eX11_ruled_0 {d : Nat} {S : zS} {Q : zR → Prop} : zW d MX11_ruled 0 S Q = zGo d MX11_ruled (.iconst 0) (zv (.int 0)) 1 S Q := zW_step (I := .iconst 0) rfl S Q
theorem eX11_ruled_1 {d : Nat} {S : zS} {Q : zR → Prop} : zW d MX11_ruled 1 S Q = zGo d MX11_ruled (.istore 1) z0 2 S Q := zW_step (I := .istore_n 1) rfl S Q
theorem eX11_ruled_2 {d : Nat} {S : zS} {Q : zR → Prop} : zW d MX11_ruled 2 S Q = zGo d MX11_ruled (.iconst 0) (zv (.int 0)) 3 S Q := zW_step (I := .iconst 0) rfl S Q
theorem eX11_ruled_3 {d : Nat} {S : zS} {Q : zR → Prop} : zW d MX11_ruled 3 S Q = zGo d MX11_ruled (.istore 2) z0 4 S Q := zW_step (I := .istore_n 2) rfl S Q
theorem eX11_ruled_4 {d : Nat} {S : zS} {Q : zR → Prop} : zW d MX11_ruled 4 S Q = zGo d MX11_ruled (.iload 2) z0 5 S Q := zW_step (I := .iload_n 2) rfl S Q
theorem eX11_ruled_5 {d : Nat} {S : zS} {Q : zR → Prop} : zW d MX11_ruled 5 S Q = zGo d MX11_ruled (.aload 0) z0 6 S Q := zW_step (I := .aload_n 0) rfl S Q
theorem eX11_ruled_6 {d : Nat} {S : zS} {Q : zR → Prop} : zW d MX11_ruled 6 S Q = zGo d MX11_ruled (.getfield 164) (zf 0 11 15) 9 S Q := zW_step (I := .getfield 164) rfl S Q
theorem eX11_ruled_9 {d : Nat} {S : zS} {Q : zR → Prop} : zW d MX11_ruled 9 S Q = zGo d MX11_ruled (.if_icmp .ge 116) (zt 125) 12 S Q := zW_step (I := .if_icmp .ge 116) rfl S Q
theorem eX11_ruled_12 {d : Nat} {S : zS} {Q : zR → Prop} : zW d MX11_ruled 12 S Q = zGo d MX11_ruled (.aload 0) z0 13 S Q := zW_step (I := .aload_n 0) rfl S Q
theorem eX11_ruled_13 {d : Nat} {S : zS} {Q : zR → Prop} : zW d MX11_ruled 13 S Q = zGo d MX11_ruled (.getfield 167) (zf 3 11 13) 16 S Q := zW_step (I := .getfield 167) rfl S Q
theorem eX11_ruled_16 {d : Nat} {S : zS} {Q : zR → Prop} : zW d MX11_ruled 16 S Q = zGo d MX11_ruled (.iload 2) z0 17 S Q := zW_step (I := .iload_n 2) rfl S Q
theorem eX11_ruled_17 {d : Nat} {S : zS} {Q : zR → Prop} : zW d MX11_ruled 17 S Q = zGo d MX11_ruled (.iaload) z0 18 S Q := zW_step (I := .iaload) rfl S Q
theorem eX11_ruled_18 {d : Nat} {S : zS} {Q : zR → Prop} : zW d MX11_ruled 18 S Q = zGo d MX11_ruled (.istore 3) z0 19 S Q := zW_step (I := .istore_n 3) rfl S Q
theorem eX11_ruled_19 {d : Nat} {S : zS} {Q : zR → Prop} : zW d MX11_ruled 19 S Q = zGo d MX11_ruled (.iload 3) z0 20 S Q := zW_step (I := .iload_n 3) rfl S Q
theorem eX11_ruled_20 {d : Nat} {S : zS} {Q : zR → Prop} : zW d MX11_ruled 20 S Q = zGo d MX11_ruled (.sipush 3000) (zv (.int 3000)) 23 S Q := zW_step (I := .sipush 3000) rfl S Q
theorem eX11_ruled_23 {d : Nat} {S : zS} {Q : zR → Prop} : zW d MX11_ruled 23 S Q = zGo d MX11_ruled (.if_icmp .ne 23) (zt 46) 26 S Q := zW_step (I := .if_icmp .ne 23) rfl S Q
theorem eX11_ruled_26 {d : Nat} {S : zS} {Q : zR → Prop} : zW d MX11_ruled 26 S Q = zGo d MX11_ruled (.aload 0) z0 27 S Q := zW_step (I := .aload_n 0) rfl S Q
theorem eX11_ruled_27 {d : Nat} {S : zS} {Q : zR → Prop} : zW d MX11_ruled 27 S Q = zGo d MX11_ruled (.getfield 177) (zf 3 11 17) 30 S Q := zW_step (I := .getfield 177) rfl S Q
theorem eX11_ruled_30 {d : Nat} {S : zS} {Q : zR → Prop} : zW d MX11_ruled 30 S Q = zGo d MX11_ruled (.iload 1) z0 31 S Q := zW_step (I := .iload_n 1) rfl S Q
theorem eX11_ruled_31 {d : Nat} {S : zS} {Q : zR → Prop} : zW d MX11_ruled 31 S Q = zGo d MX11_ruled (.iconst 1) (zv (.int 1)) 32 S Q := zW_step (I := .iconst 1) rfl S Q
theorem eX11_ruled_32 {d : Nat} {S : zS} {Q : zR → Prop} : zW d MX11_ruled 32 S Q = zGo d MX11_ruled (.isub) z0 33 S Q := zW_step (I := .isub) rfl S Q
theorem eX11_ruled_33 {d : Nat} {S : zS} {Q : zR → Prop} : zW d MX11_ruled 33 S Q = zGo d MX11_ruled (.aload 0) z0 34 S Q := zW_step (I := .aload_n 0) rfl S Q
theorem eX11_ruled_34 {d : Nat} {S : zS} {Q : zR → Prop} : zW d MX11_ruled 34 S Q = zGo d MX11_ruled (.getfield 177) (zf 3 11 17) 37 S Q := zW_step (I := .getfield 177) rfl S Q
theorem eX11_ruled_37 {d : Nat} {S : zS} {Q : zR → Prop} : zW d MX11_ruled 37 S Q = zGo d MX11_ruled (.iload 1) z0 38 S Q := zW_step (I := .iload_n 1) rfl S Q
theorem eX11_ruled_38 {d : Nat} {S : zS} {Q : zR → Prop} : zW d MX11_ruled 38 S Q = zGo d MX11_ruled (.iconst 1) (zv (.int 1)) 39 S Q := zW_step (I := .iconst 1) rfl S Q
theorem eX11_ruled_39 {d : Nat} {S : zS} {Q : zR → Prop} : zW d MX11_ruled 39 S Q = zGo d MX11_ruled (.isub) z0 40 S Q := zW_step (I := .isub) rfl S Q
theorem eX11_ruled_40 {d : Nat} {S : zS} {Q : zR → Prop} : zW d MX11_ruled 40 S Q = zGo d MX11_ruled (.iaload) z0 41 S Q := zW_step (I := .iaload) rfl S Q
theorem eX11_ruled_41 {d : Nat} {S : zS} {Q : zR → Prop} : zW d MX11_ruled 41 S Q = zGo d MX11_ruled (.ineg) z0 42 S Q := zW_step (I := .ineg) rfl S Q
theorem eX11_ruled_42 {d : Nat} {S : zS} {Q : zR → Prop} : zW d MX11_ruled 42 S Q = zGo d MX11_ruled (.iastore) z0 43 S Q := zW_step (I := .iastore) rfl S Q
theorem eX11_ruled_43 {d : Nat} {S : zS} {Q : zR → Prop} : zW d MX11_ruled 43 S Q = zGo d MX11_ruled (.goto 76) (zt 119) 46 S Q := zW_step (I := .goto 76) rfl S Q
theorem eX11_ruled_46 {d : Nat} {S : zS} {Q : zR → Prop} : zW d MX11_ruled 46 S Q = zGo d MX11_ruled (.iload 3) z0 47 S Q := zW_step (I := .iload_n 3) rfl S Q
theorem eX11_ruled_47 {d : Nat} {S : zS} {Q : zR → Prop} : zW d MX11_ruled 47 S Q = zGo d MX11_ruled (.sipush 2000) (zv (.int 2000)) 50 S Q := zW_step (I := .sipush 2000) rfl S Q
theorem eX11_ruled_50 {d : Nat} {S : zS} {Q : zR → Prop} : zW d MX11_ruled 50 S Q = zGo d MX11_ruled (.if_icmp .lt 39) (zt 89) 53 S Q := zW_step (I := .if_icmp .lt 39) rfl S Q
theorem eX11_ruled_53 {d : Nat} {S : zS} {Q : zR → Prop} : zW d MX11_ruled 53 S Q = zGo d MX11_ruled (.iinc 1 (-1)) (zv (.int (-1))) 56 S Q := zW_step (I := .iinc 1 (-1)) rfl S Q
theorem eX11_ruled_56 {d : Nat} {S : zS} {Q : zR → Prop} : zW d MX11_ruled 56 S Q = zGo d MX11_ruled (.aload 0) z0 57 S Q := zW_step (I := .aload_n 0) rfl S Q
theorem eX11_ruled_57 {d : Nat} {S : zS} {Q : zR → Prop} : zW d MX11_ruled 57 S Q = zGo d MX11_ruled (.getfield 177) (zf 3 11 17) 60 S Q := zW_step (I := .getfield 177) rfl S Q
theorem eX11_ruled_60 {d : Nat} {S : zS} {Q : zR → Prop} : zW d MX11_ruled 60 S Q = zGo d MX11_ruled (.iload 1) z0 61 S Q := zW_step (I := .iload_n 1) rfl S Q
theorem eX11_ruled_61 {d : Nat} {S : zS} {Q : zR → Prop} : zW d MX11_ruled 61 S Q = zGo d MX11_ruled (.iconst 1) (zv (.int 1)) 62 S Q := zW_step (I := .iconst 1) rfl S Q
theorem eX11_ruled_62 {d : Nat} {S : zS} {Q : zR → Prop} : zW d MX11_ruled 62 S Q = zGo d MX11_ruled (.isub) z0 63 S Q := zW_step (I := .isub) rfl S Q
theorem eX11_ruled_63 {d : Nat} {S : zS} {Q : zR → Prop} : zW d MX11_ruled 63 S Q = zGo d MX11_ruled (.iload 3) z0 64 S Q := zW_step (I := .iload_n 3) rfl S Q
theorem eX11_ruled_64 {d : Nat} {S : zS} {Q : zR → Prop} : zW d MX11_ruled 64 S Q = zGo d MX11_ruled (.sipush 2000) (zv (.int 2000)) 67 S Q := zW_step (I := .sipush 2000) rfl S Q
theorem eX11_ruled_67 {d : Nat} {S : zS} {Q : zR → Prop} : zW d MX11_ruled 67 S Q = zGo d MX11_ruled (.isub) z0 68 S Q := zW_step (I := .isub) rfl S Q
theorem eX11_ruled_68 {d : Nat} {S : zS} {Q : zR → Prop} : zW d MX11_ruled 68 S Q = zGo d MX11_ruled (.aload 0) z0 69 S Q := zW_step (I := .aload_n 0) rfl S Q
theorem eX11_ruled_69 {d : Nat} {S : zS} {Q : zR → Prop} : zW d MX11_ruled 69 S Q = zGo d MX11_ruled (.getfield 177) (zf 3 11 17) 72 S Q := zW_step (I := .getfield 177) rfl S Q
theorem eX11_ruled_72 {d : Nat} {S : zS} {Q : zR → Prop} : zW d MX11_ruled 72 S Q = zGo d MX11_ruled (.iload 1) z0 73 S Q := zW_step (I := .iload_n 1) rfl S Q
theorem eX11_ruled_73 {d : Nat} {S : zS} {Q : zR → Prop} : zW d MX11_ruled 73 S Q = zGo d MX11_ruled (.iconst 1) (zv (.int 1)) 74 S Q := zW_step (I := .iconst 1) rfl S Q
theorem eX11_ruled_74 {d : Nat} {S : zS} {Q : zR → Prop} : zW d MX11_ruled 74 S Q = zGo d MX11_ruled (.isub) z0 75 S Q := zW_step (I := .isub) rfl S Q
theorem eX11_ruled_75 {d : Nat} {S : zS} {Q : zR → Prop} : zW d MX11_ruled 75 S Q = zGo d MX11_ruled (.iaload) z0 76 S Q := zW_step (I := .iaload) rfl S Q
theorem eX11_ruled_76 {d : Nat} {S : zS} {Q : zR → Prop} : zW d MX11_ruled 76 S Q = zGo d MX11_ruled (.aload 0) z0 77 S Q := zW_step (I := .aload_n 0) rfl S Q
theorem eX11_ruled_77 {d : Nat} {S : zS} {Q : zR → Prop} : zW d MX11_ruled 77 S Q = zGo d MX11_ruled (.getfield 177) (zf 3 11 17) 80 S Q := zW_step (I := .getfield 177) rfl S Q
theorem eX11_ruled_80 {d : Nat} {S : zS} {Q : zR → Prop} : zW d MX11_ruled 80 S Q = zGo d MX11_ruled (.iload 1) z0 81 S Q := zW_step (I := .iload_n 1) rfl S Q
theorem eX11_ruled_81 {d : Nat} {S : zS} {Q : zR → Prop} : zW d MX11_ruled 81 S Q = zGo d MX11_ruled (.iaload) z0 82 S Q := zW_step (I := .iaload) rfl S Q
theorem eX11_ruled_82 {d : Nat} {S : zS} {Q : zR → Prop} : zW d MX11_ruled 82 S Q = zGo d MX11_ruled (.invokestatic 180) (zc 212 3 0) 85 S Q := zW_step (I := .invokestatic 180) rfl S Q
theorem eX11_ruled_85 {d : Nat} {S : zS} {Q : zR → Prop} : zW d MX11_ruled 85 S Q = zGo d MX11_ruled (.iastore) z0 86 S Q := zW_step (I := .iastore) rfl S Q
theorem eX11_ruled_86 {d : Nat} {S : zS} {Q : zR → Prop} : zW d MX11_ruled 86 S Q = zGo d MX11_ruled (.goto 33) (zt 119) 89 S Q := zW_step (I := .goto 33) rfl S Q
theorem eX11_ruled_89 {d : Nat} {S : zS} {Q : zR → Prop} : zW d MX11_ruled 89 S Q = zGo d MX11_ruled (.aload 0) z0 90 S Q := zW_step (I := .aload_n 0) rfl S Q
theorem eX11_ruled_90 {d : Nat} {S : zS} {Q : zR → Prop} : zW d MX11_ruled 90 S Q = zGo d MX11_ruled (.getfield 177) (zf 3 11 17) 93 S Q := zW_step (I := .getfield 177) rfl S Q
theorem eX11_ruled_93 {d : Nat} {S : zS} {Q : zR → Prop} : zW d MX11_ruled 93 S Q = zGo d MX11_ruled (.iload 1) z0 94 S Q := zW_step (I := .iload_n 1) rfl S Q
theorem eX11_ruled_94 {d : Nat} {S : zS} {Q : zR → Prop} : zW d MX11_ruled 94 S Q = zGo d MX11_ruled (.iload 3) z0 95 S Q := zW_step (I := .iload_n 3) rfl S Q
theorem eX11_ruled_95 {d : Nat} {S : zS} {Q : zR → Prop} : zW d MX11_ruled 95 S Q = zGo d MX11_ruled (.sipush 1000) (zv (.int 1000)) 98 S Q := zW_step (I := .sipush 1000) rfl S Q
theorem eX11_ruled_98 {d : Nat} {S : zS} {Q : zR → Prop} : zW d MX11_ruled 98 S Q = zGo d MX11_ruled (.if_icmp .lt 16) (zt 114) 101 S Q := zW_step (I := .if_icmp .lt 16) rfl S Q
theorem eX11_ruled_101 {d : Nat} {S : zS} {Q : zR → Prop} : zW d MX11_ruled 101 S Q = zGo d MX11_ruled (.aload 0) z0 102 S Q := zW_step (I := .aload_n 0) rfl S Q
theorem eX11_ruled_102 {d : Nat} {S : zS} {Q : zR → Prop} : zW d MX11_ruled 102 S Q = zGo d MX11_ruled (.getfield 183) (zf 3 11 18) 105 S Q := zW_step (I := .getfield 183) rfl S Q
theorem eX11_ruled_105 {d : Nat} {S : zS} {Q : zR → Prop} : zW d MX11_ruled 105 S Q = zGo d MX11_ruled (.iload 3) z0 106 S Q := zW_step (I := .iload_n 3) rfl S Q
theorem eX11_ruled_106 {d : Nat} {S : zS} {Q : zR → Prop} : zW d MX11_ruled 106 S Q = zGo d MX11_ruled (.sipush 1000) (zv (.int 1000)) 109 S Q := zW_step (I := .sipush 1000) rfl S Q
theorem eX11_ruled_109 {d : Nat} {S : zS} {Q : zR → Prop} : zW d MX11_ruled 109 S Q = zGo d MX11_ruled (.isub) z0 110 S Q := zW_step (I := .isub) rfl S Q
theorem eX11_ruled_110 {d : Nat} {S : zS} {Q : zR → Prop} : zW d MX11_ruled 110 S Q = zGo d MX11_ruled (.iaload) z0 111 S Q := zW_step (I := .iaload) rfl S Q
theorem eX11_ruled_111 {d : Nat} {S : zS} {Q : zR → Prop} : zW d MX11_ruled 111 S Q = zGo d MX11_ruled (.goto 4) (zt 115) 114 S Q := zW_step (I := .goto 4) rfl S Q
theorem eX11_ruled_114 {d : Nat} {S : zS} {Q : zR → Prop} : zW d MX11_ruled 114 S Q = zGo d MX11_ruled (.iload 3) z0 115 S Q := zW_step (I := .iload_n 3) rfl S Q
theorem eX11_ruled_115 {d : Nat} {S : zS} {Q : zR → Prop} : zW d MX11_ruled 115 S Q = zGo d MX11_ruled (.iastore) z0 116 S Q := zW_step (I := .iastore) rfl S Q
theorem eX11_ruled_116 {d : Nat} {S : zS} {Q : zR → Prop} : zW d MX11_ruled 116 S Q = zGo d MX11_ruled (.iinc 1 1) (zv (.int 1)) 119 S Q := zW_step (I := .iinc 1 1) rfl S Q
theorem eX11_ruled_119 {d : Nat} {S : zS} {Q : zR → Prop} : zW d MX11_ruled 119 S Q = zGo d MX11_ruled (.iinc 2 1) (zv (.int 1)) 122 S Q := zW_step (I := .iinc 2 1) rfl S Q
theorem eX11_ruled_122 {d : Nat} {S : zS} {Q : zR → Prop} : zW d MX11_ruled 122 S Q = zGo d MX11_ruled (.goto (-118)) (zt 4) 125 S Q := zW_step (I := .goto (-118)) rfl S Q
theorem eX11_ruled_125 {d : Nat} {S : zS} {Q : zR → Prop} : zW d MX11_ruled 125 S Q = zGo d MX11_ruled (.aload 0) z0 126 S Q := zW_step (I := .aload_n 0) rfl S Q
theorem eX11_ruled_126 {d : Nat} {S : zS} {Q : zR → Prop} : zW d MX11_ruled 126 S Q = zGo d MX11_ruled (.getfield 164) (zf 0 11 15) 129 S Q := zW_step (I := .getfield 164) rfl S Q
theorem eX11_ruled_129 {d : Nat} {S : zS} {Q : zR → Prop} : zW d MX11_ruled 129 S Q = zGo d MX11_ruled (.ifCond .ne 12) (zt 141) 132 S Q := zW_step (I := .ifCond .ne 12) rfl S Q
theorem eX11_ruled_132 {d : Nat} {S : zS} {Q : zR → Prop} : zW d MX11_ruled 132 S Q = zGo d MX11_ruled (.aload 0) z0 133 S Q := zW_step (I := .aload_n 0) rfl S Q
theorem eX11_ruled_133 {d : Nat} {S : zS} {Q : zR → Prop} : zW d MX11_ruled 133 S Q = zGo d MX11_ruled (.getfield 183) (zf 3 11 18) 136 S Q := zW_step (I := .getfield 183) rfl S Q
theorem eX11_ruled_136 {d : Nat} {S : zS} {Q : zR → Prop} : zW d MX11_ruled 136 S Q = zGo d MX11_ruled (.iconst 3) (zv (.int 3)) 137 S Q := zW_step (I := .iconst 3) rfl S Q
theorem eX11_ruled_137 {d : Nat} {S : zS} {Q : zR → Prop} : zW d MX11_ruled 137 S Q = zGo d MX11_ruled (.iaload) z0 138 S Q := zW_step (I := .iaload) rfl S Q
theorem eX11_ruled_138 {d : Nat} {S : zS} {Q : zR → Prop} : zW d MX11_ruled 138 S Q = zGo d MX11_ruled (.goto 9) (zt 147) 141 S Q := zW_step (I := .goto 9) rfl S Q
theorem eX11_ruled_141 {d : Nat} {S : zS} {Q : zR → Prop} : zW d MX11_ruled 141 S Q = zGo d MX11_ruled (.aload 0) z0 142 S Q := zW_step (I := .aload_n 0) rfl S Q
theorem eX11_ruled_142 {d : Nat} {S : zS} {Q : zR → Prop} : zW d MX11_ruled 142 S Q = zGo d MX11_ruled (.getfield 177) (zf 3 11 17) 145 S Q := zW_step (I := .getfield 177) rfl S Q
theorem eX11_ruled_145 {d : Nat} {S : zS} {Q : zR → Prop} : zW d MX11_ruled 145 S Q = zGo d MX11_ruled (.iconst 0) (zv (.int 0)) 146 S Q := zW_step (I := .iconst 0) rfl S Q
theorem eX11_ruled_146 {d : Nat} {S : zS} {Q : zR → Prop} : zW d MX11_ruled 146 S Q = zGo d MX11_ruled (.iaload) z0 147 S Q := zW_step (I := .iaload) rfl S Q
theorem eX11_ruled_147 {d : Nat} {S : zS} {Q : zR → Prop} : zW d MX11_ruled 147 S Q = zGo d MX11_ruled (.ireturn) z0 148 S Q := zW_step (I := .ireturn) rfl S Q
theorem rX11_ruled : MX11_ruled.2.2.2.2.1 = some .int := rfl
theorem eX11_worth_0 {d : Nat} {S : zS} {Q : zR → Prop} : zW d MX11_worth 0 S Q = zGo d MX11_worth (.iload 2) z0 1 S Q := zW_step (I := .iload_n 2) rfl S Q
theorem eX11_worth_1 {d : Nat} {S : zS} {Q : zR → Prop} : zW d MX11_worth 1 S Q = zGo d MX11_worth (.iconst 2) (zv (.int 2)) 2 S Q := zW_step (I := .iconst 2) rfl S Q
theorem eX11_worth_2 {d : Nat} {S : zS} {Q : zR → Prop} : zW d MX11_worth 2 S Q = zGo d MX11_worth (.idiv) z0 3 S Q := zW_step (I := .idiv) rfl S Q
theorem eX11_worth_3 {d : Nat} {S : zS} {Q : zR → Prop} : zW d MX11_worth 3 S Q = zGo d MX11_worth (.istore 3) z0 4 S Q := zW_step (I := .istore_n 3) rfl S Q
theorem eX11_worth_4 {d : Nat} {S : zS} {Q : zR → Prop} : zW d MX11_worth 4 S Q = zGo d MX11_worth (.aload 0) z0 5 S Q := zW_step (I := .aload_n 0) rfl S Q
theorem eX11_worth_5 {d : Nat} {S : zS} {Q : zR → Prop} : zW d MX11_worth 5 S Q = zGo d MX11_worth (.getfield 183) (zf 3 11 18) 8 S Q := zW_step (I := .getfield 183) rfl S Q
theorem eX11_worth_8 {d : Nat} {S : zS} {Q : zR → Prop} : zW d MX11_worth 8 S Q = zGo d MX11_worth (.iconst 0) (zv (.int 0)) 9 S Q := zW_step (I := .iconst 0) rfl S Q
theorem eX11_worth_9 {d : Nat} {S : zS} {Q : zR → Prop} : zW d MX11_worth 9 S Q = zGo d MX11_worth (.iload 3) z0 10 S Q := zW_step (I := .iload_n 3) rfl S Q
theorem eX11_worth_10 {d : Nat} {S : zS} {Q : zR → Prop} : zW d MX11_worth 10 S Q = zGo d MX11_worth (.iastore) z0 11 S Q := zW_step (I := .iastore) rfl S Q
theorem eX11_worth_11 {d : Nat} {S : zS} {Q : zR → Prop} : zW d MX11_worth 11 S Q = zGo d MX11_worth (.aload 0) z0 12 S Q := zW_step (I := .aload_n 0) rfl S Q
theorem eX11_worth_12 {d : Nat} {S : zS} {Q : zR → Prop} : zW d MX11_worth 12 S Q = zGo d MX11_worth (.getfield 183) (zf 3 11 18) 15 S Q := zW_step (I := .getfield 183) rfl S Q
theorem eX11_worth_15 {d : Nat} {S : zS} {Q : zR → Prop} : zW d MX11_worth 15 S Q = zGo d MX11_worth (.iconst 1) (zv (.int 1)) 16 S Q := zW_step (I := .iconst 1) rfl S Q
theorem eX11_worth_16 {d : Nat} {S : zS} {Q : zR → Prop} : zW d MX11_worth 16 S Q = zGo d MX11_worth (.aload 0) z0 17 S Q := zW_step (I := .aload_n 0) rfl S Q
theorem eX11_worth_17 {d : Nat} {S : zS} {Q : zR → Prop} : zW d MX11_worth 17 S Q = zGo d MX11_worth (.getfield 37) (zf 3 11 5) 20 S Q := zW_step (I := .getfield 37) rfl S Q
theorem eX11_worth_20 {d : Nat} {S : zS} {Q : zR → Prop} : zW d MX11_worth 20 S Q = zGo d MX11_worth (.bipush 49) (zv (.int 49)) 22 S Q := zW_step (I := .bipush 49) rfl S Q
theorem eX11_worth_22 {d : Nat} {S : zS} {Q : zR → Prop} : zW d MX11_worth 22 S Q = zGo d MX11_worth (.iload 3) z0 23 S Q := zW_step (I := .iload_n 3) rfl S Q
theorem eX11_worth_23 {d : Nat} {S : zS} {Q : zR → Prop} : zW d MX11_worth 23 S Q = zGo d MX11_worth (.iadd) z0 24 S Q := zW_step (I := .iadd) rfl S Q
theorem eX11_worth_24 {d : Nat} {S : zS} {Q : zR → Prop} : zW d MX11_worth 24 S Q = zGo d MX11_worth (.iaload) z0 25 S Q := zW_step (I := .iaload) rfl S Q
theorem eX11_worth_25 {d : Nat} {S : zS} {Q : zR → Prop} : zW d MX11_worth 25 S Q = zGo d MX11_worth (.iastore) z0 26 S Q := zW_step (I := .iastore) rfl S Q
theorem eX11_worth_26 {d : Nat} {S : zS} {Q : zR → Prop} : zW d MX11_worth 26 S Q = zGo d MX11_worth (.aload 0) z0 27 S Q := zW_step (I := .aload_n 0) rfl S Q
theorem eX11_worth_27 {d : Nat} {S : zS} {Q : zR → Prop} : zW d MX11_worth 27 S Q = zGo d MX11_worth (.getfield 183) (zf 3 11 18) 30 S Q := zW_step (I := .getfield 183) rfl S Q
theorem eX11_worth_30 {d : Nat} {S : zS} {Q : zR → Prop} : zW d MX11_worth 30 S Q = zGo d MX11_worth (.iconst 2) (zv (.int 2)) 31 S Q := zW_step (I := .iconst 2) rfl S Q
theorem eX11_worth_31 {d : Nat} {S : zS} {Q : zR → Prop} : zW d MX11_worth 31 S Q = zGo d MX11_worth (.iconst 1) (zv (.int 1)) 32 S Q := zW_step (I := .iconst 1) rfl S Q
theorem eX11_worth_32 {d : Nat} {S : zS} {Q : zR → Prop} : zW d MX11_worth 32 S Q = zGo d MX11_worth (.iload 2) z0 33 S Q := zW_step (I := .iload_n 2) rfl S Q
theorem eX11_worth_33 {d : Nat} {S : zS} {Q : zR → Prop} : zW d MX11_worth 33 S Q = zGo d MX11_worth (.iconst 2) (zv (.int 2)) 34 S Q := zW_step (I := .iconst 2) rfl S Q
theorem eX11_worth_34 {d : Nat} {S : zS} {Q : zR → Prop} : zW d MX11_worth 34 S Q = zGo d MX11_worth (.irem) z0 35 S Q := zW_step (I := .irem) rfl S Q
theorem eX11_worth_35 {d : Nat} {S : zS} {Q : zR → Prop} : zW d MX11_worth 35 S Q = zGo d MX11_worth (.isub) z0 36 S Q := zW_step (I := .isub) rfl S Q
theorem eX11_worth_36 {d : Nat} {S : zS} {Q : zR → Prop} : zW d MX11_worth 36 S Q = zGo d MX11_worth (.iastore) z0 37 S Q := zW_step (I := .iastore) rfl S Q
theorem eX11_worth_37 {d : Nat} {S : zS} {Q : zR → Prop} : zW d MX11_worth 37 S Q = zGo d MX11_worth (.aload 0) z0 38 S Q := zW_step (I := .aload_n 0) rfl S Q
theorem eX11_worth_38 {d : Nat} {S : zS} {Q : zR → Prop} : zW d MX11_worth 38 S Q = zGo d MX11_worth (.getfield 183) (zf 3 11 18) 41 S Q := zW_step (I := .getfield 183) rfl S Q
theorem eX11_worth_41 {d : Nat} {S : zS} {Q : zR → Prop} : zW d MX11_worth 41 S Q = zGo d MX11_worth (.iconst 3) (zv (.int 3)) 42 S Q := zW_step (I := .iconst 3) rfl S Q
theorem eX11_worth_42 {d : Nat} {S : zS} {Q : zR → Prop} : zW d MX11_worth 42 S Q = zGo d MX11_worth (.aload 0) z0 43 S Q := zW_step (I := .aload_n 0) rfl S Q
theorem eX11_worth_43 {d : Nat} {S : zS} {Q : zR → Prop} : zW d MX11_worth 43 S Q = zGo d MX11_worth (.getfield 257) (zf 3 11 27) 46 S Q := zW_step (I := .getfield 257) rfl S Q
theorem eX11_worth_46 {d : Nat} {S : zS} {Q : zR → Prop} : zW d MX11_worth 46 S Q = zGo d MX11_worth (.iload 1) z0 47 S Q := zW_step (I := .iload_n 1) rfl S Q
theorem eX11_worth_47 {d : Nat} {S : zS} {Q : zR → Prop} : zW d MX11_worth 47 S Q = zGo d MX11_worth (.iaload) z0 48 S Q := zW_step (I := .iaload) rfl S Q
theorem eX11_worth_48 {d : Nat} {S : zS} {Q : zR → Prop} : zW d MX11_worth 48 S Q = zGo d MX11_worth (.invokestatic 44) (zc 292 1 0) 51 S Q := zW_step (I := .invokestatic 44) rfl S Q
theorem eX11_worth_51 {d : Nat} {S : zS} {Q : zR → Prop} : zW d MX11_worth 51 S Q = zGo d MX11_worth (.iastore) z0 52 S Q := zW_step (I := .iastore) rfl S Q
theorem eX11_worth_52 {d : Nat} {S : zS} {Q : zR → Prop} : zW d MX11_worth 52 S Q = zGo d MX11_worth (.aload 0) z0 53 S Q := zW_step (I := .aload_n 0) rfl S Q
theorem eX11_worth_53 {d : Nat} {S : zS} {Q : zR → Prop} : zW d MX11_worth 53 S Q = zGo d MX11_worth (.getfield 183) (zf 3 11 18) 56 S Q := zW_step (I := .getfield 183) rfl S Q
theorem eX11_worth_56 {d : Nat} {S : zS} {Q : zR → Prop} : zW d MX11_worth 56 S Q = zGo d MX11_worth (.iconst 4) (zv (.int 4)) 57 S Q := zW_step (I := .iconst 4) rfl S Q
theorem eX11_worth_57 {d : Nat} {S : zS} {Q : zR → Prop} : zW d MX11_worth 57 S Q = zGo d MX11_worth (.aload 0) z0 58 S Q := zW_step (I := .aload_n 0) rfl S Q
theorem eX11_worth_58 {d : Nat} {S : zS} {Q : zR → Prop} : zW d MX11_worth 58 S Q = zGo d MX11_worth (.getfield 260) (zf 3 11 28) 61 S Q := zW_step (I := .getfield 260) rfl S Q
theorem eX11_worth_61 {d : Nat} {S : zS} {Q : zR → Prop} : zW d MX11_worth 61 S Q = zGo d MX11_worth (.iload 1) z0 62 S Q := zW_step (I := .iload_n 1) rfl S Q
theorem eX11_worth_62 {d : Nat} {S : zS} {Q : zR → Prop} : zW d MX11_worth 62 S Q = zGo d MX11_worth (.iaload) z0 63 S Q := zW_step (I := .iaload) rfl S Q
theorem eX11_worth_63 {d : Nat} {S : zS} {Q : zR → Prop} : zW d MX11_worth 63 S Q = zGo d MX11_worth (.invokestatic 44) (zc 292 1 0) 66 S Q := zW_step (I := .invokestatic 44) rfl S Q
theorem eX11_worth_66 {d : Nat} {S : zS} {Q : zR → Prop} : zW d MX11_worth 66 S Q = zGo d MX11_worth (.iastore) z0 67 S Q := zW_step (I := .iastore) rfl S Q
theorem eX11_worth_67 {d : Nat} {S : zS} {Q : zR → Prop} : zW d MX11_worth 67 S Q = zGo d MX11_worth (.aload 0) z0 68 S Q := zW_step (I := .aload_n 0) rfl S Q
theorem eX11_worth_68 {d : Nat} {S : zS} {Q : zR → Prop} : zW d MX11_worth 68 S Q = zGo d MX11_worth (.getfield 183) (zf 3 11 18) 71 S Q := zW_step (I := .getfield 183) rfl S Q
theorem eX11_worth_71 {d : Nat} {S : zS} {Q : zR → Prop} : zW d MX11_worth 71 S Q = zGo d MX11_worth (.iconst 5) (zv (.int 5)) 72 S Q := zW_step (I := .iconst 5) rfl S Q
theorem eX11_worth_72 {d : Nat} {S : zS} {Q : zR → Prop} : zW d MX11_worth 72 S Q = zGo d MX11_worth (.aload 0) z0 73 S Q := zW_step (I := .aload_n 0) rfl S Q
theorem eX11_worth_73 {d : Nat} {S : zS} {Q : zR → Prop} : zW d MX11_worth 73 S Q = zGo d MX11_worth (.iload 1) z0 74 S Q := zW_step (I := .iload_n 1) rfl S Q
theorem eX11_worth_74 {d : Nat} {S : zS} {Q : zR → Prop} : zW d MX11_worth 74 S Q = zGo d MX11_worth (.invokevirtual 363) (zc 237 2 11) 77 S Q := zW_step (I := .invokevirtual 363) rfl S Q
theorem eX11_worth_77 {d : Nat} {S : zS} {Q : zR → Prop} : zW d MX11_worth 77 S Q = zGo d MX11_worth (.iastore) z0 78 S Q := zW_step (I := .iastore) rfl S Q
theorem eX11_worth_78 {d : Nat} {S : zS} {Q : zR → Prop} : zW d MX11_worth 78 S Q = zGo d MX11_worth (.aload 0) z0 79 S Q := zW_step (I := .aload_n 0) rfl S Q
theorem eX11_worth_79 {d : Nat} {S : zS} {Q : zR → Prop} : zW d MX11_worth 79 S Q = zGo d MX11_worth (.getfield 183) (zf 3 11 18) 82 S Q := zW_step (I := .getfield 183) rfl S Q
theorem eX11_worth_82 {d : Nat} {S : zS} {Q : zR → Prop} : zW d MX11_worth 82 S Q = zGo d MX11_worth (.bipush 6) (zv (.int 6)) 84 S Q := zW_step (I := .bipush 6) rfl S Q
theorem eX11_worth_84 {d : Nat} {S : zS} {Q : zR → Prop} : zW d MX11_worth 84 S Q = zGo d MX11_worth (.aload 0) z0 85 S Q := zW_step (I := .aload_n 0) rfl S Q
theorem eX11_worth_85 {d : Nat} {S : zS} {Q : zR → Prop} : zW d MX11_worth 85 S Q = zGo d MX11_worth (.iload 3) z0 86 S Q := zW_step (I := .iload_n 3) rfl S Q
theorem eX11_worth_86 {d : Nat} {S : zS} {Q : zR → Prop} : zW d MX11_worth 86 S Q = zGo d MX11_worth (.iconst 1) (zv (.int 1)) 87 S Q := zW_step (I := .iconst 1) rfl S Q
theorem eX11_worth_87 {d : Nat} {S : zS} {Q : zR → Prop} : zW d MX11_worth 87 S Q = zGo d MX11_worth (.invokevirtual 41) (zc 192 3 11) 90 S Q := zW_step (I := .invokevirtual 41) rfl S Q
theorem eX11_worth_90 {d : Nat} {S : zS} {Q : zR → Prop} : zW d MX11_worth 90 S Q = zGo d MX11_worth (.invokestatic 44) (zc 292 1 0) 93 S Q := zW_step (I := .invokestatic 44) rfl S Q
theorem eX11_worth_93 {d : Nat} {S : zS} {Q : zR → Prop} : zW d MX11_worth 93 S Q = zGo d MX11_worth (.iastore) z0 94 S Q := zW_step (I := .iastore) rfl S Q
theorem eX11_worth_94 {d : Nat} {S : zS} {Q : zR → Prop} : zW d MX11_worth 94 S Q = zGo d MX11_worth (.bipush (-99)) (zv (.int (-99))) 96 S Q := zW_step (I := .bipush (-99)) rfl S Q
theorem eX11_worth_96 {d : Nat} {S : zS} {Q : zR → Prop} : zW d MX11_worth 96 S Q = zGo d MX11_worth (.bipush 99) (zv (.int 99)) 98 S Q := zW_step (I := .bipush 99) rfl S Q
theorem eX11_worth_98 {d : Nat} {S : zS} {Q : zR → Prop} : zW d MX11_worth 98 S Q = zGo d MX11_worth (.aload 0) z0 99 S Q := zW_step (I := .aload_n 0) rfl S Q
theorem eX11_worth_99 {d : Nat} {S : zS} {Q : zR → Prop} : zW d MX11_worth 99 S Q = zGo d MX11_worth (.invokevirtual 366) (zc 213 1 11) 102 S Q := zW_step (I := .invokevirtual 366) rfl S Q
theorem eX11_worth_102 {d : Nat} {S : zS} {Q : zR → Prop} : zW d MX11_worth 102 S Q = zGo d MX11_worth (.invokestatic 61) (zt 995) 105 S Q := zW_step (I := .invokestatic 61) rfl S Q
theorem eX11_worth_105 {d : Nat} {S : zS} {Q : zR → Prop} : zW d MX11_worth 105 S Q = zGo d MX11_worth (.invokestatic 195) (zt 994) 108 S Q := zW_step (I := .invokestatic 195) rfl S Q
theorem eX11_worth_108 {d : Nat} {S : zS} {Q : zR → Prop} : zW d MX11_worth 108 S Q = zGo d MX11_worth (.ireturn) z0 109 S Q := zW_step (I := .ireturn) rfl S Q
theorem rX11_worth : MX11_worth.2.2.2.2.1 = some .int := rfl
section M20
variable {h : Nat → zE} {th : Int32} {to : Int32} {row : Nat → Int64} {gu : Int32} {ch : Int32} {now : Nat → Int32} {tape : Nat → Int32} {tp : Int32} {pt : Int32} {tt : Int32} {ne : Int32} {rd : Nat → Int32} {rM : Int32} {code : Nat → Int32} {rc : Nat → Int32} {cL : Int32} {cR : Int32} {stk : Nat → Int32} {ask : Nat → Int32} {un : Int32} {und : Nat → Int32} {aS : Nat → Int32} {aO : Nat → Int32} {aW : Nat → Int32} {aH : Nat → Int32} {ac : Int32} {thr : Nat → Int32} {ins : Nat → Int32} {gon : Nat → Int32} {nO : Nat → Int32} {mO : Nat → Int32} {rO : Nat → Int32} {wy : Nat → Int64} {ah : Nat → Int64} {late : Nat → Int32} {soon : Nat → Int32} {yet : Nat → Int32} {cir : Nat → Int32} {bed : Nat → Int32} {stp : Nat → Int32} {oO : Nat → Int32} {oW : Nat → Int32} {win : Nat → Int32} {wc : Nat → Int32} {rn : Int32} {wer : Nat → Int32} {iK : Nat → Int32} {kC : Nat → Int32} {kep : Nat → Int32}
variable {d : Nat} {u : zU} {Q : zR → Prop} {H : zH} {n k : Nat} {tN iN gN nN mN rN : Nat → Nat}
def wkV (x a b : Int32) : Int32 := if x = 0 then (if a < b then 1 else 0) else if x = 1 then (if b < a then 1 else 0) else if x = 2 then (if a = b then 1 else 0) else if x = 3 then a + b else if x = 4 then a - b else if x = 5 then a * b else if b = 0 then 0 else a / b
theorem m_worked {x a b : Int32} : zK (d + 2) 212 [.int x, .int a, .int b] H Q = Q (some (.int (wkV x a b)), H) := by
  obtain ⟨h, u⟩ := H
  refine zK_of (k := 2) (by omega) ?_
  refine zK_in (M := MX11_worked) rfl (Nat.le_of_ble_eq_true rfl) ?_
  show zW 1 MX11_worked 0 ([.int x, .int a, .int b], [], (h, u)) _
  have f1 := fun (H : zH) Q => c_flag (d := 0) (H := H) (Q := Q) (b := true)
  have f0 := fun (H : zH) Q => c_flag (d := 0) (H := H) (Q := Q) (b := false)
  rw [b01_t] at f1
  rw [b01_f] at f0
  have e0 := i_lit (x := x) 0 0 (by decide)
  have e1 := i_lit (x := x) 1 1 (by decide)
  have e2 := i_lit (x := x) 2 2 (by decide)
  have e3 := i_lit (x := x) 3 3 (by decide)
  have e4 := i_lit (x := x) 4 4 (by decide)
  have e5 := i_lit (x := x) 5 5 (by decide)
  unfold wkV
  simp only [eX11_worked_0, eX11_worked_1, eX11_worked_40, eX11_worked_41, eX11_worked_42, eX11_worked_45, eX11_worked_46, eX11_worked_49, eX11_worked_50, eX11_worked_53, eX11_worked_54, eX11_worked_55, eX11_worked_56, eX11_worked_59, eX11_worked_60, eX11_worked_63, eX11_worked_64, eX11_worked_67, eX11_worked_68, eX11_worked_69, eX11_worked_70, eX11_worked_73, eX11_worked_74, eX11_worked_77, eX11_worked_78, eX11_worked_81, eX11_worked_82, eX11_worked_83, eX11_worked_84, eX11_worked_85, eX11_worked_86, eX11_worked_87, eX11_worked_88, eX11_worked_89, eX11_worked_90, eX11_worked_91, eX11_worked_92, eX11_worked_93, eX11_worked_94, eX11_worked_95, eX11_worked_98, eX11_worked_99, eX11_worked_102, eX11_worked_103, eX11_worked_104, eX11_worked_105, rX11_worked, zg_goto, zg_iadd, zg_icmp, zg_iconst, zg_idiv, zg_if, zg_iload, zg_imul, zg_ireturn, zg_is1, zg_isub, zg_tsw, q10, q01, q00, ite_self, zLd_i, zLd_l, zLd_a, zInc_i, zGet_o, zGet2_s, zPut_o, zAld_i, zAll_j, zAst_i, zAsl_j, zLen_i, zLen_j, zRt_i, zRt_z, zRl2_l, zRv_n, List.getElem?_cons_zero, List.getElem?_cons_succ, List.length_cons, List.length_nil, z_set, z_set2, z_cut, List.set_cons_zero, List.set_cons_succ, Option.toList_some, Option.toList_none, List.cons_append, List.nil_append, zif, zW_ite, zfit_0, zfit_1, zfit_2, zfit_3, zisc_o, zRt_c, zRt_b, List.map_cons, List.map_nil, List.sum_cons, List.sum_nil, true_and, and_true, if_true, if_false, ite_true, ite_false, Nat.reduceLT, Nat.reduceLeDiff, Nat.reduceAdd, Nat.reduceEqDiff, eq_self, not_true_eq_false, not_false_eq_true, Nat.lt_irrefl, or_true, true_or, or_false, false_or, z_cell_lt, Value.category, zsw, e0, e1, e2, e3, e4, e5, f1, f0]
  repeat' split
  all_goals simp_all
/-- the row of numbers that stand on the stack, the top first -/
def rS (tf : Nat → Int32) (l : List Int32) (x : Int32) : List Int32 :=
  if x = 3000 then (match l with | a :: r => -a :: r | [] => [])
  else if ¬ x < 2000 then (match l with | b :: a :: r => wkV (x - 2000) a b :: r | l => l)
  else (if x < 1000 then x else tf (x - 1000).toNatClampNeg) :: l
def rL (tf cd : Nat → Int32) : Nat → List Int32
  | 0 => []
  | k + 1 => rS tf (rL tf cd k) (cd k)
def stR (st : Nat → Int32) : List Int32 → Prop
  | [] => True
  | a :: r => st r.length = a ∧ stR st r
theorem stR_upd {st : Nat → Int32} {v : Int32} : ∀ {l : List Int32} {k : Nat}, l.length ≤ k → stR st l → stR (upd st k v) l := by
  intro l
  induction l with
  | nil => intro k _ _; trivial
  | cons a r ih =>
    intro k hk hs
    have hk' : r.length + 1 ≤ k := hk
    refine ⟨?_, ih (by omega) hs.2⟩
    show (if r.length = k then v else st r.length) = a
    rw [if_neg (by omega)]
    exact hs.1
/-- a code that a rule's reading lays: the stack never runs dry nor over -/
def rW (cd : Nat → Int32) (L : Nat) : Prop := L ≤ 80 ∧ (0 < L → ∀ tf, (rL tf cd L).length = 1) ∧ ∀ tf k, k < L → (cd k = 3000 ∧ 1 ≤ (rL tf cd k).length) ∨ (¬ cd k = 3000 ∧ ¬ cd k < 2000 ∧ 2 ≤ (rL tf cd k).length) ∨ (¬ cd k = 3000 ∧ cd k < 2000 ∧ (rL tf cd k).length < 80 ∧ (cd k < 1000 ∨ vp_in (cd k - 1000) 7))
theorem rL_len (tf cd : Nat → Int32) : ∀ k, (rL tf cd k).length ≤ k := by
  intro k
  induction k with
  | zero => exact Nat.le_refl _
  | succ k ih =>
    show (rS tf (rL tf cd k) (cd k)).length ≤ k + 1
    generalize rL tf cd k = l at *
    unfold rS
    split
    · split <;> first | omega | (simp only [List.length_cons, List.length_nil] at *; omega)
    · split
      · split <;> first | omega | (simp only [List.length_cons, List.length_nil] at *; omega)
      · simp only [List.length_cons]; omega
def rlV (tf cd : Nat → Int32) (L : Nat) : Int32 := if L = 0 then tf 3 else (rL tf cd L).headD 0
theorem rL_cg {tf tf' cd : Nat → Int32} {L : Nat} (hW : rW cd L) (ht : ∀ i, i < 7 → tf i = tf' i) : ∀ k, k ≤ L → rL tf cd k = rL tf' cd k := by
  intro k
  induction k with
  | zero => intro _; rfl
  | succ k ih =>
    intro hk
    show rS tf (rL tf cd k) (cd k) = rS tf' (rL tf' cd k) (cd k)
    rw [ih (by omega)]
    rcases hW.2.2 tf k (by omega) with c | c | c
    · unfold rS; rw [if_pos c.1, if_pos c.1]
    · unfold rS; rw [if_neg c.1, if_neg c.1, if_pos c.2.1, if_pos c.2.1]
    · simp only [rS, c.1, c.2.1, if_false, not_true_eq_false]
      rcases c.2.2.2 with c4 | c4
      · simp only [c4, if_true]
      · have e := ht (cd k - 1000).toNatClampNeg (by
          rw [vp_in_iff] at c4
          have := c4.2
          show (cd k - 1000).toInt.toNat < 7
          omega)
        rw [e]
theorem rlV_cg {tf tf' cd : Nat → Int32} {L : Nat} (hW : rW cd L) (ht : ∀ i, i < 7 → tf i = tf' i) : rlV tf cd L = rlV tf' cd L := by
  unfold rlV
  rw [rL_cg hW ht L (Nat.le_refl _), ht 3 (by decide)]
theorem w_ruled {L : Nat} (hW : rW code L) {R : Prop} (hR : ∀ stk x1 x2 x3, (0 < L → stk 0 = (rL ask code L).headD 0) → zW (d + 2) MX11_ruled 125 ([.ref 54, x1, x2, x3], [], ((mdl h th to row (nI n) ch now tape tp pt tt ne rd rM code rc (nI L) cR stk ask un und aS aO aW aH ac (fun i => nI (tN i)) (fun s => nI (iN s)) (fun s => nI (gN s)) (fun i => nI (nN i)) (fun i => nI (mN i)) (fun i => nI (rN i)) wy ah late soon yet cir bed stp oO oW win wc rn wer iK kC kep), u)) Q = R) : ∀ j k stk x3, k + j = L → stR stk (rL ask code k) → zW (d + 2) MX11_ruled 4 ([.ref 54, .int (nI (rL ask code k).length), .int (nI k), x3], [], ((mdl h th to row (nI n) ch now tape tp pt tt ne rd rM code rc (nI L) cR stk ask un und aS aO aW aH ac (fun i => nI (tN i)) (fun s => nI (iN s)) (fun s => nI (gN s)) (fun i => nI (nN i)) (fun i => nI (mN i)) (fun i => nI (rN i)) wy ah late soon yet cir bed stp oO oW win wc rn wer iK kC kep), u)) Q = R := by
  have ⟨w1, w2, w3⟩ := hW
  intro j
  induction j with
  | zero =>
    intro k stk x3 hk hs
    have e : k = L := by omega
    subst e
    rw [eX11_ruled_4]
    simp (disch := first | assumption | omega | decide) only [eX11_ruled_0, eX11_ruled_1, eX11_ruled_2, eX11_ruled_3, eX11_ruled_5, eX11_ruled_6, eX11_ruled_9, eX11_ruled_12, eX11_ruled_13, eX11_ruled_16, eX11_ruled_17, eX11_ruled_18, eX11_ruled_19, eX11_ruled_20, eX11_ruled_23, eX11_ruled_26, eX11_ruled_27, eX11_ruled_30, eX11_ruled_31, eX11_ruled_32, eX11_ruled_33, eX11_ruled_34, eX11_ruled_37, eX11_ruled_38, eX11_ruled_39, eX11_ruled_40, eX11_ruled_41, eX11_ruled_42, eX11_ruled_43, eX11_ruled_46, eX11_ruled_47, eX11_ruled_50, eX11_ruled_53, eX11_ruled_56, eX11_ruled_57, eX11_ruled_60, eX11_ruled_61, eX11_ruled_62, eX11_ruled_63, eX11_ruled_64, eX11_ruled_67, eX11_ruled_68, eX11_ruled_69, eX11_ruled_72, eX11_ruled_73, eX11_ruled_74, eX11_ruled_75, eX11_ruled_76, eX11_ruled_77, eX11_ruled_80, eX11_ruled_81, eX11_ruled_82, eX11_ruled_85, eX11_ruled_86, eX11_ruled_89, eX11_ruled_90, eX11_ruled_93, eX11_ruled_94, eX11_ruled_95, eX11_ruled_98, eX11_ruled_101, eX11_ruled_102, eX11_ruled_105, eX11_ruled_106, eX11_ruled_109, eX11_ruled_110, eX11_ruled_111, eX11_ruled_114, eX11_ruled_115, eX11_ruled_116, eX11_ruled_119, eX11_ruled_122, eX11_ruled_126, eX11_ruled_129, eX11_ruled_132, eX11_ruled_133, eX11_ruled_136, eX11_ruled_137, eX11_ruled_138, eX11_ruled_141, eX11_ruled_142, eX11_ruled_145, eX11_ruled_146, eX11_ruled_147, rX11_ruled, zg_aload, zg_getfield, zg_goto, zg_iaload, zg_iastore, zg_icmp, zg_iconst, zg_if, zg_iinc, zg_iload, zg_ineg, zg_ireturn, zg_is3, zg_istore, zg_isub, zg_sipush, q10, q01, q00, ite_self, zLd_i, zLd_l, zLd_a, zInc_i, zGet_o, zGet2_s, zPut_o, zAld_i, zAll_j, zAst_i, zAsl_j, zLen_i, zLen_j, zRt_i, zRt_z, zRl2_l, zRv_n, List.getElem?_cons_zero, List.getElem?_cons_succ, List.length_cons, List.length_nil, z_set, z_set2, z_cut, List.set_cons_zero, List.set_cons_succ, Option.toList_some, Option.toList_none, List.cons_append, List.nil_append, zif, zW_ite, zfit_0, zfit_1, zfit_2, zfit_3, zisc_o, zRt_c, zRt_b, List.map_cons, List.map_nil, List.sum_cons, List.sum_nil, true_and, and_true, if_true, if_false, ite_true, ite_false, Nat.reduceLT, Nat.reduceLeDiff, Nat.reduceAdd, Nat.reduceEqDiff, eq_self, not_true_eq_false, not_false_eq_true, Nat.lt_irrefl, or_true, true_or, or_false, false_or, z_cell_lt, Value.category, ltT, ltF, leT, leF, natT, natF, iltT, iltF, ieqT, ieqF, vpT, cl_nI, q_bit, pow_cell, z_pw_eq, nI_add, nI_mul, nI_m1, nI_dn, nI_dn0, m1_lt, lg_pos, i32_irr, q_shT, ite01, ite00, updL_z, q_upd, Bool.false_eq_true, nI_l2i, jlT_0, jlF_0, jgT_0, jgF_0, jeT_0, jeF_0, jv_0, jc_0, jm_0, jM_0, ja_0, jA_0, jlT_1, jlF_1, jgT_1, jgF_1, jeT_1, jeF_1, jv_1, jc_1, jm_1, jM_1, ja_1, jA_1, jlT_2, jlF_2, jgT_2, jgF_2, jeT_2, jeF_2, jv_2, jc_2, jm_2, jM_2, ja_2, jA_2, jlT_3, jlF_3, jgT_3, jgF_3, jeT_3, jeF_3, jv_3, jc_3, jm_3, jM_3, ja_3, jA_3, M_54, Int32.lt_irrefl]
    refine hR _ _ _ _ (fun h0 => ?_)
    have h1 := w2 h0 ask
    generalize rL ask code k = l at *
    match l, h1, hs with
    | [a], _, hs => exact hs.1
  | succ j ih =>
    intro k stk x3 hk hs
    have ih := fun stk x3 => ih (k + 1) stk x3 (by omega)
    have e1 : rL ask code (k + 1) = rS ask (rL ask code k) (code k) := rfl
    rw [e1] at ih
    have c0 := w3 ask k (by omega)
    have hlen := rL_len ask code k
    generalize rL ask code k = l at *
    have hk2 : k < 80 := by omega
    have hkL : k < L := by omega
    rcases c0 with ⟨c1, c2⟩ | ⟨c1, c2, c3⟩ | ⟨c1, c2, c3, c4⟩
    · match l, c2, hs, hlen with
      | a :: r, _, hs, hlen =>
      have eS : rS ask (a :: r) (code k) = -a :: r := by unfold rS; rw [if_pos c1]
      rw [eS] at ih
      have hlen : r.length + 1 ≤ k := hlen
      have ih : ∀ stk x3, stR stk (-a :: r) → zW (d + 2) MX11_ruled 4 ([.ref 54, .int (nI (r.length + 1)), .int (nI (k + 1)), x3], [], ((mdl h th to row (nI n) ch now tape tp pt tt ne rd rM code rc (nI L) cR stk ask un und aS aO aW aH ac (fun i => nI (tN i)) (fun s => nI (iN s)) (fun s => nI (gN s)) (fun i => nI (nN i)) (fun i => nI (mN i)) (fun i => nI (rN i)) wy ah late soon yet cir bed stp oO oW win wc rn wer iK kC kep), u)) Q = R := ih
      show zW (d + 2) MX11_ruled 4 ([.ref 54, .int (nI (r.length + 1)), .int (nI k), x3], [], ((mdl h th to row (nI n) ch now tape tp pt tt ne rd rM code rc (nI L) cR stk ask un und aS aO aW aH ac (fun i => nI (tN i)) (fun s => nI (iN s)) (fun s => nI (gN s)) (fun i => nI (nN i)) (fun i => nI (mN i)) (fun i => nI (rN i)) wy ah late soon yet cir bed stp oO oW win wc rn wer iK kC kep), u)) Q = R
      rw [eX11_ruled_4]
      have c1' := eq_true c1
      simp (disch := first | assumption | omega | decide) only [eX11_ruled_0, eX11_ruled_1, eX11_ruled_2, eX11_ruled_3, eX11_ruled_5, eX11_ruled_6, eX11_ruled_9, eX11_ruled_12, eX11_ruled_13, eX11_ruled_16, eX11_ruled_17, eX11_ruled_18, eX11_ruled_19, eX11_ruled_20, eX11_ruled_23, eX11_ruled_26, eX11_ruled_27, eX11_ruled_30, eX11_ruled_31, eX11_ruled_32, eX11_ruled_33, eX11_ruled_34, eX11_ruled_37, eX11_ruled_38, eX11_ruled_39, eX11_ruled_40, eX11_ruled_41, eX11_ruled_42, eX11_ruled_43, eX11_ruled_46, eX11_ruled_47, eX11_ruled_50, eX11_ruled_53, eX11_ruled_56, eX11_ruled_57, eX11_ruled_60, eX11_ruled_61, eX11_ruled_62, eX11_ruled_63, eX11_ruled_64, eX11_ruled_67, eX11_ruled_68, eX11_ruled_69, eX11_ruled_72, eX11_ruled_73, eX11_ruled_74, eX11_ruled_75, eX11_ruled_76, eX11_ruled_77, eX11_ruled_80, eX11_ruled_81, eX11_ruled_82, eX11_ruled_85, eX11_ruled_86, eX11_ruled_89, eX11_ruled_90, eX11_ruled_93, eX11_ruled_94, eX11_ruled_95, eX11_ruled_98, eX11_ruled_101, eX11_ruled_102, eX11_ruled_105, eX11_ruled_106, eX11_ruled_109, eX11_ruled_110, eX11_ruled_111, eX11_ruled_114, eX11_ruled_115, eX11_ruled_116, eX11_ruled_119, eX11_ruled_122, eX11_ruled_126, eX11_ruled_129, eX11_ruled_132, eX11_ruled_133, eX11_ruled_136, eX11_ruled_137, eX11_ruled_138, eX11_ruled_141, eX11_ruled_142, eX11_ruled_145, eX11_ruled_146, eX11_ruled_147, rX11_ruled, zg_aload, zg_getfield, zg_goto, zg_iaload, zg_iastore, zg_icmp, zg_iconst, zg_if, zg_iinc, zg_iload, zg_ineg, zg_ireturn, zg_is3, zg_istore, zg_isub, zg_sipush, q10, q01, q00, ite_self, zLd_i, zLd_l, zLd_a, zInc_i, zGet_o, zGet2_s, zPut_o, zAld_i, zAll_j, zAst_i, zAsl_j, zLen_i, zLen_j, zRt_i, zRt_z, zRl2_l, zRv_n, List.getElem?_cons_zero, List.getElem?_cons_succ, List.length_cons, List.length_nil, z_set, z_set2, z_cut, List.set_cons_zero, List.set_cons_succ, Option.toList_some, Option.toList_none, List.cons_append, List.nil_append, zif, zW_ite, zfit_0, zfit_1, zfit_2, zfit_3, zisc_o, zRt_c, zRt_b, List.map_cons, List.map_nil, List.sum_cons, List.sum_nil, true_and, and_true, if_true, if_false, ite_true, ite_false, Nat.reduceLT, Nat.reduceLeDiff, Nat.reduceAdd, Nat.reduceEqDiff, eq_self, not_true_eq_false, not_false_eq_true, Nat.lt_irrefl, or_true, true_or, or_false, false_or, z_cell_lt, Value.category, ltT, ltF, leT, leF, natT, natF, iltT, iltF, ieqT, ieqF, vpT, cl_nI, q_bit, pow_cell, z_pw_eq, nI_add, nI_mul, nI_m1, nI_dn, nI_dn0, m1_lt, lg_pos, i32_irr, q_shT, ite01, ite00, updL_z, q_upd, Bool.false_eq_true, nI_l2i, jlT_0, jlF_0, jgT_0, jgF_0, jeT_0, jeF_0, jv_0, jc_0, jm_0, jM_0, ja_0, jA_0, jlT_1, jlF_1, jgT_1, jgF_1, jeT_1, jeF_1, jv_1, jc_1, jm_1, jM_1, ja_1, jA_1, jlT_2, jlF_2, jgT_2, jgF_2, jeT_2, jeF_2, jv_2, jc_2, jm_2, jM_2, ja_2, jA_2, jlT_3, jlF_3, jgT_3, jgF_3, jeT_3, jeF_3, jv_3, jc_3, jm_3, jM_3, ja_3, jA_3, M_54, M_code, M_stk, S_stk, c1', hs.1]
      refine ih _ _ ⟨?_, stR_upd (Nat.le_refl _) hs.2⟩
      show (if r.length = r.length then -a else _) = -a
      rw [if_pos rfl]
    · match l, c3, hs, hlen with
      | b :: a :: r, _, hs, hlen =>
      have eS : rS ask (b :: a :: r) (code k) = wkV (code k - 2000) a b :: r := by unfold rS; rw [if_neg c1, if_pos c2]
      rw [eS] at ih
      have hlen : r.length + 1 + 1 ≤ k := hlen
      have ih : ∀ stk x3, stR stk (wkV (code k - 2000) a b :: r) → zW (d + 2) MX11_ruled 4 ([.ref 54, .int (nI (r.length + 1)), .int (nI (k + 1)), x3], [], ((mdl h th to row (nI n) ch now tape tp pt tt ne rd rM code rc (nI L) cR stk ask un und aS aO aW aH ac (fun i => nI (tN i)) (fun s => nI (iN s)) (fun s => nI (gN s)) (fun i => nI (nN i)) (fun i => nI (mN i)) (fun i => nI (rN i)) wy ah late soon yet cir bed stp oO oW win wc rn wer iK kC kep), u)) Q = R := ih
      show zW (d + 2) MX11_ruled 4 ([.ref 54, .int (nI (r.length + 1 + 1)), .int (nI k), x3], [], ((mdl h th to row (nI n) ch now tape tp pt tt ne rd rM code rc (nI L) cR stk ask un und aS aO aW aH ac (fun i => nI (tN i)) (fun s => nI (iN s)) (fun s => nI (gN s)) (fun i => nI (nN i)) (fun i => nI (mN i)) (fun i => nI (rN i)) wy ah late soon yet cir bed stp oO oW win wc rn wer iK kC kep), u)) Q = R
      rw [eX11_ruled_4]
      have c1' := eq_false c1
      have c2' := eq_false c2
      have hs1 : stk (r.length + 1) = b := hs.1
      have hs2 := hs.2.1
      simp (disch := first | assumption | omega | decide) only [eX11_ruled_0, eX11_ruled_1, eX11_ruled_2, eX11_ruled_3, eX11_ruled_5, eX11_ruled_6, eX11_ruled_9, eX11_ruled_12, eX11_ruled_13, eX11_ruled_16, eX11_ruled_17, eX11_ruled_18, eX11_ruled_19, eX11_ruled_20, eX11_ruled_23, eX11_ruled_26, eX11_ruled_27, eX11_ruled_30, eX11_ruled_31, eX11_ruled_32, eX11_ruled_33, eX11_ruled_34, eX11_ruled_37, eX11_ruled_38, eX11_ruled_39, eX11_ruled_40, eX11_ruled_41, eX11_ruled_42, eX11_ruled_43, eX11_ruled_46, eX11_ruled_47, eX11_ruled_50, eX11_ruled_53, eX11_ruled_56, eX11_ruled_57, eX11_ruled_60, eX11_ruled_61, eX11_ruled_62, eX11_ruled_63, eX11_ruled_64, eX11_ruled_67, eX11_ruled_68, eX11_ruled_69, eX11_ruled_72, eX11_ruled_73, eX11_ruled_74, eX11_ruled_75, eX11_ruled_76, eX11_ruled_77, eX11_ruled_80, eX11_ruled_81, eX11_ruled_82, eX11_ruled_85, eX11_ruled_86, eX11_ruled_89, eX11_ruled_90, eX11_ruled_93, eX11_ruled_94, eX11_ruled_95, eX11_ruled_98, eX11_ruled_101, eX11_ruled_102, eX11_ruled_105, eX11_ruled_106, eX11_ruled_109, eX11_ruled_110, eX11_ruled_111, eX11_ruled_114, eX11_ruled_115, eX11_ruled_116, eX11_ruled_119, eX11_ruled_122, eX11_ruled_126, eX11_ruled_129, eX11_ruled_132, eX11_ruled_133, eX11_ruled_136, eX11_ruled_137, eX11_ruled_138, eX11_ruled_141, eX11_ruled_142, eX11_ruled_145, eX11_ruled_146, eX11_ruled_147, rX11_ruled, zg_aload, zg_getfield, zg_goto, zg_iaload, zg_iastore, zg_icmp, zg_iconst, zg_if, zg_iinc, zg_iload, zg_ineg, zg_ireturn, zg_is3, zg_istore, zg_isub, zg_sipush, q10, q01, q00, ite_self, zLd_i, zLd_l, zLd_a, zInc_i, zGet_o, zGet2_s, zPut_o, zAld_i, zAll_j, zAst_i, zAsl_j, zLen_i, zLen_j, zRt_i, zRt_z, zRl2_l, zRv_n, List.getElem?_cons_zero, List.getElem?_cons_succ, List.length_cons, List.length_nil, z_set, z_set2, z_cut, List.set_cons_zero, List.set_cons_succ, Option.toList_some, Option.toList_none, List.cons_append, List.nil_append, zif, zW_ite, zfit_0, zfit_1, zfit_2, zfit_3, zisc_o, zRt_c, zRt_b, List.map_cons, List.map_nil, List.sum_cons, List.sum_nil, true_and, and_true, if_true, if_false, ite_true, ite_false, Nat.reduceLT, Nat.reduceLeDiff, Nat.reduceAdd, Nat.reduceEqDiff, eq_self, not_true_eq_false, not_false_eq_true, Nat.lt_irrefl, or_true, true_or, or_false, false_or, z_cell_lt, Value.category, ltT, ltF, leT, leF, natT, natF, iltT, iltF, ieqT, ieqF, vpT, cl_nI, q_bit, pow_cell, z_pw_eq, nI_add, nI_mul, nI_m1, nI_dn, nI_dn0, m1_lt, lg_pos, i32_irr, q_shT, ite01, ite00, updL_z, q_upd, Bool.false_eq_true, nI_l2i, jlT_0, jlF_0, jgT_0, jgF_0, jeT_0, jeF_0, jv_0, jc_0, jm_0, jM_0, ja_0, jA_0, jlT_1, jlF_1, jgT_1, jgF_1, jeT_1, jeF_1, jv_1, jc_1, jm_1, jM_1, ja_1, jA_1, jlT_2, jlF_2, jgT_2, jgF_2, jeT_2, jeF_2, jv_2, jc_2, jm_2, jM_2, ja_2, jA_2, jlT_3, jlF_3, jgT_3, jgF_3, jeT_3, jeF_3, jv_3, jc_3, jm_3, jM_3, ja_3, jA_3, M_54, M_code, M_stk, S_stk, c1', c2', hs1, hs2, m_worked]
      refine ih _ _ ⟨?_, stR_upd (Nat.le_refl _) hs.2.2⟩
      show (if r.length = r.length then _ else _) = _
      rw [if_pos rfl]
    · have c1' := eq_false c1
      have c2' := eq_true c2
      have eS : rS ask l (code k) = (if code k < 1000 then code k else ask (code k - 1000).toNatClampNeg) :: l := by unfold rS; rw [if_neg c1, if_neg (fun q => q c2)]
      rw [eS] at ih
      have ih : ∀ stk x3, stR stk ((if code k < 1000 then code k else ask (code k - 1000).toNatClampNeg) :: l) → zW (d + 2) MX11_ruled 4 ([.ref 54, .int (nI (l.length + 1)), .int (nI (k + 1)), x3], [], ((mdl h th to row (nI n) ch now tape tp pt tt ne rd rM code rc (nI L) cR stk ask un und aS aO aW aH ac (fun i => nI (tN i)) (fun s => nI (iN s)) (fun s => nI (gN s)) (fun i => nI (nN i)) (fun i => nI (mN i)) (fun i => nI (rN i)) wy ah late soon yet cir bed stp oO oW win wc rn wer iK kC kep), u)) Q = R := ih
      rw [eX11_ruled_4]
      by_cases c5 : code k < 1000
      · have c5' := eq_true c5
        rw [if_pos c5] at ih
        simp (disch := first | assumption | omega | decide) only [eX11_ruled_0, eX11_ruled_1, eX11_ruled_2, eX11_ruled_3, eX11_ruled_5, eX11_ruled_6, eX11_ruled_9, eX11_ruled_12, eX11_ruled_13, eX11_ruled_16, eX11_ruled_17, eX11_ruled_18, eX11_ruled_19, eX11_ruled_20, eX11_ruled_23, eX11_ruled_26, eX11_ruled_27, eX11_ruled_30, eX11_ruled_31, eX11_ruled_32, eX11_ruled_33, eX11_ruled_34, eX11_ruled_37, eX11_ruled_38, eX11_ruled_39, eX11_ruled_40, eX11_ruled_41, eX11_ruled_42, eX11_ruled_43, eX11_ruled_46, eX11_ruled_47, eX11_ruled_50, eX11_ruled_53, eX11_ruled_56, eX11_ruled_57, eX11_ruled_60, eX11_ruled_61, eX11_ruled_62, eX11_ruled_63, eX11_ruled_64, eX11_ruled_67, eX11_ruled_68, eX11_ruled_69, eX11_ruled_72, eX11_ruled_73, eX11_ruled_74, eX11_ruled_75, eX11_ruled_76, eX11_ruled_77, eX11_ruled_80, eX11_ruled_81, eX11_ruled_82, eX11_ruled_85, eX11_ruled_86, eX11_ruled_89, eX11_ruled_90, eX11_ruled_93, eX11_ruled_94, eX11_ruled_95, eX11_ruled_98, eX11_ruled_101, eX11_ruled_102, eX11_ruled_105, eX11_ruled_106, eX11_ruled_109, eX11_ruled_110, eX11_ruled_111, eX11_ruled_114, eX11_ruled_115, eX11_ruled_116, eX11_ruled_119, eX11_ruled_122, eX11_ruled_126, eX11_ruled_129, eX11_ruled_132, eX11_ruled_133, eX11_ruled_136, eX11_ruled_137, eX11_ruled_138, eX11_ruled_141, eX11_ruled_142, eX11_ruled_145, eX11_ruled_146, eX11_ruled_147, rX11_ruled, zg_aload, zg_getfield, zg_goto, zg_iaload, zg_iastore, zg_icmp, zg_iconst, zg_if, zg_iinc, zg_iload, zg_ineg, zg_ireturn, zg_is3, zg_istore, zg_isub, zg_sipush, q10, q01, q00, ite_self, zLd_i, zLd_l, zLd_a, zInc_i, zGet_o, zGet2_s, zPut_o, zAld_i, zAll_j, zAst_i, zAsl_j, zLen_i, zLen_j, zRt_i, zRt_z, zRl2_l, zRv_n, List.getElem?_cons_zero, List.getElem?_cons_succ, List.length_cons, List.length_nil, z_set, z_set2, z_cut, List.set_cons_zero, List.set_cons_succ, Option.toList_some, Option.toList_none, List.cons_append, List.nil_append, zif, zW_ite, zfit_0, zfit_1, zfit_2, zfit_3, zisc_o, zRt_c, zRt_b, List.map_cons, List.map_nil, List.sum_cons, List.sum_nil, true_and, and_true, if_true, if_false, ite_true, ite_false, Nat.reduceLT, Nat.reduceLeDiff, Nat.reduceAdd, Nat.reduceEqDiff, eq_self, not_true_eq_false, not_false_eq_true, Nat.lt_irrefl, or_true, true_or, or_false, false_or, z_cell_lt, Value.category, ltT, ltF, leT, leF, natT, natF, iltT, iltF, ieqT, ieqF, vpT, cl_nI, q_bit, pow_cell, z_pw_eq, nI_add, nI_mul, nI_m1, nI_dn, nI_dn0, m1_lt, lg_pos, i32_irr, q_shT, ite01, ite00, updL_z, q_upd, Bool.false_eq_true, nI_l2i, jlT_0, jlF_0, jgT_0, jgF_0, jeT_0, jeF_0, jv_0, jc_0, jm_0, jM_0, ja_0, jA_0, jlT_1, jlF_1, jgT_1, jgF_1, jeT_1, jeF_1, jv_1, jc_1, jm_1, jM_1, ja_1, jA_1, jlT_2, jlF_2, jgT_2, jgF_2, jeT_2, jeF_2, jv_2, jc_2, jm_2, jM_2, ja_2, jA_2, jlT_3, jlF_3, jgT_3, jgF_3, jeT_3, jeF_3, jv_3, jc_3, jm_3, jM_3, ja_3, jA_3, M_54, M_code, M_stk, S_stk, M_ask, c1', c2', c5']
        refine ih _ _ ⟨?_, stR_upd (Nat.le_refl _) hs⟩
        show (if l.length = l.length then _ else _) = _
        rw [if_pos rfl]
      · have c5' := eq_false c5
        have c6 := eq_true (c4.resolve_left c5)
        rw [if_neg c5] at ih
        simp (disch := first | assumption | omega | decide) only [eX11_ruled_0, eX11_ruled_1, eX11_ruled_2, eX11_ruled_3, eX11_ruled_5, eX11_ruled_6, eX11_ruled_9, eX11_ruled_12, eX11_ruled_13, eX11_ruled_16, eX11_ruled_17, eX11_ruled_18, eX11_ruled_19, eX11_ruled_20, eX11_ruled_23, eX11_ruled_26, eX11_ruled_27, eX11_ruled_30, eX11_ruled_31, eX11_ruled_32, eX11_ruled_33, eX11_ruled_34, eX11_ruled_37, eX11_ruled_38, eX11_ruled_39, eX11_ruled_40, eX11_ruled_41, eX11_ruled_42, eX11_ruled_43, eX11_ruled_46, eX11_ruled_47, eX11_ruled_50, eX11_ruled_53, eX11_ruled_56, eX11_ruled_57, eX11_ruled_60, eX11_ruled_61, eX11_ruled_62, eX11_ruled_63, eX11_ruled_64, eX11_ruled_67, eX11_ruled_68, eX11_ruled_69, eX11_ruled_72, eX11_ruled_73, eX11_ruled_74, eX11_ruled_75, eX11_ruled_76, eX11_ruled_77, eX11_ruled_80, eX11_ruled_81, eX11_ruled_82, eX11_ruled_85, eX11_ruled_86, eX11_ruled_89, eX11_ruled_90, eX11_ruled_93, eX11_ruled_94, eX11_ruled_95, eX11_ruled_98, eX11_ruled_101, eX11_ruled_102, eX11_ruled_105, eX11_ruled_106, eX11_ruled_109, eX11_ruled_110, eX11_ruled_111, eX11_ruled_114, eX11_ruled_115, eX11_ruled_116, eX11_ruled_119, eX11_ruled_122, eX11_ruled_126, eX11_ruled_129, eX11_ruled_132, eX11_ruled_133, eX11_ruled_136, eX11_ruled_137, eX11_ruled_138, eX11_ruled_141, eX11_ruled_142, eX11_ruled_145, eX11_ruled_146, eX11_ruled_147, rX11_ruled, zg_aload, zg_getfield, zg_goto, zg_iaload, zg_iastore, zg_icmp, zg_iconst, zg_if, zg_iinc, zg_iload, zg_ineg, zg_ireturn, zg_is3, zg_istore, zg_isub, zg_sipush, q10, q01, q00, ite_self, zLd_i, zLd_l, zLd_a, zInc_i, zGet_o, zGet2_s, zPut_o, zAld_i, zAll_j, zAst_i, zAsl_j, zLen_i, zLen_j, zRt_i, zRt_z, zRl2_l, zRv_n, List.getElem?_cons_zero, List.getElem?_cons_succ, List.length_cons, List.length_nil, z_set, z_set2, z_cut, List.set_cons_zero, List.set_cons_succ, Option.toList_some, Option.toList_none, List.cons_append, List.nil_append, zif, zW_ite, zfit_0, zfit_1, zfit_2, zfit_3, zisc_o, zRt_c, zRt_b, List.map_cons, List.map_nil, List.sum_cons, List.sum_nil, true_and, and_true, if_true, if_false, ite_true, ite_false, Nat.reduceLT, Nat.reduceLeDiff, Nat.reduceAdd, Nat.reduceEqDiff, eq_self, not_true_eq_false, not_false_eq_true, Nat.lt_irrefl, or_true, true_or, or_false, false_or, z_cell_lt, Value.category, ltT, ltF, leT, leF, natT, natF, iltT, iltF, ieqT, ieqF, vpT, cl_nI, q_bit, pow_cell, z_pw_eq, nI_add, nI_mul, nI_m1, nI_dn, nI_dn0, m1_lt, lg_pos, i32_irr, q_shT, ite01, ite00, updL_z, q_upd, Bool.false_eq_true, nI_l2i, jlT_0, jlF_0, jgT_0, jgF_0, jeT_0, jeF_0, jv_0, jc_0, jm_0, jM_0, ja_0, jA_0, jlT_1, jlF_1, jgT_1, jgF_1, jeT_1, jeF_1, jv_1, jc_1, jm_1, jM_1, ja_1, jA_1, jlT_2, jlF_2, jgT_2, jgF_2, jeT_2, jeF_2, jv_2, jc_2, jm_2, jM_2, ja_2, jA_2, jlT_3, jlF_3, jgT_3, jgF_3, jeT_3, jeF_3, jv_3, jc_3, jm_3, jM_3, ja_3, jA_3, M_54, M_code, M_stk, S_stk, M_ask, c1', c2', c5', c6]
        refine ih _ _ ⟨?_, stR_upd (Nat.le_refl _) hs⟩
        show (if l.length = l.length then _ else _) = _
        rw [if_pos rfl]
theorem zK_ex {α : Type} {f : α → zR} {y k : Nat} {as : List Value} (hB : zK k y as H (fun q => ∃ a, q = f a)) : ∃ a, ∀ d (Q : zR → Prop), zK (d + k) y as H Q = Q (f a) := by
  obtain ⟨r, h1, a, h2⟩ := hB
  subst h2
  exact ⟨a, fun d Q => zK_eq (zB_le (Nat.le_add_left _ _) h1)⟩
theorem m_ruled {L : Nat} (hW : rW code L) : ∃ stk', ∀ d (Q : zR → Prop), zK (d + 3) 213 [.ref 54] ((mdl h th to row (nI n) ch now tape tp pt tt ne rd rM code rc (nI L) cR stk ask un und aS aO aW aH ac (fun i => nI (tN i)) (fun s => nI (iN s)) (fun s => nI (gN s)) (fun i => nI (nN i)) (fun i => nI (mN i)) (fun i => nI (rN i)) wy ah late soon yet cir bed stp oO oW win wc rn wer iK kC kep), u) Q = Q (some (.int (rlV ask code L)), ((mdl h th to row (nI n) ch now tape tp pt tt ne rd rM code rc (nI L) cR stk' ask un und aS aO aW aH ac (fun i => nI (tN i)) (fun s => nI (iN s)) (fun s => nI (gN s)) (fun i => nI (nN i)) (fun i => nI (mN i)) (fun i => nI (rN i)) wy ah late soon yet cir bed stp oO oW win wc rn wer iK kC kep), u)) := by
  refine zK_ex (k := 3) (f := fun stk' => (some (.int (rlV ask code L)), ((mdl h th to row (nI n) ch now tape tp pt tt ne rd rM code rc (nI L) cR stk' ask un und aS aO aW aH ac (fun i => nI (tN i)) (fun s => nI (iN s)) (fun s => nI (gN s)) (fun i => nI (nN i)) (fun i => nI (mN i)) (fun i => nI (rN i)) wy ah late soon yet cir bed stp oO oW win wc rn wer iK kC kep), u))) ?_
  refine zK_in (M := MX11_ruled) rfl (Nat.le_of_ble_eq_true rfl) ?_
  show zW 2 MX11_ruled 0 ([.ref 54, .null, .null, .null], [], ((mdl h th to row (nI n) ch now tape tp pt tt ne rd rM code rc (nI L) cR stk ask un und aS aO aW aH ac (fun i => nI (tN i)) (fun s => nI (iN s)) (fun s => nI (gN s)) (fun i => nI (nN i)) (fun i => nI (mN i)) (fun i => nI (rN i)) wy ah late soon yet cir bed stp oO oW win wc rn wer iK kC kep), u)) _
  simp (disch := first | assumption | omega | decide) only [eX11_ruled_0, eX11_ruled_1, eX11_ruled_2, eX11_ruled_3, eX11_ruled_5, eX11_ruled_6, eX11_ruled_9, eX11_ruled_12, eX11_ruled_13, eX11_ruled_16, eX11_ruled_17, eX11_ruled_18, eX11_ruled_19, eX11_ruled_20, eX11_ruled_23, eX11_ruled_26, eX11_ruled_27, eX11_ruled_30, eX11_ruled_31, eX11_ruled_32, eX11_ruled_33, eX11_ruled_34, eX11_ruled_37, eX11_ruled_38, eX11_ruled_39, eX11_ruled_40, eX11_ruled_41, eX11_ruled_42, eX11_ruled_43, eX11_ruled_46, eX11_ruled_47, eX11_ruled_50, eX11_ruled_53, eX11_ruled_56, eX11_ruled_57, eX11_ruled_60, eX11_ruled_61, eX11_ruled_62, eX11_ruled_63, eX11_ruled_64, eX11_ruled_67, eX11_ruled_68, eX11_ruled_69, eX11_ruled_72, eX11_ruled_73, eX11_ruled_74, eX11_ruled_75, eX11_ruled_76, eX11_ruled_77, eX11_ruled_80, eX11_ruled_81, eX11_ruled_82, eX11_ruled_85, eX11_ruled_86, eX11_ruled_89, eX11_ruled_90, eX11_ruled_93, eX11_ruled_94, eX11_ruled_95, eX11_ruled_98, eX11_ruled_101, eX11_ruled_102, eX11_ruled_105, eX11_ruled_106, eX11_ruled_109, eX11_ruled_110, eX11_ruled_111, eX11_ruled_114, eX11_ruled_115, eX11_ruled_116, eX11_ruled_119, eX11_ruled_122, eX11_ruled_126, eX11_ruled_129, eX11_ruled_132, eX11_ruled_133, eX11_ruled_136, eX11_ruled_137, eX11_ruled_138, eX11_ruled_141, eX11_ruled_142, eX11_ruled_145, eX11_ruled_146, eX11_ruled_147, rX11_ruled, zg_aload, zg_getfield, zg_goto, zg_iaload, zg_iastore, zg_icmp, zg_iconst, zg_if, zg_iinc, zg_iload, zg_ineg, zg_ireturn, zg_is3, zg_istore, zg_isub, zg_sipush, q10, q01, q00, ite_self, zLd_i, zLd_l, zLd_a, zInc_i, zGet_o, zGet2_s, zPut_o, zAld_i, zAll_j, zAst_i, zAsl_j, zLen_i, zLen_j, zRt_i, zRt_z, zRl2_l, zRv_n, List.getElem?_cons_zero, List.getElem?_cons_succ, List.length_cons, List.length_nil, z_set, z_set2, z_cut, List.set_cons_zero, List.set_cons_succ, Option.toList_some, Option.toList_none, List.cons_append, List.nil_append, zif, zW_ite, zfit_0, zfit_1, zfit_2, zfit_3, zisc_o, zRt_c, zRt_b, List.map_cons, List.map_nil, List.sum_cons, List.sum_nil, true_and, and_true, if_true, if_false, ite_true, ite_false, Nat.reduceLT, Nat.reduceLeDiff, Nat.reduceAdd, Nat.reduceEqDiff, eq_self, not_true_eq_false, not_false_eq_true, Nat.lt_irrefl, or_true, true_or, or_false, false_or, z_cell_lt, Value.category, ltT, ltF, leT, leF, natT, natF, iltT, iltF, ieqT, ieqF, vpT, cl_nI, q_bit, pow_cell, z_pw_eq, nI_add, nI_mul, nI_m1, nI_dn, nI_dn0, m1_lt, lg_pos, i32_irr, q_shT, ite01, ite00, updL_z, q_upd, Bool.false_eq_true, nI_l2i, jlT_0, jlF_0, jgT_0, jgF_0, jeT_0, jeF_0, jv_0, jc_0, jm_0, jM_0, ja_0, jA_0, jlT_1, jlF_1, jgT_1, jgF_1, jeT_1, jeF_1, jv_1, jc_1, jm_1, jM_1, ja_1, jA_1, jlT_2, jlF_2, jgT_2, jgF_2, jeT_2, jeF_2, jv_2, jc_2, jm_2, jM_2, ja_2, jA_2, jlT_3, jlF_3, jgT_3, jgF_3, jeT_3, jeF_3, jv_3, jc_3, jm_3, jM_3, ja_3, jA_3]
  refine (w_ruled (d := 0) (u := u) (Q := _) (h := h) (th := th) (to := to) (row := row) (ch := ch) (now := now) (tape := tape) (tp := tp) (pt := pt) (tt := tt) (ne := ne) (rd := rd) (rM := rM) (code := code) (rc := rc) (cR := cR) (stk := stk) (ask := ask) (un := un) (und := und) (aS := aS) (aO := aO) (aW := aW) (aH := aH) (ac := ac) (wy := wy) (ah := ah) (late := late) (soon := soon) (yet := yet) (cir := cir) (bed := bed) (stp := stp) (oO := oO) (oW := oW) (win := win) (wc := wc) (rn := rn) (wer := wer) (iK := iK) (kC := kC) (kep := kep) (n := n) (tN := tN) (iN := iN) (gN := gN) (nN := nN) (mN := mN) (rN := rN) hW (R := True) (fun stk x1 x2 x3 hs => ?_) L 0 _ (Nat.zero_add _) trivial).mpr trivial
  apply eq_true
  have hL : L < 2147483648 := by have := hW.1; omega
  unfold rlV
  by_cases c : L = 0
  · subst c
    simp (disch := first | assumption | omega | decide) only [eX11_ruled_0, eX11_ruled_1, eX11_ruled_2, eX11_ruled_3, eX11_ruled_5, eX11_ruled_6, eX11_ruled_9, eX11_ruled_12, eX11_ruled_13, eX11_ruled_16, eX11_ruled_17, eX11_ruled_18, eX11_ruled_19, eX11_ruled_20, eX11_ruled_23, eX11_ruled_26, eX11_ruled_27, eX11_ruled_30, eX11_ruled_31, eX11_ruled_32, eX11_ruled_33, eX11_ruled_34, eX11_ruled_37, eX11_ruled_38, eX11_ruled_39, eX11_ruled_40, eX11_ruled_41, eX11_ruled_42, eX11_ruled_43, eX11_ruled_46, eX11_ruled_47, eX11_ruled_50, eX11_ruled_53, eX11_ruled_56, eX11_ruled_57, eX11_ruled_60, eX11_ruled_61, eX11_ruled_62, eX11_ruled_63, eX11_ruled_64, eX11_ruled_67, eX11_ruled_68, eX11_ruled_69, eX11_ruled_72, eX11_ruled_73, eX11_ruled_74, eX11_ruled_75, eX11_ruled_76, eX11_ruled_77, eX11_ruled_80, eX11_ruled_81, eX11_ruled_82, eX11_ruled_85, eX11_ruled_86, eX11_ruled_89, eX11_ruled_90, eX11_ruled_93, eX11_ruled_94, eX11_ruled_95, eX11_ruled_98, eX11_ruled_101, eX11_ruled_102, eX11_ruled_105, eX11_ruled_106, eX11_ruled_109, eX11_ruled_110, eX11_ruled_111, eX11_ruled_114, eX11_ruled_115, eX11_ruled_116, eX11_ruled_119, eX11_ruled_122, eX11_ruled_125, eX11_ruled_126, eX11_ruled_129, eX11_ruled_132, eX11_ruled_133, eX11_ruled_136, eX11_ruled_137, eX11_ruled_138, eX11_ruled_141, eX11_ruled_142, eX11_ruled_145, eX11_ruled_146, eX11_ruled_147, rX11_ruled, zg_aload, zg_getfield, zg_goto, zg_iaload, zg_iastore, zg_icmp, zg_iconst, zg_if, zg_iinc, zg_iload, zg_ineg, zg_ireturn, zg_is3, zg_istore, zg_isub, zg_sipush, q10, q01, q00, ite_self, zLd_i, zLd_l, zLd_a, zInc_i, zGet_o, zGet2_s, zPut_o, zAld_i, zAll_j, zAst_i, zAsl_j, zLen_i, zLen_j, zRt_i, zRt_z, zRl2_l, zRv_n, List.getElem?_cons_zero, List.getElem?_cons_succ, List.length_cons, List.length_nil, z_set, z_set2, z_cut, List.set_cons_zero, List.set_cons_succ, Option.toList_some, Option.toList_none, List.cons_append, List.nil_append, zif, zW_ite, zfit_0, zfit_1, zfit_2, zfit_3, zisc_o, zRt_c, zRt_b, List.map_cons, List.map_nil, List.sum_cons, List.sum_nil, true_and, and_true, if_true, if_false, ite_true, ite_false, Nat.reduceLT, Nat.reduceLeDiff, Nat.reduceAdd, Nat.reduceEqDiff, eq_self, not_true_eq_false, not_false_eq_true, Nat.lt_irrefl, or_true, true_or, or_false, false_or, z_cell_lt, Value.category, ltT, ltF, leT, leF, natT, natF, iltT, iltF, ieqT, ieqF, vpT, cl_nI, q_bit, pow_cell, z_pw_eq, nI_add, nI_mul, nI_m1, nI_dn, nI_dn0, m1_lt, lg_pos, i32_irr, q_shT, ite01, ite00, updL_z, q_upd, Bool.false_eq_true, nI_l2i, jlT_0, jlF_0, jgT_0, jgF_0, jeT_0, jeF_0, jv_0, jc_0, jm_0, jM_0, ja_0, jA_0, jlT_1, jlF_1, jgT_1, jgF_1, jeT_1, jeF_1, jv_1, jc_1, jm_1, jM_1, ja_1, jA_1, jlT_2, jlF_2, jgT_2, jgF_2, jeT_2, jeF_2, jv_2, jc_2, jm_2, jM_2, ja_2, jA_2, jlT_3, jlF_3, jgT_3, jgF_3, jeT_3, jeF_3, jv_3, jc_3, jm_3, jM_3, ja_3, jA_3, M_54, M_ask]
    exact ⟨_, rfl⟩
  · have hs := hs (by omega)
    rw [if_neg c, ← hs]
    simp (disch := first | assumption | omega | decide) only [eX11_ruled_0, eX11_ruled_1, eX11_ruled_2, eX11_ruled_3, eX11_ruled_5, eX11_ruled_6, eX11_ruled_9, eX11_ruled_12, eX11_ruled_13, eX11_ruled_16, eX11_ruled_17, eX11_ruled_18, eX11_ruled_19, eX11_ruled_20, eX11_ruled_23, eX11_ruled_26, eX11_ruled_27, eX11_ruled_30, eX11_ruled_31, eX11_ruled_32, eX11_ruled_33, eX11_ruled_34, eX11_ruled_37, eX11_ruled_38, eX11_ruled_39, eX11_ruled_40, eX11_ruled_41, eX11_ruled_42, eX11_ruled_43, eX11_ruled_46, eX11_ruled_47, eX11_ruled_50, eX11_ruled_53, eX11_ruled_56, eX11_ruled_57, eX11_ruled_60, eX11_ruled_61, eX11_ruled_62, eX11_ruled_63, eX11_ruled_64, eX11_ruled_67, eX11_ruled_68, eX11_ruled_69, eX11_ruled_72, eX11_ruled_73, eX11_ruled_74, eX11_ruled_75, eX11_ruled_76, eX11_ruled_77, eX11_ruled_80, eX11_ruled_81, eX11_ruled_82, eX11_ruled_85, eX11_ruled_86, eX11_ruled_89, eX11_ruled_90, eX11_ruled_93, eX11_ruled_94, eX11_ruled_95, eX11_ruled_98, eX11_ruled_101, eX11_ruled_102, eX11_ruled_105, eX11_ruled_106, eX11_ruled_109, eX11_ruled_110, eX11_ruled_111, eX11_ruled_114, eX11_ruled_115, eX11_ruled_116, eX11_ruled_119, eX11_ruled_122, eX11_ruled_125, eX11_ruled_126, eX11_ruled_129, eX11_ruled_132, eX11_ruled_133, eX11_ruled_136, eX11_ruled_137, eX11_ruled_138, eX11_ruled_141, eX11_ruled_142, eX11_ruled_145, eX11_ruled_146, eX11_ruled_147, rX11_ruled, zg_aload, zg_getfield, zg_goto, zg_iaload, zg_iastore, zg_icmp, zg_iconst, zg_if, zg_iinc, zg_iload, zg_ineg, zg_ireturn, zg_is3, zg_istore, zg_isub, zg_sipush, q10, q01, q00, ite_self, zLd_i, zLd_l, zLd_a, zInc_i, zGet_o, zGet2_s, zPut_o, zAld_i, zAll_j, zAst_i, zAsl_j, zLen_i, zLen_j, zRt_i, zRt_z, zRl2_l, zRv_n, List.getElem?_cons_zero, List.getElem?_cons_succ, List.length_cons, List.length_nil, z_set, z_set2, z_cut, List.set_cons_zero, List.set_cons_succ, Option.toList_some, Option.toList_none, List.cons_append, List.nil_append, zif, zW_ite, zfit_0, zfit_1, zfit_2, zfit_3, zisc_o, zRt_c, zRt_b, List.map_cons, List.map_nil, List.sum_cons, List.sum_nil, true_and, and_true, if_true, if_false, ite_true, ite_false, Nat.reduceLT, Nat.reduceLeDiff, Nat.reduceAdd, Nat.reduceEqDiff, eq_self, not_true_eq_false, not_false_eq_true, Nat.lt_irrefl, or_true, true_or, or_false, false_or, z_cell_lt, Value.category, ltT, ltF, leT, leF, natT, natF, iltT, iltF, ieqT, ieqF, vpT, cl_nI, q_bit, pow_cell, z_pw_eq, nI_add, nI_mul, nI_m1, nI_dn, nI_dn0, m1_lt, lg_pos, i32_irr, q_shT, ite01, ite00, updL_z, q_upd, Bool.false_eq_true, nI_l2i, jlT_0, jlF_0, jgT_0, jgF_0, jeT_0, jeF_0, jv_0, jc_0, jm_0, jM_0, ja_0, jA_0, jlT_1, jlF_1, jgT_1, jgF_1, jeT_1, jeF_1, jv_1, jc_1, jm_1, jM_1, ja_1, jA_1, jlT_2, jlF_2, jgT_2, jgF_2, jeT_2, jeF_2, jv_2, jc_2, jm_2, jM_2, ja_2, jA_2, jlT_3, jlF_3, jgT_3, jgF_3, jeT_3, jeF_3, jv_3, jc_3, jm_3, jM_3, ja_3, jA_3, M_54, M_stk]
    exact ⟨_, rfl⟩
def clV99 (r : Int32) : Int32 := if -99 < (if r < 99 then r else 99) then (if r < 99 then r else 99) else -99
/-- what a rule may ask of an event -/
def thM (now : Nat → Int32) (n : Nat) (iN gN : Nat → Nat) (s e : Nat) : Nat → Int32 := fun i => if i = 0 then nI (e / 2) else if i = 1 then now (49 + e / 2) else if i = 2 then nI (1 - e % 2) else if i = 3 then nI (pop (iN s)) else if i = 4 then nI (pop (gN s)) else if i = 5 then nI (pop (iN s) + 2 * pop (gN s)) else nI (pop (thoV now n (e / 2) 1))
def thU (f g : Nat → Int32) : Nat → Int32 := upd (upd (upd (upd (upd (upd (upd f 0 (g 0)) 1 (g 1)) 2 (g 2)) 3 (g 3)) 4 (g 4)) 5 (g 5)) 6 (g 6)
theorem thU_at (f g : Nat → Int32) : ∀ i, i < 7 → thU f g i = g i := by
  intro i hi
  match i, hi with
  | 0, _ => rfl
  | 1, _ => rfl
  | 2, _ => rfl
  | 3, _ => rfl
  | 4, _ => rfl
  | 5, _ => rfl
  | 6, _ => rfl
def wtV (now : Nat → Int32) (n : Nat) (iN gN : Nat → Nat) (cd : Nat → Int32) (L s e : Nat) : Int32 := clV99 (rlV (thM now n iN gN s e) cd L)
theorem m_worth (hK : mdK n tN iN gN) {s e : Nat} (hs : s ≤ 3 ^ n - 1) (he : e < 2 * n) {L : Nat} (hW : rW code L) : ∃ q : (Nat → Int32) × (Nat → Int32), ∀ d (Q : zR → Prop), zK (d + 4) 257 [.ref 54, .int (nI s), .int (nI e)] ((mdl h th to row (nI n) ch now tape tp pt tt ne rd rM code rc (nI L) cR stk ask un und aS aO aW aH ac (fun i => nI (tN i)) (fun s => nI (iN s)) (fun s => nI (gN s)) (fun i => nI (nN i)) (fun i => nI (mN i)) (fun i => nI (rN i)) wy ah late soon yet cir bed stp oO oW win wc rn wer iK kC kep), u) Q = Q (some (.int (wtV now n iN gN code L s e)), ((mdl h th to row (nI n) ch now tape tp pt tt ne rd rM code rc (nI L) cR (q.1) (q.2) un und aS aO aW aH ac (fun i => nI (tN i)) (fun s => nI (iN s)) (fun s => nI (gN s)) (fun i => nI (nN i)) (fun i => nI (mN i)) (fun i => nI (rN i)) wy ah late soon yet cir bed stp oO oW win wc rn wer iK kC kep), u)) := by
  refine zK_ex (k := 4) (f := fun q : (Nat → Int32) × (Nat → Int32) => (some (.int (wtV now n iN gN code L s e)), ((mdl h th to row (nI n) ch now tape tp pt tt ne rd rM code rc (nI L) cR (q.1) (q.2) un und aS aO aW aH ac (fun i => nI (tN i)) (fun s => nI (iN s)) (fun s => nI (gN s)) (fun i => nI (nN i)) (fun i => nI (mN i)) (fun i => nI (rN i)) wy ah late soon yet cir bed stp oO oW win wc rn wer iK kC kep), u))) ?_
  refine zK_in (M := MX11_worth) rfl (Nat.le_of_ble_eq_true rfl) ?_
  show zW 3 MX11_worth 0 ([.ref 54, .int (nI s), .int (nI e), .null], [], ((mdl h th to row (nI n) ch now tape tp pt tt ne rd rM code rc (nI L) cR stk ask un und aS aO aW aH ac (fun i => nI (tN i)) (fun s => nI (iN s)) (fun s => nI (gN s)) (fun i => nI (nN i)) (fun i => nI (mN i)) (fun i => nI (rN i)) wy ah late soon yet cir bed stp oO oW win wc rn wer iK kC kep), u)) _
  have ⟨k1, k2, k3, k4⟩ := id hK
  have h3 := p3_7 k1
  have hp := p3_pos n
  obtain ⟨sk, hr⟩ := m_ruled (u := u) (h := h) (th := th) (to := to) (row := row) (ch := ch) (now := now) (tape := tape) (tp := tp) (pt := pt) (tt := tt) (ne := ne) (rd := rd) (rM := rM) (code := code) (rc := rc) (cR := cR) (stk := stk) (ask := (thU ask (thM now n iN gN s e))) (un := un) (und := und) (aS := aS) (aO := aO) (aW := aW) (aH := aH) (ac := ac) (wy := wy) (ah := ah) (late := late) (soon := soon) (yet := yet) (cir := cir) (bed := bed) (stp := stp) (oO := oO) (oW := oW) (win := win) (wc := wc) (rn := rn) (wer := wer) (iK := iK) (kC := kC) (kep := kep) (n := n) (tN := tN) (iN := iN) (gN := gN) (nN := nN) (mN := mN) (rN := rN) hW
  have eV : rlV (thU ask (thM now n iN gN s e)) code L = rlV (thM now n iN gN s e) code L := rlV_cg hW (thU_at _ _)
  rw [eV] at hr
  have eU : thU ask (thM now n iN gN s e) = upd (upd (upd (upd (upd (upd (upd ask 0 (nI (e / 2))) 1 (now (49 + e / 2))) 2 (nI (1 - e % 2))) 3 (nI (pop (iN s)))) 4 (nI (pop (gN s)))) 5 (nI (pop (iN s) + 2 * pop (gN s)))) 6 (nI (pop (thoV now n (e / 2) 1))) := rfl
  rw [eU] at hr
  have th_ := fun ask Q => c_tho (d := 1) (u := u) (Q := Q) (h := h) (th := th) (to := to) (row := row) (ch := ch) (now := now) (tape := tape) (tp := tp) (pt := pt) (tt := tt) (ne := ne) (rd := rd) (rM := rM) (code := code) (rc := rc) (cL := nI L) (cR := cR) (stk := stk) (ask := ask) (un := un) (und := und) (aS := aS) (aO := aO) (aW := aW) (aH := aH) (ac := ac) (thr := (fun i => nI (tN i))) (ins := (fun s => nI (iN s))) (gon := (fun s => nI (gN s))) (nO := (fun i => nI (nN i))) (mO := (fun i => nI (mN i))) (rO := (fun i => nI (rN i))) (wy := wy) (ah := ah) (late := late) (soon := soon) (yet := yet) (cir := cir) (bed := bed) (stp := stp) (oO := oO) (oW := oW) (win := win) (wc := wc) (rn := rn) (wer := wer) (iK := iK) (kC := kC) (kep := kep) (n := n) (g := e / 2) (v := 1) k1 (by omega)
  have hq := thoV_lt (now := now) k1 (e / 2) 1
  have b1 := fun H Q => c_bc (d := 2) (H := H) (Q := Q) (m := iN s) (k3 s)
  have b2 := fun H Q => c_bc (d := 2) (H := H) (Q := Q) (m := gN s) (k4 s)
  have b3 := fun H Q => c_bc (d := 2) (H := H) (Q := Q) (m := thoV now n (e / 2) 1) hq
  have ev := fun ask Q => m_evT (d := 1) (u := u) (Q := Q) (h := h) (th := th) (to := to) (row := row) (ch := ch) (now := now) (tape := tape) (tp := tp) (pt := pt) (tt := tt) (ne := ne) (rd := rd) (rM := rM) (code := code) (rc := rc) (cL := nI L) (cR := cR) (stk := stk) (ask := ask) (un := un) (und := und) (aS := aS) (aO := aO) (aW := aW) (aH := aH) (ac := ac) (wy := wy) (ah := ah) (late := late) (soon := soon) (yet := yet) (cir := cir) (bed := bed) (stp := stp) (oO := oO) (oW := oW) (win := win) (wc := wc) (rn := rn) (wer := wer) (iK := iK) (kC := kC) (kep := kep) (n := n) (tN := tN) (iN := iN) (gN := gN) (nN := nN) (mN := mN) (rN := rN) (s := s) hK (by omega)
  have d1 : nI e / 2 = nI (e / 2) := pk_div (d := 2) (by omega) (by decide) (by decide)
  have rm : nI e - nI (e / 2 * 2) = nI (e % 2) := by rw [nI_sub (by omega)]; congr 1; omega
  have d2 : (1 : Int32) - nI (e % 2) = nI (1 - e % 2) := nI_sub (a := 1) (by omega)
  simp (disch := first | assumption | omega | decide) only [eX11_worth_0, eX11_worth_1, eX11_worth_2, eX11_worth_3, eX11_worth_4, eX11_worth_5, eX11_worth_8, eX11_worth_9, eX11_worth_10, eX11_worth_11, eX11_worth_12, eX11_worth_15, eX11_worth_16, eX11_worth_17, eX11_worth_20, eX11_worth_22, eX11_worth_23, eX11_worth_24, eX11_worth_25, eX11_worth_26, eX11_worth_27, eX11_worth_30, eX11_worth_31, eX11_worth_32, eX11_worth_33, eX11_worth_34, eX11_worth_35, eX11_worth_36, eX11_worth_37, eX11_worth_38, eX11_worth_41, eX11_worth_42, eX11_worth_43, eX11_worth_46, eX11_worth_47, eX11_worth_48, eX11_worth_51, eX11_worth_52, eX11_worth_53, eX11_worth_56, eX11_worth_57, eX11_worth_58, eX11_worth_61, eX11_worth_62, eX11_worth_63, eX11_worth_66, eX11_worth_67, eX11_worth_68, eX11_worth_71, eX11_worth_72, eX11_worth_73, eX11_worth_74, eX11_worth_77, eX11_worth_78, eX11_worth_79, eX11_worth_82, eX11_worth_84, eX11_worth_85, eX11_worth_86, eX11_worth_87, eX11_worth_90, eX11_worth_93, eX11_worth_94, eX11_worth_96, eX11_worth_98, eX11_worth_99, eX11_worth_102, eX11_worth_105, eX11_worth_108, rX11_worth, zg_aload, zg_bipush, zg_getfield, zg_iadd, zg_iaload, zg_iastore, zg_iconst, zg_idiv, zg_iload, zg_irem, zg_ireturn, zg_is1, zg_istore, zg_isub, zg_iv0, zg_iv1, zg_iv2, zg_mn, zg_mx, q10, q01, q00, ite_self, zLd_i, zLd_l, zLd_a, zInc_i, zGet_o, zGet2_s, zPut_o, zAld_i, zAll_j, zAst_i, zAsl_j, zLen_i, zLen_j, zRt_i, zRt_z, zRl2_l, zRv_n, List.getElem?_cons_zero, List.getElem?_cons_succ, List.length_cons, List.length_nil, z_set, z_set2, z_cut, List.set_cons_zero, List.set_cons_succ, Option.toList_some, Option.toList_none, List.cons_append, List.nil_append, zif, zW_ite, zfit_0, zfit_1, zfit_2, zfit_3, zisc_o, zRt_c, zRt_b, List.map_cons, List.map_nil, List.sum_cons, List.sum_nil, true_and, and_true, if_true, if_false, ite_true, ite_false, Nat.reduceLT, Nat.reduceLeDiff, Nat.reduceAdd, Nat.reduceEqDiff, eq_self, not_true_eq_false, not_false_eq_true, Nat.lt_irrefl, or_true, true_or, or_false, false_or, z_cell_lt, Value.category, ltT, ltF, leT, leF, natT, natF, iltT, iltF, ieqT, ieqF, vpT, cl_nI, q_bit, pow_cell, z_pw_eq, nI_add, nI_mul, nI_m1, nI_dn, nI_dn0, m1_lt, lg_pos, i32_irr, q_shT, ite01, ite00, updL_z, q_upd, Bool.false_eq_true, nI_l2i, jlT_0, jlF_0, jgT_0, jgF_0, jeT_0, jeF_0, jv_0, jc_0, jm_0, jM_0, ja_0, jA_0, jlT_1, jlF_1, jgT_1, jgF_1, jeT_1, jeF_1, jv_1, jc_1, jm_1, jM_1, ja_1, jA_1, jlT_2, jlF_2, jgT_2, jgF_2, jeT_2, jeF_2, jv_2, jc_2, jm_2, jM_2, ja_2, jA_2, jlT_3, jlF_3, jgT_3, jgF_3, jeT_3, jeF_3, jv_3, jc_3, jm_3, jM_3, ja_3, jA_3, jlT_4, jlF_4, jgT_4, jgF_4, jeT_4, jeF_4, jv_4, jc_4, jm_4, jM_4, ja_4, jA_4, jlT_5, jlF_5, jgT_5, jgF_5, jeT_5, jeF_5, jv_5, jc_5, jm_5, jM_5, ja_5, jA_5, jlT_6, jlF_6, jgT_6, jgF_6, jeT_6, jeF_6, jv_6, jc_6, jm_6, jM_6, ja_6, jA_6, jlT_49, jlF_49, jgT_49, jgF_49, jeT_49, jeF_49, jv_49, jc_49, jm_49, jM_49, ja_49, jA_49, jlT_99, jlF_99, jgT_99, jgF_99, jeT_99, jeF_99, jv_99, jc_99, jm_99, jM_99, ja_99, jA_99, M_54, M_ask, S_ask, M_now, M_ins, M_gon, b1, b2, b3, ev, th_, d1, rm, d2, hr, zg_mn, zg_mx, show ((2 : Int32) = 0) = False from by decide]
  exact ⟨(sk, _), rfl⟩
end M20

