/-! copies; one guest more; a sheet; a dream -/
theorem eX9_readSheet_0 {d : Nat} {S : zS} {Q : zR → Prop} : zW d MX9_readSheet 0 S Q = zGo d MX9_readSheet (.iload 3) z0 1 S Q := zW_step (I := .iload_n 3) rfl S Q
theorem eX9_readSheet_1 {d : Nat} {S : zS} {Q : zR → Prop} : zW d MX9_readSheet 1 S Q = zGo d MX9_readSheet (.istore 5) z0 3 S Q := zW_step (I := .istore 5) rfl S Q
theorem eX9_readSheet_3 {d : Nat} {S : zS} {Q : zR → Prop} : zW d MX9_readSheet 3 S Q = zGo d MX9_readSheet (.iconst 0) (zv (.int 0)) 4 S Q := zW_step (I := .iconst 0) rfl S Q
theorem eX9_readSheet_4 {d : Nat} {S : zS} {Q : zR → Prop} : zW d MX9_readSheet 4 S Q = zGo d MX9_readSheet (.istore 6) z0 6 S Q := zW_step (I := .istore 6) rfl S Q
theorem eX9_readSheet_6 {d : Nat} {S : zS} {Q : zR → Prop} : zW d MX9_readSheet 6 S Q = zGo d MX9_readSheet (.iload 6) z0 8 S Q := zW_step (I := .iload 6) rfl S Q
theorem eX9_readSheet_8 {d : Nat} {S : zS} {Q : zR → Prop} : zW d MX9_readSheet 8 S Q = zGo d MX9_readSheet (.aload 0) z0 9 S Q := zW_step (I := .aload_n 0) rfl S Q
theorem eX9_readSheet_9 {d : Nat} {S : zS} {Q : zR → Prop} : zW d MX9_readSheet 9 S Q = zGo d MX9_readSheet (.getfield 21) (zf 0 9 3) 12 S Q := zW_step (I := .getfield 21) rfl S Q
theorem eX9_readSheet_12 {d : Nat} {S : zS} {Q : zR → Prop} : zW d MX9_readSheet 12 S Q = zGo d MX9_readSheet (.if_icmp .ge 69) (zt 81) 15 S Q := zW_step (I := .if_icmp .ge 69) rfl S Q
theorem eX9_readSheet_15 {d : Nat} {S : zS} {Q : zR → Prop} : zW d MX9_readSheet 15 S Q = zGo d MX9_readSheet (.iload 1) z0 16 S Q := zW_step (I := .iload_n 1) rfl S Q
theorem eX9_readSheet_16 {d : Nat} {S : zS} {Q : zR → Prop} : zW d MX9_readSheet 16 S Q = zGo d MX9_readSheet (.ifCond .ne 9) (zt 25) 19 S Q := zW_step (I := .ifCond .ne 9) rfl S Q
theorem eX9_readSheet_19 {d : Nat} {S : zS} {Q : zR → Prop} : zW d MX9_readSheet 19 S Q = zGo d MX9_readSheet (.iload 5) z0 21 S Q := zW_step (I := .iload 5) rfl S Q
theorem eX9_readSheet_21 {d : Nat} {S : zS} {Q : zR → Prop} : zW d MX9_readSheet 21 S Q = zGo d MX9_readSheet (.i2b) z0 22 S Q := zW_step (I := .i2b) rfl S Q
theorem eX9_readSheet_22 {d : Nat} {S : zS} {Q : zR → Prop} : zW d MX9_readSheet 22 S Q = zGo d MX9_readSheet (.goto 16) (zt 38) 25 S Q := zW_step (I := .goto 16) rfl S Q
theorem eX9_readSheet_25 {d : Nat} {S : zS} {Q : zR → Prop} : zW d MX9_readSheet 25 S Q = zGo d MX9_readSheet (.iload 1) z0 26 S Q := zW_step (I := .iload_n 1) rfl S Q
theorem eX9_readSheet_26 {d : Nat} {S : zS} {Q : zR → Prop} : zW d MX9_readSheet 26 S Q = zGo d MX9_readSheet (.iconst 1) (zv (.int 1)) 27 S Q := zW_step (I := .iconst 1) rfl S Q
theorem eX9_readSheet_27 {d : Nat} {S : zS} {Q : zR → Prop} : zW d MX9_readSheet 27 S Q = zGo d MX9_readSheet (.if_icmp .ne 9) (zt 36) 30 S Q := zW_step (I := .if_icmp .ne 9) rfl S Q
theorem eX9_readSheet_30 {d : Nat} {S : zS} {Q : zR → Prop} : zW d MX9_readSheet 30 S Q = zGo d MX9_readSheet (.iload 5) z0 32 S Q := zW_step (I := .iload 5) rfl S Q
theorem eX9_readSheet_32 {d : Nat} {S : zS} {Q : zR → Prop} : zW d MX9_readSheet 32 S Q = zGo d MX9_readSheet (.i2s) z0 33 S Q := zW_step (I := .i2s) rfl S Q
theorem eX9_readSheet_33 {d : Nat} {S : zS} {Q : zR → Prop} : zW d MX9_readSheet 33 S Q = zGo d MX9_readSheet (.goto 5) (zt 38) 36 S Q := zW_step (I := .goto 5) rfl S Q
theorem eX9_readSheet_36 {d : Nat} {S : zS} {Q : zR → Prop} : zW d MX9_readSheet 36 S Q = zGo d MX9_readSheet (.iload 5) z0 38 S Q := zW_step (I := .iload 5) rfl S Q
theorem eX9_readSheet_38 {d : Nat} {S : zS} {Q : zR → Prop} : zW d MX9_readSheet 38 S Q = zGo d MX9_readSheet (.istore 7) z0 40 S Q := zW_step (I := .istore 7) rfl S Q
theorem eX9_readSheet_40 {d : Nat} {S : zS} {Q : zR → Prop} : zW d MX9_readSheet 40 S Q = zGo d MX9_readSheet (.aload 0) z0 41 S Q := zW_step (I := .aload_n 0) rfl S Q
theorem eX9_readSheet_41 {d : Nat} {S : zS} {Q : zR → Prop} : zW d MX9_readSheet 41 S Q = zGo d MX9_readSheet (.getfield 9) (zf 3 9 0) 44 S Q := zW_step (I := .getfield 9) rfl S Q
theorem eX9_readSheet_44 {d : Nat} {S : zS} {Q : zR → Prop} : zW d MX9_readSheet 44 S Q = zGo d MX9_readSheet (.iload 6) z0 46 S Q := zW_step (I := .iload 6) rfl S Q
theorem eX9_readSheet_46 {d : Nat} {S : zS} {Q : zR → Prop} : zW d MX9_readSheet 46 S Q = zGo d MX9_readSheet (.iload 6) z0 48 S Q := zW_step (I := .iload 6) rfl S Q
theorem eX9_readSheet_48 {d : Nat} {S : zS} {Q : zR → Prop} : zW d MX9_readSheet 48 S Q = zGo d MX9_readSheet (.iload 2) z0 49 S Q := zW_step (I := .iload_n 2) rfl S Q
theorem eX9_readSheet_49 {d : Nat} {S : zS} {Q : zR → Prop} : zW d MX9_readSheet 49 S Q = zGo d MX9_readSheet (.if_icmp .ge 17) (zt 66) 52 S Q := zW_step (I := .if_icmp .ge 17) rfl S Q
theorem eX9_readSheet_52 {d : Nat} {S : zS} {Q : zR → Prop} : zW d MX9_readSheet 52 S Q = zGo d MX9_readSheet (.iconst 0) (zv (.int 0)) 53 S Q := zW_step (I := .iconst 0) rfl S Q
theorem eX9_readSheet_53 {d : Nat} {S : zS} {Q : zR → Prop} : zW d MX9_readSheet 53 S Q = zGo d MX9_readSheet (.bipush 9) (zv (.int 9)) 55 S Q := zW_step (I := .bipush 9) rfl S Q
theorem eX9_readSheet_55 {d : Nat} {S : zS} {Q : zR → Prop} : zW d MX9_readSheet 55 S Q = zGo d MX9_readSheet (.iload 7) z0 57 S Q := zW_step (I := .iload 7) rfl S Q
theorem eX9_readSheet_57 {d : Nat} {S : zS} {Q : zR → Prop} : zW d MX9_readSheet 57 S Q = zGo d MX9_readSheet (.invokestatic 61) (zt 995) 60 S Q := zW_step (I := .invokestatic 61) rfl S Q
theorem eX9_readSheet_60 {d : Nat} {S : zS} {Q : zR → Prop} : zW d MX9_readSheet 60 S Q = zGo d MX9_readSheet (.invokestatic 66) (zt 994) 63 S Q := zW_step (I := .invokestatic 66) rfl S Q
theorem eX9_readSheet_63 {d : Nat} {S : zS} {Q : zR → Prop} : zW d MX9_readSheet 63 S Q = zGo d MX9_readSheet (.goto 4) (zt 67) 66 S Q := zW_step (I := .goto 4) rfl S Q
theorem eX9_readSheet_66 {d : Nat} {S : zS} {Q : zR → Prop} : zW d MX9_readSheet 66 S Q = zGo d MX9_readSheet (.iconst 0) (zv (.int 0)) 67 S Q := zW_step (I := .iconst 0) rfl S Q
theorem eX9_readSheet_67 {d : Nat} {S : zS} {Q : zR → Prop} : zW d MX9_readSheet 67 S Q = zGo d MX9_readSheet (.iastore) z0 68 S Q := zW_step (I := .iastore) rfl S Q
theorem eX9_readSheet_68 {d : Nat} {S : zS} {Q : zR → Prop} : zW d MX9_readSheet 68 S Q = zGo d MX9_readSheet (.iload 5) z0 70 S Q := zW_step (I := .iload 5) rfl S Q
theorem eX9_readSheet_70 {d : Nat} {S : zS} {Q : zR → Prop} : zW d MX9_readSheet 70 S Q = zGo d MX9_readSheet (.iload 4) z0 72 S Q := zW_step (I := .iload 4) rfl S Q
theorem eX9_readSheet_72 {d : Nat} {S : zS} {Q : zR → Prop} : zW d MX9_readSheet 72 S Q = zGo d MX9_readSheet (.iadd) z0 73 S Q := zW_step (I := .iadd) rfl S Q
theorem eX9_readSheet_73 {d : Nat} {S : zS} {Q : zR → Prop} : zW d MX9_readSheet 73 S Q = zGo d MX9_readSheet (.istore 5) z0 75 S Q := zW_step (I := .istore 5) rfl S Q
theorem eX9_readSheet_75 {d : Nat} {S : zS} {Q : zR → Prop} : zW d MX9_readSheet 75 S Q = zGo d MX9_readSheet (.iinc 6 1) (zv (.int 1)) 78 S Q := zW_step (I := .iinc 6 1) rfl S Q
theorem eX9_readSheet_78 {d : Nat} {S : zS} {Q : zR → Prop} : zW d MX9_readSheet 78 S Q = zGo d MX9_readSheet (.goto (-72)) (zt 6) 81 S Q := zW_step (I := .goto (-72)) rfl S Q
theorem eX9_readSheet_81 {d : Nat} {S : zS} {Q : zR → Prop} : zW d MX9_readSheet 81 S Q = zGo d MX9_readSheet (.aload 0) z0 82 S Q := zW_step (I := .aload_n 0) rfl S Q
theorem eX9_readSheet_82 {d : Nat} {S : zS} {Q : zR → Prop} : zW d MX9_readSheet 82 S Q = zGo d MX9_readSheet (.dup) z0 83 S Q := zW_step (I := .dup) rfl S Q
theorem eX9_readSheet_83 {d : Nat} {S : zS} {Q : zR → Prop} : zW d MX9_readSheet 83 S Q = zGo d MX9_readSheet (.getfield 29) (zf 0 9 5) 86 S Q := zW_step (I := .getfield 29) rfl S Q
theorem eX9_readSheet_86 {d : Nat} {S : zS} {Q : zR → Prop} : zW d MX9_readSheet 86 S Q = zGo d MX9_readSheet (.iconst 1) (zv (.int 1)) 87 S Q := zW_step (I := .iconst 1) rfl S Q
theorem eX9_readSheet_87 {d : Nat} {S : zS} {Q : zR → Prop} : zW d MX9_readSheet 87 S Q = zGo d MX9_readSheet (.iadd) z0 88 S Q := zW_step (I := .iadd) rfl S Q
theorem eX9_readSheet_88 {d : Nat} {S : zS} {Q : zR → Prop} : zW d MX9_readSheet 88 S Q = zGo d MX9_readSheet (.putfield 29) (zf 0 9 5) 91 S Q := zW_step (I := .putfield 29) rfl S Q
theorem eX9_readSheet_91 {d : Nat} {S : zS} {Q : zR → Prop} : zW d MX9_readSheet 91 S Q = zGo d MX9_readSheet (.return_) z0 92 S Q := zW_step (I := .return_) rfl S Q
theorem rX9_readSheet : MX9_readSheet.2.2.2.2.1 = none := rfl
theorem eX9_likeThat_0 {d : Nat} {S : zS} {Q : zR → Prop} : zW d MX9_likeThat 0 S Q = zGo d MX9_likeThat (.aload 0) z0 1 S Q := zW_step (I := .aload_n 0) rfl S Q
theorem eX9_likeThat_1 {d : Nat} {S : zS} {Q : zR → Prop} : zW d MX9_likeThat 1 S Q = zGo d MX9_likeThat (.aload 1) z0 2 S Q := zW_step (I := .aload_n 1) rfl S Q
theorem eX9_likeThat_2 {d : Nat} {S : zS} {Q : zR → Prop} : zW d MX9_likeThat 2 S Q = zGo d MX9_likeThat (.getfield 21) (zf 0 9 3) 5 S Q := zW_step (I := .getfield 21) rfl S Q
theorem eX9_likeThat_5 {d : Nat} {S : zS} {Q : zR → Prop} : zW d MX9_likeThat 5 S Q = zGo d MX9_likeThat (.putfield 21) (zf 0 9 3) 8 S Q := zW_step (I := .putfield 21) rfl S Q
theorem eX9_likeThat_8 {d : Nat} {S : zS} {Q : zR → Prop} : zW d MX9_likeThat 8 S Q = zGo d MX9_likeThat (.aload 0) z0 9 S Q := zW_step (I := .aload_n 0) rfl S Q
theorem eX9_likeThat_9 {d : Nat} {S : zS} {Q : zR → Prop} : zW d MX9_likeThat 9 S Q = zGo d MX9_likeThat (.aload 1) z0 10 S Q := zW_step (I := .aload_n 1) rfl S Q
theorem eX9_likeThat_10 {d : Nat} {S : zS} {Q : zR → Prop} : zW d MX9_likeThat 10 S Q = zGo d MX9_likeThat (.getfield 57) (zf 2 9 4) 13 S Q := zW_step (I := .getfield 57) rfl S Q
theorem eX9_likeThat_13 {d : Nat} {S : zS} {Q : zR → Prop} : zW d MX9_likeThat 13 S Q = zGo d MX9_likeThat (.putfield 57) (zf 2 9 4) 16 S Q := zW_step (I := .putfield 57) rfl S Q
theorem eX9_likeThat_16 {d : Nat} {S : zS} {Q : zR → Prop} : zW d MX9_likeThat 16 S Q = zGo d MX9_likeThat (.iconst 0) (zv (.int 0)) 17 S Q := zW_step (I := .iconst 0) rfl S Q
theorem eX9_likeThat_17 {d : Nat} {S : zS} {Q : zR → Prop} : zW d MX9_likeThat 17 S Q = zGo d MX9_likeThat (.istore 2) z0 18 S Q := zW_step (I := .istore_n 2) rfl S Q
theorem eX9_likeThat_18 {d : Nat} {S : zS} {Q : zR → Prop} : zW d MX9_likeThat 18 S Q = zGo d MX9_likeThat (.iload 2) z0 19 S Q := zW_step (I := .iload_n 2) rfl S Q
theorem eX9_likeThat_19 {d : Nat} {S : zS} {Q : zR → Prop} : zW d MX9_likeThat 19 S Q = zGo d MX9_likeThat (.bipush 7) (zv (.int 7)) 21 S Q := zW_step (I := .bipush 7) rfl S Q
theorem eX9_likeThat_21 {d : Nat} {S : zS} {Q : zR → Prop} : zW d MX9_likeThat 21 S Q = zGo d MX9_likeThat (.if_icmp .ge 45) (zt 66) 24 S Q := zW_step (I := .if_icmp .ge 45) rfl S Q
theorem eX9_likeThat_24 {d : Nat} {S : zS} {Q : zR → Prop} : zW d MX9_likeThat 24 S Q = zGo d MX9_likeThat (.aload 0) z0 25 S Q := zW_step (I := .aload_n 0) rfl S Q
theorem eX9_likeThat_25 {d : Nat} {S : zS} {Q : zR → Prop} : zW d MX9_likeThat 25 S Q = zGo d MX9_likeThat (.getfield 9) (zf 3 9 0) 28 S Q := zW_step (I := .getfield 9) rfl S Q
theorem eX9_likeThat_28 {d : Nat} {S : zS} {Q : zR → Prop} : zW d MX9_likeThat 28 S Q = zGo d MX9_likeThat (.iload 2) z0 29 S Q := zW_step (I := .iload_n 2) rfl S Q
theorem eX9_likeThat_29 {d : Nat} {S : zS} {Q : zR → Prop} : zW d MX9_likeThat 29 S Q = zGo d MX9_likeThat (.aload 1) z0 30 S Q := zW_step (I := .aload_n 1) rfl S Q
theorem eX9_likeThat_30 {d : Nat} {S : zS} {Q : zR → Prop} : zW d MX9_likeThat 30 S Q = zGo d MX9_likeThat (.getfield 9) (zf 3 9 0) 33 S Q := zW_step (I := .getfield 9) rfl S Q
theorem eX9_likeThat_33 {d : Nat} {S : zS} {Q : zR → Prop} : zW d MX9_likeThat 33 S Q = zGo d MX9_likeThat (.iload 2) z0 34 S Q := zW_step (I := .iload_n 2) rfl S Q
theorem eX9_likeThat_34 {d : Nat} {S : zS} {Q : zR → Prop} : zW d MX9_likeThat 34 S Q = zGo d MX9_likeThat (.iaload) z0 35 S Q := zW_step (I := .iaload) rfl S Q
theorem eX9_likeThat_35 {d : Nat} {S : zS} {Q : zR → Prop} : zW d MX9_likeThat 35 S Q = zGo d MX9_likeThat (.iastore) z0 36 S Q := zW_step (I := .iastore) rfl S Q
theorem eX9_likeThat_36 {d : Nat} {S : zS} {Q : zR → Prop} : zW d MX9_likeThat 36 S Q = zGo d MX9_likeThat (.aload 0) z0 37 S Q := zW_step (I := .aload_n 0) rfl S Q
theorem eX9_likeThat_37 {d : Nat} {S : zS} {Q : zR → Prop} : zW d MX9_likeThat 37 S Q = zGo d MX9_likeThat (.getfield 15) (zf 3 9 1) 40 S Q := zW_step (I := .getfield 15) rfl S Q
theorem eX9_likeThat_40 {d : Nat} {S : zS} {Q : zR → Prop} : zW d MX9_likeThat 40 S Q = zGo d MX9_likeThat (.iload 2) z0 41 S Q := zW_step (I := .iload_n 2) rfl S Q
theorem eX9_likeThat_41 {d : Nat} {S : zS} {Q : zR → Prop} : zW d MX9_likeThat 41 S Q = zGo d MX9_likeThat (.aload 1) z0 42 S Q := zW_step (I := .aload_n 1) rfl S Q
theorem eX9_likeThat_42 {d : Nat} {S : zS} {Q : zR → Prop} : zW d MX9_likeThat 42 S Q = zGo d MX9_likeThat (.getfield 15) (zf 3 9 1) 45 S Q := zW_step (I := .getfield 15) rfl S Q
theorem eX9_likeThat_45 {d : Nat} {S : zS} {Q : zR → Prop} : zW d MX9_likeThat 45 S Q = zGo d MX9_likeThat (.iload 2) z0 46 S Q := zW_step (I := .iload_n 2) rfl S Q
theorem eX9_likeThat_46 {d : Nat} {S : zS} {Q : zR → Prop} : zW d MX9_likeThat 46 S Q = zGo d MX9_likeThat (.iaload) z0 47 S Q := zW_step (I := .iaload) rfl S Q
theorem eX9_likeThat_47 {d : Nat} {S : zS} {Q : zR → Prop} : zW d MX9_likeThat 47 S Q = zGo d MX9_likeThat (.iastore) z0 48 S Q := zW_step (I := .iastore) rfl S Q
theorem eX9_likeThat_48 {d : Nat} {S : zS} {Q : zR → Prop} : zW d MX9_likeThat 48 S Q = zGo d MX9_likeThat (.aload 0) z0 49 S Q := zW_step (I := .aload_n 0) rfl S Q
theorem eX9_likeThat_49 {d : Nat} {S : zS} {Q : zR → Prop} : zW d MX9_likeThat 49 S Q = zGo d MX9_likeThat (.getfield 18) (zf 3 9 2) 52 S Q := zW_step (I := .getfield 18) rfl S Q
theorem eX9_likeThat_52 {d : Nat} {S : zS} {Q : zR → Prop} : zW d MX9_likeThat 52 S Q = zGo d MX9_likeThat (.iload 2) z0 53 S Q := zW_step (I := .iload_n 2) rfl S Q
theorem eX9_likeThat_53 {d : Nat} {S : zS} {Q : zR → Prop} : zW d MX9_likeThat 53 S Q = zGo d MX9_likeThat (.aload 1) z0 54 S Q := zW_step (I := .aload_n 1) rfl S Q
theorem eX9_likeThat_54 {d : Nat} {S : zS} {Q : zR → Prop} : zW d MX9_likeThat 54 S Q = zGo d MX9_likeThat (.getfield 18) (zf 3 9 2) 57 S Q := zW_step (I := .getfield 18) rfl S Q
theorem eX9_likeThat_57 {d : Nat} {S : zS} {Q : zR → Prop} : zW d MX9_likeThat 57 S Q = zGo d MX9_likeThat (.iload 2) z0 58 S Q := zW_step (I := .iload_n 2) rfl S Q
theorem eX9_likeThat_58 {d : Nat} {S : zS} {Q : zR → Prop} : zW d MX9_likeThat 58 S Q = zGo d MX9_likeThat (.iaload) z0 59 S Q := zW_step (I := .iaload) rfl S Q
theorem eX9_likeThat_59 {d : Nat} {S : zS} {Q : zR → Prop} : zW d MX9_likeThat 59 S Q = zGo d MX9_likeThat (.iastore) z0 60 S Q := zW_step (I := .iastore) rfl S Q
theorem eX9_likeThat_60 {d : Nat} {S : zS} {Q : zR → Prop} : zW d MX9_likeThat 60 S Q = zGo d MX9_likeThat (.iinc 2 1) (zv (.int 1)) 63 S Q := zW_step (I := .iinc 2 1) rfl S Q
theorem eX9_likeThat_63 {d : Nat} {S : zS} {Q : zR → Prop} : zW d MX9_likeThat 63 S Q = zGo d MX9_likeThat (.goto (-45)) (zt 18) 66 S Q := zW_step (I := .goto (-45)) rfl S Q
theorem eX9_likeThat_66 {d : Nat} {S : zS} {Q : zR → Prop} : zW d MX9_likeThat 66 S Q = zGo d MX9_likeThat (.aload 0) z0 67 S Q := zW_step (I := .aload_n 0) rfl S Q
theorem eX9_likeThat_67 {d : Nat} {S : zS} {Q : zR → Prop} : zW d MX9_likeThat 67 S Q = zGo d MX9_likeThat (.dup) z0 68 S Q := zW_step (I := .dup) rfl S Q
theorem eX9_likeThat_68 {d : Nat} {S : zS} {Q : zR → Prop} : zW d MX9_likeThat 68 S Q = zGo d MX9_likeThat (.getfield 29) (zf 0 9 5) 71 S Q := zW_step (I := .getfield 29) rfl S Q
theorem eX9_likeThat_71 {d : Nat} {S : zS} {Q : zR → Prop} : zW d MX9_likeThat 71 S Q = zGo d MX9_likeThat (.iconst 1) (zv (.int 1)) 72 S Q := zW_step (I := .iconst 1) rfl S Q
theorem eX9_likeThat_72 {d : Nat} {S : zS} {Q : zR → Prop} : zW d MX9_likeThat 72 S Q = zGo d MX9_likeThat (.iadd) z0 73 S Q := zW_step (I := .iadd) rfl S Q
theorem eX9_likeThat_73 {d : Nat} {S : zS} {Q : zR → Prop} : zW d MX9_likeThat 73 S Q = zGo d MX9_likeThat (.putfield 29) (zf 0 9 5) 76 S Q := zW_step (I := .putfield 29) rfl S Q
theorem eX9_likeThat_76 {d : Nat} {S : zS} {Q : zR → Prop} : zW d MX9_likeThat 76 S Q = zGo d MX9_likeThat (.return_) z0 77 S Q := zW_step (I := .return_) rfl S Q
theorem rX9_likeThat : MX9_likeThat.2.2.2.2.1 = none := rfl
/-- what a sheet's entry puts a ROOM to -/
def shNum (kind : Int32) (e : Int32) : Int32 := if kind = 0 then e.toInt8.toInt32 else if kind = 1 then e.toInt16.toInt32 else e
def clamp9 (x : Int32) : Nat := if x < 0 then 0 else if 9 < x then 9 else x.toNatClampNeg
theorem clamp9_le (x : Int32) : clamp9 x ≤ 9 := by
  unfold clamp9
  split
  · decide
  · split
    · decide
    · rename_i c1 c2
      obtain ⟨j, hj, rfl⟩ := nI_of c1
      rw [nI_clamp hj]
      rw [show (9 : Int32) = nI 9 from rfl, nI_ult (by omega) hj] at c2
      omega
theorem clamp9_eq (x : Int32) : (if (0 : Int32) < (if x < 9 then x else 9) then (if x < 9 then x else 9) else 0) = nI (clamp9 x) := by
  unfold clamp9
  by_cases c1 : x < 0
  · rw [if_pos c1]
    have c2 : x < 9 := by
      rw [fa_lt] at c1 ⊢
      have : (0 : Int32).toInt = 0 := rfl
      have : (9 : Int32).toInt = 9 := rfl
      omega
    rw [if_pos c2]
    have c3 : ¬ (0 : Int32) < x := by
      rw [fa_lt] at c1 ⊢
      omega
    rw [if_neg c3]
    rfl
  · rw [if_neg c1]
    obtain ⟨j, hj, rfl⟩ := nI_of c1
    rw [nI_clamp hj, show (9 : Int32) = nI 9 from rfl, show (0 : Int32) = nI 0 from rfl]
    simp only [nI_ult hj (show 9 < 2 ^ 31 by decide), nI_ult (show 9 < 2 ^ 31 by decide) hj]
    by_cases c2 : j < 9
    · simp only [c2, if_true, nI_ult (show 0 < 2 ^ 31 by decide) hj, show ¬ 9 < j by omega, if_false]
      by_cases c3 : 0 < j
      · rw [if_pos c3]
      · rw [if_neg c3, show j = 0 by omega]
    · simp only [c2, if_false, nI_ult (show 0 < 2 ^ 31 by decide) (show 9 < 2 ^ 31 by decide)]
      by_cases c3 : 9 < j
      · simp [c3]
      · rw [show j = 9 by omega]; simp
def shF (kind nn f step : Int32) (rm : Nat → Nat) : Nat → Nat → Nat
  | 0 => rm
  | k + 1 => z_up (shF kind nn f step rm k) k (if nI k < nn then clamp9 (shNum kind (f + nI k * step)) else 0)
theorem shF_le {kind nn f step : Int32} {rm : Nat → Nat} (hr : ∀ i, rm i ≤ 9) : ∀ k i, shF kind nn f step rm k i ≤ 9 := by
  intro k
  induction k with
  | zero => exact hr
  | succ k ih =>
    intro i
    unfold shF z_up
    split
    · split
      · exact clamp9_le _
      · omega
    · exact ih i
theorem q_step (f step : Int32) (k : Nat) : f + nI k * step + step = f + nI (k + 1) * step := by
  rw [← nI_1, Int32.add_assoc]
  congr 1
  rw [Int32.add_mul, Int32.one_mul]
section COPY
variable {h : Nat → zE} {a b n N : Nat} {rm mt nt : Nat → Nat} {fm : Bool} {vr : Int32} {d : Nat} {u : zU} {H : zH} {Q : zR → Prop} {F : Nat → Int64}
theorem c_copy_no (hT : toldAt h b n rm mt nt fm vr) {g k : Int32} (hno : hasB n g = false ∨ hasB n k = false ∨ g = k) : zK (d + 3) 117 [.ref b, .int g, .int k] (h, u) Q = Q (some (.int (-1)), (h, u)) := by
  obtain ⟨hb, h0, -⟩ := id hT
  have hb0 : b < 1000 := by omega
  refine zK_of (k := 3) (by omega) ?_
  refine zK_in (M := MX9_copy) rfl (Nat.le_of_ble_eq_true rfl) ?_
  show zW 2 MX9_copy 0 ([.ref b, .int g, .int k, .null, .null], [], (h, u)) _
  rcases hno with c | c | c
  · simp only [eX9_copy_0, eX9_copy_1, eX9_copy_2, eX9_copy_3, eX9_copy_6, eX9_copy_9, eX9_copy_10, eX9_copy_11, eX9_copy_12, eX9_copy_13, eX9_copy_14, eX9_copy_18, eX9_copy_19, eX9_copy_22, eX9_copy_25, eX9_copy_27, eX9_copy_28, eX9_copy_31, eX9_copy_33, eX9_copy_34, eX9_copy_37, eX9_copy_38, eX9_copy_39, eX9_copy_41, eX9_copy_44, eX9_copy_45, eX9_copy_46, eX9_copy_48, eX9_copy_51, eX9_copy_54, eX9_copy_55, eX9_copy_56, eX9_copy_58, eX9_copy_59, eX9_copy_60, eX9_copy_62, eX9_copy_65, eX9_copy_68, eX9_copy_71, eX9_copy_74, eX9_copy_77, eX9_copy_78, eX9_copy_81, eX9_copy_83, eX9_copy_86, eX9_copy_87, rX9_copy, zg_aload, zg_bipush, zg_getfield, zg_goto, zg_icmp, zg_iconst, zg_if, zg_iinc, zg_iload, zg_ireturn, zg_istore, zg_iv2, zg_iv3, q10, q01, q00, ite_self, zLd_i, zLd_l, zLd_a, zInc_i, zGet_o, zGet2_s, zPut_o, zAld_i, zAll_j, zAst_i, zAsl_j, zLen_i, zLen_j, zRt_i, zRt_z, zRl2_l, zRv_n, List.getElem?_cons_zero, List.getElem?_cons_succ, List.length_cons, List.length_nil, z_set, z_set2, z_cut, List.set_cons_zero, List.set_cons_succ, Option.toList_some, Option.toList_none, List.cons_append, List.nil_append, zif, zW_ite, zfit_0, zfit_1, zfit_2, zfit_3, zisc_o, zRt_c, zRt_b, List.map_cons, List.map_nil, List.sum_cons, List.sum_nil, true_and, and_true, if_true, if_false, ite_true, ite_false, Nat.reduceLT, Nat.reduceLeDiff, Nat.reduceAdd, Nat.reduceEqDiff, eq_self, not_true_eq_false, not_false_eq_true, Nat.lt_irrefl, or_true, true_or, or_false, false_or, z_cell_lt, Value.category, h0, hb0, c_areTwo hT, c, Bool.false_and, Bool.and_false, Bool.false_eq_true]
  · simp only [eX9_copy_0, eX9_copy_1, eX9_copy_2, eX9_copy_3, eX9_copy_6, eX9_copy_9, eX9_copy_10, eX9_copy_11, eX9_copy_12, eX9_copy_13, eX9_copy_14, eX9_copy_18, eX9_copy_19, eX9_copy_22, eX9_copy_25, eX9_copy_27, eX9_copy_28, eX9_copy_31, eX9_copy_33, eX9_copy_34, eX9_copy_37, eX9_copy_38, eX9_copy_39, eX9_copy_41, eX9_copy_44, eX9_copy_45, eX9_copy_46, eX9_copy_48, eX9_copy_51, eX9_copy_54, eX9_copy_55, eX9_copy_56, eX9_copy_58, eX9_copy_59, eX9_copy_60, eX9_copy_62, eX9_copy_65, eX9_copy_68, eX9_copy_71, eX9_copy_74, eX9_copy_77, eX9_copy_78, eX9_copy_81, eX9_copy_83, eX9_copy_86, eX9_copy_87, rX9_copy, zg_aload, zg_bipush, zg_getfield, zg_goto, zg_icmp, zg_iconst, zg_if, zg_iinc, zg_iload, zg_ireturn, zg_istore, zg_iv2, zg_iv3, q10, q01, q00, ite_self, zLd_i, zLd_l, zLd_a, zInc_i, zGet_o, zGet2_s, zPut_o, zAld_i, zAll_j, zAst_i, zAsl_j, zLen_i, zLen_j, zRt_i, zRt_z, zRl2_l, zRv_n, List.getElem?_cons_zero, List.getElem?_cons_succ, List.length_cons, List.length_nil, z_set, z_set2, z_cut, List.set_cons_zero, List.set_cons_succ, Option.toList_some, Option.toList_none, List.cons_append, List.nil_append, zif, zW_ite, zfit_0, zfit_1, zfit_2, zfit_3, zisc_o, zRt_c, zRt_b, List.map_cons, List.map_nil, List.sum_cons, List.sum_nil, true_and, and_true, if_true, if_false, ite_true, ite_false, Nat.reduceLT, Nat.reduceLeDiff, Nat.reduceAdd, Nat.reduceEqDiff, eq_self, not_true_eq_false, not_false_eq_true, Nat.lt_irrefl, or_true, true_or, or_false, false_or, z_cell_lt, Value.category, h0, hb0, c_areTwo hT, c, Bool.false_and, Bool.and_false, Bool.false_eq_true]
  · simp only [eX9_copy_0, eX9_copy_1, eX9_copy_2, eX9_copy_3, eX9_copy_6, eX9_copy_9, eX9_copy_10, eX9_copy_11, eX9_copy_12, eX9_copy_13, eX9_copy_14, eX9_copy_18, eX9_copy_19, eX9_copy_22, eX9_copy_25, eX9_copy_27, eX9_copy_28, eX9_copy_31, eX9_copy_33, eX9_copy_34, eX9_copy_37, eX9_copy_38, eX9_copy_39, eX9_copy_41, eX9_copy_44, eX9_copy_45, eX9_copy_46, eX9_copy_48, eX9_copy_51, eX9_copy_54, eX9_copy_55, eX9_copy_56, eX9_copy_58, eX9_copy_59, eX9_copy_60, eX9_copy_62, eX9_copy_65, eX9_copy_68, eX9_copy_71, eX9_copy_74, eX9_copy_77, eX9_copy_78, eX9_copy_81, eX9_copy_83, eX9_copy_86, eX9_copy_87, rX9_copy, zg_aload, zg_bipush, zg_getfield, zg_goto, zg_icmp, zg_iconst, zg_if, zg_iinc, zg_iload, zg_ireturn, zg_istore, zg_iv2, zg_iv3, q10, q01, q00, ite_self, zLd_i, zLd_l, zLd_a, zInc_i, zGet_o, zGet2_s, zPut_o, zAld_i, zAll_j, zAst_i, zAsl_j, zLen_i, zLen_j, zRt_i, zRt_z, zRl2_l, zRv_n, List.getElem?_cons_zero, List.getElem?_cons_succ, List.length_cons, List.length_nil, z_set, z_set2, z_cut, List.set_cons_zero, List.set_cons_succ, Option.toList_some, Option.toList_none, List.cons_append, List.nil_append, zif, zW_ite, zfit_0, zfit_1, zfit_2, zfit_3, zisc_o, zRt_c, zRt_b, List.map_cons, List.map_nil, List.sum_cons, List.sum_nil, true_and, and_true, if_true, if_false, ite_true, ite_false, Nat.reduceLT, Nat.reduceLeDiff, Nat.reduceAdd, Nat.reduceEqDiff, eq_self, not_true_eq_false, not_false_eq_true, Nat.lt_irrefl, or_true, true_or, or_false, false_or, z_cell_lt, Value.category, h0, hb0, c_areTwo hT, c, Bool.false_and, Bool.and_false, Bool.false_eq_true, decide_false]
theorem w_copy (hT : toldAt h b n rm mt nt fm vr) {i j : Nat} (hi : i < n) (hj : j < n) (hij : i ≠ j) : ∀ k o, n - o = k → o ≤ n → zW (d + 2) MX9_copy 16 ([.ref b, .int (nI i), .int (nI j), .int (nI (cpM mt nt i j o).2.2), .int (nI o)], [], (toldSet h b n rm (cpM mt nt i j o).1 (cpM mt nt i j o).2.1 fm (vr + nI (cpM mt nt i j o).2.2), u)) (fun q => q = (some (.int (if (cpM mt nt i j n).2.2 = 0 then -2 else nI (cpM mt nt i j n).2.2)), (toldSet h b n rm (cpM mt nt i j n).1 (cpM mt nt i j n).2.1 fm (vr + nI (cpM mt nt i j n).2.2), u))) := by
  obtain ⟨hb, h0, h1, h2, h3, hn, hr, hm, ht⟩ := id hT
  have hb0 : b < 1000 := by omega
  intro k
  induction k with
  | zero =>
    intro o ho hle
    have e : o = n := by omega
    subst e
    obtain ⟨-, -, b3⟩ := cpM_ok (i := i) hm ht (show j < 7 by omega) o (by omega)
    have q0 : (nI (cpM mt nt i j o).2.2 = 0) = ((cpM mt nt i j o).2.2 = 0) := nI_eqI (b := 0) (by omega) (by omega)
    rw [eX9_copy_16]
    by_cases c : (cpM mt nt i j o).2.2 = 0
    · simp only [eX9_copy_0, eX9_copy_1, eX9_copy_2, eX9_copy_3, eX9_copy_6, eX9_copy_9, eX9_copy_10, eX9_copy_11, eX9_copy_12, eX9_copy_13, eX9_copy_14, eX9_copy_18, eX9_copy_19, eX9_copy_22, eX9_copy_25, eX9_copy_27, eX9_copy_28, eX9_copy_31, eX9_copy_33, eX9_copy_34, eX9_copy_37, eX9_copy_38, eX9_copy_39, eX9_copy_41, eX9_copy_44, eX9_copy_45, eX9_copy_46, eX9_copy_48, eX9_copy_51, eX9_copy_54, eX9_copy_55, eX9_copy_56, eX9_copy_58, eX9_copy_59, eX9_copy_60, eX9_copy_62, eX9_copy_65, eX9_copy_68, eX9_copy_71, eX9_copy_74, eX9_copy_77, eX9_copy_78, eX9_copy_81, eX9_copy_83, eX9_copy_86, eX9_copy_87, rX9_copy, zg_aload, zg_bipush, zg_getfield, zg_goto, zg_icmp, zg_iconst, zg_if, zg_iinc, zg_iload, zg_ireturn, zg_istore, zg_iv2, zg_iv3, q10, q01, q00, ite_self, zLd_i, zLd_l, zLd_a, zInc_i, zGet_o, zGet2_s, zPut_o, zAld_i, zAll_j, zAst_i, zAsl_j, zLen_i, zLen_j, zRt_i, zRt_z, zRl2_l, zRv_n, List.getElem?_cons_zero, List.getElem?_cons_succ, List.length_cons, List.length_nil, z_set, z_set2, z_cut, List.set_cons_zero, List.set_cons_succ, Option.toList_some, Option.toList_none, List.cons_append, List.nil_append, zif, zW_ite, zfit_0, zfit_1, zfit_2, zfit_3, zisc_o, zRt_c, zRt_b, List.map_cons, List.map_nil, List.sum_cons, List.sum_nil, true_and, and_true, if_true, if_false, ite_true, ite_false, Nat.reduceLT, Nat.reduceLeDiff, Nat.reduceAdd, Nat.reduceEqDiff, eq_self, not_true_eq_false, not_false_eq_true, Nat.lt_irrefl, or_true, true_or, or_false, false_or, z_cell_lt, Value.category, toldSet_b, hb0, Int32.lt_irrefl, q0, c, nI_0]
    · simp only [eX9_copy_0, eX9_copy_1, eX9_copy_2, eX9_copy_3, eX9_copy_6, eX9_copy_9, eX9_copy_10, eX9_copy_11, eX9_copy_12, eX9_copy_13, eX9_copy_14, eX9_copy_18, eX9_copy_19, eX9_copy_22, eX9_copy_25, eX9_copy_27, eX9_copy_28, eX9_copy_31, eX9_copy_33, eX9_copy_34, eX9_copy_37, eX9_copy_38, eX9_copy_39, eX9_copy_41, eX9_copy_44, eX9_copy_45, eX9_copy_46, eX9_copy_48, eX9_copy_51, eX9_copy_54, eX9_copy_55, eX9_copy_56, eX9_copy_58, eX9_copy_59, eX9_copy_60, eX9_copy_62, eX9_copy_65, eX9_copy_68, eX9_copy_71, eX9_copy_74, eX9_copy_77, eX9_copy_78, eX9_copy_81, eX9_copy_83, eX9_copy_86, eX9_copy_87, rX9_copy, zg_aload, zg_bipush, zg_getfield, zg_goto, zg_icmp, zg_iconst, zg_if, zg_iinc, zg_iload, zg_ireturn, zg_istore, zg_iv2, zg_iv3, q10, q01, q00, ite_self, zLd_i, zLd_l, zLd_a, zInc_i, zGet_o, zGet2_s, zPut_o, zAld_i, zAll_j, zAst_i, zAsl_j, zLen_i, zLen_j, zRt_i, zRt_z, zRl2_l, zRv_n, List.getElem?_cons_zero, List.getElem?_cons_succ, List.length_cons, List.length_nil, z_set, z_set2, z_cut, List.set_cons_zero, List.set_cons_succ, Option.toList_some, Option.toList_none, List.cons_append, List.nil_append, zif, zW_ite, zfit_0, zfit_1, zfit_2, zfit_3, zisc_o, zRt_c, zRt_b, List.map_cons, List.map_nil, List.sum_cons, List.sum_nil, true_and, and_true, if_true, if_false, ite_true, ite_false, Nat.reduceLT, Nat.reduceLeDiff, Nat.reduceAdd, Nat.reduceEqDiff, eq_self, not_true_eq_false, not_false_eq_true, Nat.lt_irrefl, or_true, true_or, or_false, false_or, z_cell_lt, Value.category, toldSet_b, hb0, Int32.lt_irrefl, q0, c]
  | succ k ih =>
    intro o ho hle
    have hlt : o < n := by omega
    have c1 : nI o < nI n := nI_lt hlt (by omega)
    have ih := ih (o + 1) (by omega) (by omega)
    obtain ⟨b1, b2, b3⟩ := cpM_ok (i := i) hm ht (show j < 7 by omega) o (by omega)
    have hTk := toldSet_at (h := h) (b := b) (n := n) (rm := rm) (fm := fm) (vr := vr + nI (cpM mt nt i j o).2.2) hb hn hr b1 b2
    rw [eX9_copy_16]
    rw [show cpM mt nt i j (o + 1) = if o = i ∨ o = j ∨ abt (cpM mt nt i j o).1 (cpM mt nt i j o).2.1 i o = abt (cpM mt nt i j o).1 (cpM mt nt i j o).2.1 j o then cpM mt nt i j o else (putM (cpM mt nt i j o).1 j o (decide (abt (cpM mt nt i j o).1 (cpM mt nt i j o).2.1 i o = 1)), putM (cpM mt nt i j o).2.1 j o (decide (abt (cpM mt nt i j o).1 (cpM mt nt i j o).2.1 i o = 0)), (cpM mt nt i j o).2.2 + 1) from rfl] at ih
    generalize cpM mt nt i j o = s at *
    obtain ⟨mt1, nt1, c⟩ := s
    simp only at b1 b2 b3 hTk ih ⊢
    have a1 := abt_le mt1 nt1 i o
    have a2 := abt_le mt1 nt1 j o
    by_cases ci : o = i
    · rw [if_pos (Or.inl ci)] at ih
      subst ci
      simp only [eX9_copy_0, eX9_copy_1, eX9_copy_2, eX9_copy_3, eX9_copy_6, eX9_copy_9, eX9_copy_10, eX9_copy_11, eX9_copy_12, eX9_copy_13, eX9_copy_14, eX9_copy_18, eX9_copy_19, eX9_copy_22, eX9_copy_25, eX9_copy_27, eX9_copy_28, eX9_copy_31, eX9_copy_33, eX9_copy_34, eX9_copy_37, eX9_copy_38, eX9_copy_39, eX9_copy_41, eX9_copy_44, eX9_copy_45, eX9_copy_46, eX9_copy_48, eX9_copy_51, eX9_copy_54, eX9_copy_55, eX9_copy_56, eX9_copy_58, eX9_copy_59, eX9_copy_60, eX9_copy_62, eX9_copy_65, eX9_copy_68, eX9_copy_71, eX9_copy_74, eX9_copy_77, eX9_copy_78, eX9_copy_81, eX9_copy_83, eX9_copy_86, eX9_copy_87, rX9_copy, zg_aload, zg_bipush, zg_getfield, zg_goto, zg_icmp, zg_iconst, zg_if, zg_iinc, zg_iload, zg_ireturn, zg_istore, zg_iv2, zg_iv3, q10, q01, q00, ite_self, zLd_i, zLd_l, zLd_a, zInc_i, zGet_o, zGet2_s, zPut_o, zAld_i, zAll_j, zAst_i, zAsl_j, zLen_i, zLen_j, zRt_i, zRt_z, zRl2_l, zRv_n, List.getElem?_cons_zero, List.getElem?_cons_succ, List.length_cons, List.length_nil, z_set, z_set2, z_cut, List.set_cons_zero, List.set_cons_succ, Option.toList_some, Option.toList_none, List.cons_append, List.nil_append, zif, zW_ite, zfit_0, zfit_1, zfit_2, zfit_3, zisc_o, zRt_c, zRt_b, List.map_cons, List.map_nil, List.sum_cons, List.sum_nil, true_and, and_true, if_true, if_false, ite_true, ite_false, Nat.reduceLT, Nat.reduceLeDiff, Nat.reduceAdd, Nat.reduceEqDiff, eq_self, not_true_eq_false, not_false_eq_true, Nat.lt_irrefl, or_true, true_or, or_false, false_or, z_cell_lt, Value.category, toldSet_b, hb0, c1, nI_1]
      exact ih
    · have x1 : ¬ nI o = nI i := by rw [nI_eqI (by omega) (by omega)]; exact ci
      by_cases cj : o = j
      · rw [if_pos (Or.inr (Or.inl cj))] at ih
        subst cj
        simp only [eX9_copy_0, eX9_copy_1, eX9_copy_2, eX9_copy_3, eX9_copy_6, eX9_copy_9, eX9_copy_10, eX9_copy_11, eX9_copy_12, eX9_copy_13, eX9_copy_14, eX9_copy_18, eX9_copy_19, eX9_copy_22, eX9_copy_25, eX9_copy_27, eX9_copy_28, eX9_copy_31, eX9_copy_33, eX9_copy_34, eX9_copy_37, eX9_copy_38, eX9_copy_39, eX9_copy_41, eX9_copy_44, eX9_copy_45, eX9_copy_46, eX9_copy_48, eX9_copy_51, eX9_copy_54, eX9_copy_55, eX9_copy_56, eX9_copy_58, eX9_copy_59, eX9_copy_60, eX9_copy_62, eX9_copy_65, eX9_copy_68, eX9_copy_71, eX9_copy_74, eX9_copy_77, eX9_copy_78, eX9_copy_81, eX9_copy_83, eX9_copy_86, eX9_copy_87, rX9_copy, zg_aload, zg_bipush, zg_getfield, zg_goto, zg_icmp, zg_iconst, zg_if, zg_iinc, zg_iload, zg_ireturn, zg_istore, zg_iv2, zg_iv3, q10, q01, q00, ite_self, zLd_i, zLd_l, zLd_a, zInc_i, zGet_o, zGet2_s, zPut_o, zAld_i, zAll_j, zAst_i, zAsl_j, zLen_i, zLen_j, zRt_i, zRt_z, zRl2_l, zRv_n, List.getElem?_cons_zero, List.getElem?_cons_succ, List.length_cons, List.length_nil, z_set, z_set2, z_cut, List.set_cons_zero, List.set_cons_succ, Option.toList_some, Option.toList_none, List.cons_append, List.nil_append, zif, zW_ite, zfit_0, zfit_1, zfit_2, zfit_3, zisc_o, zRt_c, zRt_b, List.map_cons, List.map_nil, List.sum_cons, List.sum_nil, true_and, and_true, if_true, if_false, ite_true, ite_false, Nat.reduceLT, Nat.reduceLeDiff, Nat.reduceAdd, Nat.reduceEqDiff, eq_self, not_true_eq_false, not_false_eq_true, Nat.lt_irrefl, or_true, true_or, or_false, false_or, z_cell_lt, Value.category, toldSet_b, hb0, c1, nI_1, x1]
        exact ih
      · have x2 : ¬ nI o = nI j := by rw [nI_eqI (by omega) (by omega)]; exact cj
        by_cases ca : abt mt1 nt1 i o = abt mt1 nt1 j o
        · rw [if_pos (Or.inr (Or.inr ca))] at ih
          simp only [eX9_copy_0, eX9_copy_1, eX9_copy_2, eX9_copy_3, eX9_copy_6, eX9_copy_9, eX9_copy_10, eX9_copy_11, eX9_copy_12, eX9_copy_13, eX9_copy_14, eX9_copy_18, eX9_copy_19, eX9_copy_22, eX9_copy_25, eX9_copy_27, eX9_copy_28, eX9_copy_31, eX9_copy_33, eX9_copy_34, eX9_copy_37, eX9_copy_38, eX9_copy_39, eX9_copy_41, eX9_copy_44, eX9_copy_45, eX9_copy_46, eX9_copy_48, eX9_copy_51, eX9_copy_54, eX9_copy_55, eX9_copy_56, eX9_copy_58, eX9_copy_59, eX9_copy_60, eX9_copy_62, eX9_copy_65, eX9_copy_68, eX9_copy_71, eX9_copy_74, eX9_copy_77, eX9_copy_78, eX9_copy_81, eX9_copy_83, eX9_copy_86, eX9_copy_87, rX9_copy, zg_aload, zg_bipush, zg_getfield, zg_goto, zg_icmp, zg_iconst, zg_if, zg_iinc, zg_iload, zg_ireturn, zg_istore, zg_iv2, zg_iv3, q10, q01, q00, ite_self, zLd_i, zLd_l, zLd_a, zInc_i, zGet_o, zGet2_s, zPut_o, zAld_i, zAll_j, zAst_i, zAsl_j, zLen_i, zLen_j, zRt_i, zRt_z, zRl2_l, zRv_n, List.getElem?_cons_zero, List.getElem?_cons_succ, List.length_cons, List.length_nil, z_set, z_set2, z_cut, List.set_cons_zero, List.set_cons_succ, Option.toList_some, Option.toList_none, List.cons_append, List.nil_append, zif, zW_ite, zfit_0, zfit_1, zfit_2, zfit_3, zisc_o, zRt_c, zRt_b, List.map_cons, List.map_nil, List.sum_cons, List.sum_nil, true_and, and_true, if_true, if_false, ite_true, ite_false, Nat.reduceLT, Nat.reduceLeDiff, Nat.reduceAdd, Nat.reduceEqDiff, eq_self, not_true_eq_false, not_false_eq_true, Nat.lt_irrefl, or_true, true_or, or_false, false_or, z_cell_lt, Value.category, toldSet_b, hb0, c1, nI_1, x1, x2, c_about hTk (show i < 7 by omega) (show o < 7 by omega), c_about hTk (show j < 7 by omega) (show o < 7 by omega), abt_nI, ca]
          exact ih
        · rw [if_neg (by rintro (z | z | z); exact ci z; exact cj z; exact ca z)] at ih
          have e1 : decide (nI (abt mt1 nt1 i o) = 1) = decide (abt mt1 nt1 i o = 1) := by rw [show (1 : Int32) = nI 1 from rfl]; simp only [nI_eqI (show abt mt1 nt1 i o < 2 ^ 31 by omega) (show 1 < 2 ^ 31 by omega)]
          have e0 : decide (nI (abt mt1 nt1 i o) = 0) = decide (abt mt1 nt1 i o = 0) := by rw [show (0 : Int32) = nI 0 from rfl]; simp only [nI_eqI (show abt mt1 nt1 i o < 2 ^ 31 by omega) (show 0 < 2 ^ 31 by omega)]
          simp only [eX9_copy_0, eX9_copy_1, eX9_copy_2, eX9_copy_3, eX9_copy_6, eX9_copy_9, eX9_copy_10, eX9_copy_11, eX9_copy_12, eX9_copy_13, eX9_copy_14, eX9_copy_18, eX9_copy_19, eX9_copy_22, eX9_copy_25, eX9_copy_27, eX9_copy_28, eX9_copy_31, eX9_copy_33, eX9_copy_34, eX9_copy_37, eX9_copy_38, eX9_copy_39, eX9_copy_41, eX9_copy_44, eX9_copy_45, eX9_copy_46, eX9_copy_48, eX9_copy_51, eX9_copy_54, eX9_copy_55, eX9_copy_56, eX9_copy_58, eX9_copy_59, eX9_copy_60, eX9_copy_62, eX9_copy_65, eX9_copy_68, eX9_copy_71, eX9_copy_74, eX9_copy_77, eX9_copy_78, eX9_copy_81, eX9_copy_83, eX9_copy_86, eX9_copy_87, rX9_copy, zg_aload, zg_bipush, zg_getfield, zg_goto, zg_icmp, zg_iconst, zg_if, zg_iinc, zg_iload, zg_ireturn, zg_istore, zg_iv2, zg_iv3, q10, q01, q00, ite_self, zLd_i, zLd_l, zLd_a, zInc_i, zGet_o, zGet2_s, zPut_o, zAld_i, zAll_j, zAst_i, zAsl_j, zLen_i, zLen_j, zRt_i, zRt_z, zRl2_l, zRv_n, List.getElem?_cons_zero, List.getElem?_cons_succ, List.length_cons, List.length_nil, z_set, z_set2, z_cut, List.set_cons_zero, List.set_cons_succ, Option.toList_some, Option.toList_none, List.cons_append, List.nil_append, zif, zW_ite, zfit_0, zfit_1, zfit_2, zfit_3, zisc_o, zRt_c, zRt_b, List.map_cons, List.map_nil, List.sum_cons, List.sum_nil, true_and, and_true, if_true, if_false, ite_true, ite_false, Nat.reduceLT, Nat.reduceLeDiff, Nat.reduceAdd, Nat.reduceEqDiff, eq_self, not_true_eq_false, not_false_eq_true, Nat.lt_irrefl, or_true, true_or, or_false, false_or, z_cell_lt, Value.category, toldSet_b, hb0, c1, nI_1, x1, x2, c_about hTk (show i < 7 by omega) (show o < 7 by omega), c_about hTk (show j < 7 by omega) (show o < 7 by omega), abt_nI, nI_eqI (show abt mt1 nt1 i o < 2 ^ 31 by omega) (show abt mt1 nt1 j o < 2 ^ 31 by omega), ca, c_put hTk (show j < 7 by omega) (show o < 7 by omega) (fun z => cj z.symm), toldSet_set, q_vr, e1, e0]
          exact ih
theorem c_copy (hT : toldAt h b n rm mt nt fm vr) {i j : Nat} (hi : i < n) (hj : j < n) (hij : i ≠ j) : zK (d + 3) 117 [.ref b, .int (nI i), .int (nI j)] (h, u) Q = Q (some (.int (if (cpM mt nt i j n).2.2 = 0 then -2 else nI (cpM mt nt i j n).2.2)), (toldSet h b n rm (cpM mt nt i j n).1 (cpM mt nt i j n).2.1 fm (vr + nI (cpM mt nt i j n).2.2), u)) := by
  obtain ⟨hb, h0, h1, h2, h3, hn, hr, hm, ht⟩ := id hT
  have hb0 : b < 1000 := by omega
  have c3 : ¬ nI i = nI j := by rw [nI_eqI (by omega) (by omega)]; exact hij
  refine zK_of (k := 3) (by omega) ?_
  refine zK_in (M := MX9_copy) rfl (Nat.le_of_ble_eq_true rfl) ?_
  show zW 2 MX9_copy 0 ([.ref b, .int (nI i), .int (nI j), .null, .null], [], (h, u)) _
  simp only [eX9_copy_0, eX9_copy_1, eX9_copy_2, eX9_copy_3, eX9_copy_6, eX9_copy_9, eX9_copy_10, eX9_copy_11, eX9_copy_12, eX9_copy_13, eX9_copy_14, eX9_copy_18, eX9_copy_19, eX9_copy_22, eX9_copy_25, eX9_copy_27, eX9_copy_28, eX9_copy_31, eX9_copy_33, eX9_copy_34, eX9_copy_37, eX9_copy_38, eX9_copy_39, eX9_copy_41, eX9_copy_44, eX9_copy_45, eX9_copy_46, eX9_copy_48, eX9_copy_51, eX9_copy_54, eX9_copy_55, eX9_copy_56, eX9_copy_58, eX9_copy_59, eX9_copy_60, eX9_copy_62, eX9_copy_65, eX9_copy_68, eX9_copy_71, eX9_copy_74, eX9_copy_77, eX9_copy_78, eX9_copy_81, eX9_copy_83, eX9_copy_86, eX9_copy_87, rX9_copy, zg_aload, zg_bipush, zg_getfield, zg_goto, zg_icmp, zg_iconst, zg_if, zg_iinc, zg_iload, zg_ireturn, zg_istore, zg_iv2, zg_iv3, q10, q01, q00, ite_self, zLd_i, zLd_l, zLd_a, zInc_i, zGet_o, zGet2_s, zPut_o, zAld_i, zAll_j, zAst_i, zAsl_j, zLen_i, zLen_j, zRt_i, zRt_z, zRl2_l, zRv_n, List.getElem?_cons_zero, List.getElem?_cons_succ, List.length_cons, List.length_nil, z_set, z_set2, z_cut, List.set_cons_zero, List.set_cons_succ, Option.toList_some, Option.toList_none, List.cons_append, List.nil_append, zif, zW_ite, zfit_0, zfit_1, zfit_2, zfit_3, zisc_o, zRt_c, zRt_b, List.map_cons, List.map_nil, List.sum_cons, List.sum_nil, true_and, and_true, if_true, if_false, ite_true, ite_false, Nat.reduceLT, Nat.reduceLeDiff, Nat.reduceAdd, Nat.reduceEqDiff, eq_self, not_true_eq_false, not_false_eq_true, Nat.lt_irrefl, or_true, true_or, or_false, false_or, z_cell_lt, Value.category, h0, hb0, c_areTwo hT, hasB_in hn hi, hasB_in hn hj, c3, Bool.true_and, Bool.and_true, decide_true]
  have w := w_copy (d := 0) (u := u) hT hi hj hij n 0 (by omega) (by omega)
  rw [show cpM mt nt i j 0 = (mt, nt, 0) from rfl] at w
  simp only at w
  rw [q_vr0, toldSet_self hT, nI_0] at w
  exact w
theorem c_add (hT : toldAt h b n rm mt nt fm vr) {w : Nat} (hn7 : n < 7) : zK (d + 1) 110 [.ref b, .int (nI w)] (h, u) Q = Q (none, (toldSet h b (n + 1) (z_up rm n w) (z_up mt n 0) (z_up nt n 0) fm (vr + 1), u)) := by
  obtain ⟨hb, h0, h1, h2, h3, hn, hr, hm, ht⟩ := id hT
  have hb0 : b < 1000 := by omega
  have hb1 : b + 1 < 1000 := by omega
  have hb2 : b + 2 < 1000 := by omega
  have hb3 : b + 3 < 1000 := by omega
  have c1 : nI n < 7 := nI_lt7 hn7
  have n0 : ∀ e, z_up h (b + 1) e b = h b := fun e => z_up_n h e (by omega)
  have n2 : ∀ e, z_up h (b + 1) e (b + 2) = h (b + 2) := fun e => z_up_n h e (by omega)
  have m0 : ∀ e f, z_up (z_up h (b + 1) e) (b + 2) f b = h b := fun e f => by rw [z_up_n _ _ (by omega), n0]
  have m3 : ∀ e f, z_up (z_up h (b + 1) e) (b + 2) f (b + 3) = h (b + 3) := fun e f => by rw [z_up_n _ _ (by omega), z_up_n _ _ (by omega)]
  have l0 : ∀ e f g, z_up (z_up (z_up h (b + 1) e) (b + 2) f) (b + 3) g b = h b := fun e f g => by rw [z_up_n _ _ (by omega), m0]
  have qu0 : ∀ (f : Nat → Nat) (i : Nat), upd (fun k => nI (f k)) i 0 = fun k => nI (z_up f i 0 k) := fun f i => q_upd f i 0
  have key : z_up (z_up (z_up (z_up h (b + 1) (zI 0 7 (fun k => nI (z_up rm n w k)))) (b + 2) (zI 0 7 (fun k => nI (z_up mt n 0 k)))) (b + 3) (zI 0 7 (fun k => nI (z_up nt n 0 k)))) b (zO 9 [.ref (b + 1), .ref (b + 2), .ref (b + 3), .int (nI (n + 1)), .int (if fm then 1 else 0), .int (vr + 1)]) = toldSet h b (n + 1) (z_up rm n w) (z_up mt n 0) (z_up nt n 0) fm (vr + 1) := by
    apply toldSet_of
    · intro k hk; rw [z_up_n _ _ (by omega), z_up_n _ _ (by omega), z_up_n _ _ (by omega), z_up_n _ _ (by omega)]
    · rw [z_up_s]
    · rw [z_up_n _ _ (by omega), z_up_n _ _ (by omega), z_up_n _ _ (by omega), z_up_s]
    · rw [z_up_n _ _ (by omega), z_up_n _ _ (by omega), z_up_s]
    · rw [z_up_n _ _ (by omega), z_up_s]
  refine zK_of (k := 1) (by omega) ?_
  refine zK_in (M := MX9_add) rfl (Nat.le_of_ble_eq_true rfl) ?_
  show zW 0 MX9_add 0 ([.ref b, .int (nI w)], [], (h, u)) _
  simp only [eX9_add_0, eX9_add_1, eX9_add_4, eX9_add_6, eX9_add_9, eX9_add_10, eX9_add_13, eX9_add_14, eX9_add_17, eX9_add_18, eX9_add_19, eX9_add_20, eX9_add_23, eX9_add_24, eX9_add_27, eX9_add_28, eX9_add_29, eX9_add_30, eX9_add_33, eX9_add_34, eX9_add_37, eX9_add_38, eX9_add_39, eX9_add_40, eX9_add_41, eX9_add_44, eX9_add_45, eX9_add_46, eX9_add_49, eX9_add_50, eX9_add_51, eX9_add_54, eX9_add_55, eX9_add_56, eX9_add_59, rX9_add, zg_aload, zg_bipush, zg_dup, zg_getfield, zg_iadd, zg_iastore, zg_icmp, zg_iconst, zg_iload, zg_putfield, zg_return, q10, q01, q00, ite_self, zLd_i, zLd_l, zLd_a, zInc_i, zGet_o, zGet2_s, zPut_o, zAld_i, zAll_j, zAst_i, zAsl_j, zLen_i, zLen_j, zRt_i, zRt_z, zRl2_l, zRv_n, List.getElem?_cons_zero, List.getElem?_cons_succ, List.length_cons, List.length_nil, z_set, z_set2, z_cut, List.set_cons_zero, List.set_cons_succ, Option.toList_some, Option.toList_none, List.cons_append, List.nil_append, zif, zW_ite, zfit_0, zfit_1, zfit_2, zfit_3, zisc_o, zRt_c, zRt_b, List.map_cons, List.map_nil, List.sum_cons, List.sum_nil, true_and, and_true, if_true, if_false, ite_true, ite_false, Nat.reduceLT, Nat.reduceLeDiff, Nat.reduceAdd, Nat.reduceEqDiff, eq_self, not_true_eq_false, not_false_eq_true, Nat.lt_irrefl, or_true, true_or, or_false, false_or, z_cell_lt, Value.category, h0, h1, h2, h3, hb0, hb1, hb2, hb3, c1, nI_7 hn7, nI_c hn7, n0, n2, m0, m3, l0, q_upd, qu0, nI_1, z_up_s, z_up_up, key]
theorem w_sheet (hT : toldAt h b n rm mt nt fm vr) {kind nn f step : Int32} : ∀ k o x7, n - o = k → o ≤ n → zW d MX9_readSheet 6 ([.ref b, .int kind, .int nn, .int f, .int step, .int (f + nI o * step), .int (nI o), x7], [], (toldSet h b n (shF kind nn f step rm o) mt nt fm vr, u)) (fun q => q = (none, (toldSet h b n (shF kind nn f step rm n) mt nt fm (vr + 1), u))) := by
  obtain ⟨hb, h0, h1, h2, h3, hn, hr, hm, ht⟩ := id hT
  have hb0 : b < 1000 := by omega
  have hb1 : b + 1 < 1000 := by omega
  intro k
  induction k with
  | zero =>
    intro o x7 ho hle
    have e : o = n := by omega
    subst e
    rw [eX9_readSheet_6]
    simp only [eX9_readSheet_0, eX9_readSheet_1, eX9_readSheet_3, eX9_readSheet_4, eX9_readSheet_8, eX9_readSheet_9, eX9_readSheet_12, eX9_readSheet_15, eX9_readSheet_16, eX9_readSheet_19, eX9_readSheet_21, eX9_readSheet_22, eX9_readSheet_25, eX9_readSheet_26, eX9_readSheet_27, eX9_readSheet_30, eX9_readSheet_32, eX9_readSheet_33, eX9_readSheet_36, eX9_readSheet_38, eX9_readSheet_40, eX9_readSheet_41, eX9_readSheet_44, eX9_readSheet_46, eX9_readSheet_48, eX9_readSheet_49, eX9_readSheet_52, eX9_readSheet_53, eX9_readSheet_55, eX9_readSheet_57, eX9_readSheet_60, eX9_readSheet_63, eX9_readSheet_66, eX9_readSheet_67, eX9_readSheet_68, eX9_readSheet_70, eX9_readSheet_72, eX9_readSheet_73, eX9_readSheet_75, eX9_readSheet_78, eX9_readSheet_81, eX9_readSheet_82, eX9_readSheet_83, eX9_readSheet_86, eX9_readSheet_87, eX9_readSheet_88, eX9_readSheet_91, rX9_readSheet, zg_aload, zg_bipush, zg_dup, zg_getfield, zg_goto, zg_i2b, zg_i2s, zg_iadd, zg_iastore, zg_icmp, zg_iconst, zg_if, zg_iinc, zg_iload, zg_istore, zg_mn, zg_mx, zg_putfield, zg_return, q10, q01, q00, ite_self, zLd_i, zLd_l, zLd_a, zInc_i, zGet_o, zGet2_s, zPut_o, zAld_i, zAll_j, zAst_i, zAsl_j, zLen_i, zLen_j, zRt_i, zRt_z, zRl2_l, zRv_n, List.getElem?_cons_zero, List.getElem?_cons_succ, List.length_cons, List.length_nil, z_set, z_set2, z_cut, List.set_cons_zero, List.set_cons_succ, Option.toList_some, Option.toList_none, List.cons_append, List.nil_append, zif, zW_ite, zfit_0, zfit_1, zfit_2, zfit_3, zisc_o, zRt_c, zRt_b, List.map_cons, List.map_nil, List.sum_cons, List.sum_nil, true_and, and_true, if_true, if_false, ite_true, ite_false, Nat.reduceLT, Nat.reduceLeDiff, Nat.reduceAdd, Nat.reduceEqDiff, eq_self, not_true_eq_false, not_false_eq_true, Nat.lt_irrefl, or_true, true_or, or_false, false_or, z_cell_lt, Value.category, toldSet_b, hb0, Int32.lt_irrefl, toldUp_b]
  | succ k ih =>
    intro o x7 ho hle
    have hlt : o < n := by omega
    have ho7 : o < 7 := by omega
    have c1 : nI o < nI n := nI_lt hlt (by omega)
    have ih := fun x => ih (o + 1) x (by omega) (by omega)
    have g1 : ∀ r, toldSet h b n r mt nt fm vr (b + 1) = zI 0 7 (fun i => nI (r i)) := fun r => by simp [toldSet]
    have key : ∀ (r r' : Nat → Nat), z_up (toldSet h b n r mt nt fm vr) (b + 1) (zI 0 7 (fun i => nI (r' i))) = toldSet h b n r' mt nt fm vr := by
      intro r r'
      apply toldSet_of
      · intro k hk; rw [z_up_n _ _ (by omega), toldSet_out hk]
      · rw [z_up_n _ _ (by omega)]; simp [toldSet]
      · rw [z_up_s]
      · rw [z_up_n _ _ (by omega)]; simp [toldSet]
      · rw [z_up_n _ _ (by omega)]; simp [toldSet]
    have qu0 : ∀ (f : Nat → Nat) (i : Nat), upd (fun k => nI (f k)) i 0 = fun k => nI (z_up f i 0 k) := fun f i => q_upd f i 0
    rw [show shF kind nn f step rm (o + 1) = z_up (shF kind nn f step rm o) o (if nI o < nn then clamp9 (shNum kind (f + nI o * step)) else 0) from rfl] at ih
    unfold shNum at ih
    rw [eX9_readSheet_6]
    by_cases k0 : kind = 0 <;> by_cases k1 : kind = 1 <;> by_cases cn : nI o < nn <;> simp only [k0, k1, cn, if_true, if_false] at ih
    all_goals first
      | (rw [k0] at k1; exact absurd k1 (by decide))
      | skip
    all_goals
      simp only [eX9_readSheet_0, eX9_readSheet_1, eX9_readSheet_3, eX9_readSheet_4, eX9_readSheet_8, eX9_readSheet_9, eX9_readSheet_12, eX9_readSheet_15, eX9_readSheet_16, eX9_readSheet_19, eX9_readSheet_21, eX9_readSheet_22, eX9_readSheet_25, eX9_readSheet_26, eX9_readSheet_27, eX9_readSheet_30, eX9_readSheet_32, eX9_readSheet_33, eX9_readSheet_36, eX9_readSheet_38, eX9_readSheet_40, eX9_readSheet_41, eX9_readSheet_44, eX9_readSheet_46, eX9_readSheet_48, eX9_readSheet_49, eX9_readSheet_52, eX9_readSheet_53, eX9_readSheet_55, eX9_readSheet_57, eX9_readSheet_60, eX9_readSheet_63, eX9_readSheet_66, eX9_readSheet_67, eX9_readSheet_68, eX9_readSheet_70, eX9_readSheet_72, eX9_readSheet_73, eX9_readSheet_75, eX9_readSheet_78, eX9_readSheet_81, eX9_readSheet_82, eX9_readSheet_83, eX9_readSheet_86, eX9_readSheet_87, eX9_readSheet_88, eX9_readSheet_91, rX9_readSheet, zg_aload, zg_bipush, zg_dup, zg_getfield, zg_goto, zg_i2b, zg_i2s, zg_iadd, zg_iastore, zg_icmp, zg_iconst, zg_if, zg_iinc, zg_iload, zg_istore, zg_mn, zg_mx, zg_putfield, zg_return, q10, q01, q00, ite_self, zLd_i, zLd_l, zLd_a, zInc_i, zGet_o, zGet2_s, zPut_o, zAld_i, zAll_j, zAst_i, zAsl_j, zLen_i, zLen_j, zRt_i, zRt_z, zRl2_l, zRv_n, List.getElem?_cons_zero, List.getElem?_cons_succ, List.length_cons, List.length_nil, z_set, z_set2, z_cut, List.set_cons_zero, List.set_cons_succ, Option.toList_some, Option.toList_none, List.cons_append, List.nil_append, zif, zW_ite, zfit_0, zfit_1, zfit_2, zfit_3, zisc_o, zRt_c, zRt_b, List.map_cons, List.map_nil, List.sum_cons, List.sum_nil, true_and, and_true, if_true, if_false, ite_true, ite_false, Nat.reduceLT, Nat.reduceLeDiff, Nat.reduceAdd, Nat.reduceEqDiff, eq_self, not_true_eq_false, not_false_eq_true, Nat.lt_irrefl, or_true, true_or, or_false, false_or, z_cell_lt, Value.category, toldSet_b, hb0, hb1, c1, nI_1, g1, nI_7 ho7, nI_c ho7, k0, k1, cn, clamp9_eq, q_upd, qu0, key, q_step]
      first | exact ih _ | (simp only [k0, k1] at *; exact ih _)
theorem c_sheet (hT : toldAt h b n rm mt nt fm vr) {kind nn f step : Int32} : zK (d + 1) 120 [.ref b, .int kind, .int nn, .int f, .int step] (h, u) Q = Q (none, (toldSet h b n (shF kind nn f step rm n) mt nt fm (vr + 1), u)) := by
  obtain ⟨hb, h0, -⟩ := id hT
  have hb0 : b < 1000 := by omega
  refine zK_of (k := 1) (by omega) ?_
  refine zK_in (M := MX9_readSheet) rfl (Nat.le_of_ble_eq_true rfl) ?_
  show zW 0 MX9_readSheet 0 ([.ref b, .int kind, .int nn, .int f, .int step, .null, .null, .null], [], (h, u)) _
  simp only [eX9_readSheet_0, eX9_readSheet_1, eX9_readSheet_3, eX9_readSheet_4, eX9_readSheet_8, eX9_readSheet_9, eX9_readSheet_12, eX9_readSheet_15, eX9_readSheet_16, eX9_readSheet_19, eX9_readSheet_21, eX9_readSheet_22, eX9_readSheet_25, eX9_readSheet_26, eX9_readSheet_27, eX9_readSheet_30, eX9_readSheet_32, eX9_readSheet_33, eX9_readSheet_36, eX9_readSheet_38, eX9_readSheet_40, eX9_readSheet_41, eX9_readSheet_44, eX9_readSheet_46, eX9_readSheet_48, eX9_readSheet_49, eX9_readSheet_52, eX9_readSheet_53, eX9_readSheet_55, eX9_readSheet_57, eX9_readSheet_60, eX9_readSheet_63, eX9_readSheet_66, eX9_readSheet_67, eX9_readSheet_68, eX9_readSheet_70, eX9_readSheet_72, eX9_readSheet_73, eX9_readSheet_75, eX9_readSheet_78, eX9_readSheet_81, eX9_readSheet_82, eX9_readSheet_83, eX9_readSheet_86, eX9_readSheet_87, eX9_readSheet_88, eX9_readSheet_91, rX9_readSheet, zg_aload, zg_bipush, zg_dup, zg_getfield, zg_goto, zg_i2b, zg_i2s, zg_iadd, zg_iastore, zg_icmp, zg_iconst, zg_if, zg_iinc, zg_iload, zg_istore, zg_mn, zg_mx, zg_putfield, zg_return, q10, q01, q00, ite_self, zLd_i, zLd_l, zLd_a, zInc_i, zGet_o, zGet2_s, zPut_o, zAld_i, zAll_j, zAst_i, zAsl_j, zLen_i, zLen_j, zRt_i, zRt_z, zRl2_l, zRv_n, List.getElem?_cons_zero, List.getElem?_cons_succ, List.length_cons, List.length_nil, z_set, z_set2, z_cut, List.set_cons_zero, List.set_cons_succ, Option.toList_some, Option.toList_none, List.cons_append, List.nil_append, zif, zW_ite, zfit_0, zfit_1, zfit_2, zfit_3, zisc_o, zRt_c, zRt_b, List.map_cons, List.map_nil, List.sum_cons, List.sum_nil, true_and, and_true, if_true, if_false, ite_true, ite_false, Nat.reduceLT, Nat.reduceLeDiff, Nat.reduceAdd, Nat.reduceEqDiff, eq_self, not_true_eq_false, not_false_eq_true, Nat.lt_irrefl, or_true, true_or, or_false, false_or, z_cell_lt, Value.category, h0, hb0]
  have w := w_sheet (d := 0) (u := u) (kind := kind) (nn := nn) (f := f) (step := step) hT n 0 .null (by omega) (by omega)
  rw [show shF kind nn f step rm 0 = rm from rfl, toldSet_self hT, nI_0, Int32.zero_mul, Int32.add_zero] at w
  exact w
end COPY

