/-! FITS: all sets of guests that can have come, one bit each -/
theorem eX2_among_0 {d : Nat} {S : zS} {Q : zR → Prop} : zW d MX2_among 0 S Q = zGo d MX2_among (.iconst 0) (zv (.int 0)) 1 S Q := zW_step (I := .iconst 0) rfl S Q
theorem eX2_among_1 {d : Nat} {S : zS} {Q : zR → Prop} : zW d MX2_among 1 S Q = zGo d MX2_among (.istore 3) z0 2 S Q := zW_step (I := .istore_n 3) rfl S Q
theorem eX2_among_2 {d : Nat} {S : zS} {Q : zR → Prop} : zW d MX2_among 2 S Q = zGo d MX2_among (.iload 3) z0 3 S Q := zW_step (I := .iload_n 3) rfl S Q
theorem eX2_among_3 {d : Nat} {S : zS} {Q : zR → Prop} : zW d MX2_among 3 S Q = zGo d MX2_among (.aload 1) z0 4 S Q := zW_step (I := .aload_n 1) rfl S Q
theorem eX2_among_4 {d : Nat} {S : zS} {Q : zR → Prop} : zW d MX2_among 4 S Q = zGo d MX2_among (.getfield 22) (zf 0 9 3) 7 S Q := zW_step (I := .getfield 22) rfl S Q
theorem eX2_among_7 {d : Nat} {S : zS} {Q : zR → Prop} : zW d MX2_among 7 S Q = zGo d MX2_among (.if_icmp .ge 41) (zt 48) 10 S Q := zW_step (I := .if_icmp .ge 41) rfl S Q
theorem eX2_among_10 {d : Nat} {S : zS} {Q : zR → Prop} : zW d MX2_among 10 S Q = zGo d MX2_among (.aload 0) z0 11 S Q := zW_step (I := .aload_n 0) rfl S Q
theorem eX2_among_11 {d : Nat} {S : zS} {Q : zR → Prop} : zW d MX2_among 11 S Q = zGo d MX2_among (.getfield 9) (zf 3 2 0) 14 S Q := zW_step (I := .getfield 9) rfl S Q
theorem eX2_among_14 {d : Nat} {S : zS} {Q : zR → Prop} : zW d MX2_among 14 S Q = zGo d MX2_among (.iload 3) z0 15 S Q := zW_step (I := .iload_n 3) rfl S Q
theorem eX2_among_15 {d : Nat} {S : zS} {Q : zR → Prop} : zW d MX2_among 15 S Q = zGo d MX2_among (.aload 1) z0 16 S Q := zW_step (I := .aload_n 1) rfl S Q
theorem eX2_among_16 {d : Nat} {S : zS} {Q : zR → Prop} : zW d MX2_among 16 S Q = zGo d MX2_among (.getfield 28) (zf 3 9 1) 19 S Q := zW_step (I := .getfield 28) rfl S Q
theorem eX2_among_19 {d : Nat} {S : zS} {Q : zR → Prop} : zW d MX2_among 19 S Q = zGo d MX2_among (.iload 3) z0 20 S Q := zW_step (I := .iload_n 3) rfl S Q
theorem eX2_among_20 {d : Nat} {S : zS} {Q : zR → Prop} : zW d MX2_among 20 S Q = zGo d MX2_among (.iaload) z0 21 S Q := zW_step (I := .iaload) rfl S Q
theorem eX2_among_21 {d : Nat} {S : zS} {Q : zR → Prop} : zW d MX2_among 21 S Q = zGo d MX2_among (.iload 2) z0 22 S Q := zW_step (I := .iload_n 2) rfl S Q
theorem eX2_among_22 {d : Nat} {S : zS} {Q : zR → Prop} : zW d MX2_among 22 S Q = zGo d MX2_among (.iand) z0 23 S Q := zW_step (I := .iand) rfl S Q
theorem eX2_among_23 {d : Nat} {S : zS} {Q : zR → Prop} : zW d MX2_among 23 S Q = zGo d MX2_among (.iastore) z0 24 S Q := zW_step (I := .iastore) rfl S Q
theorem eX2_among_24 {d : Nat} {S : zS} {Q : zR → Prop} : zW d MX2_among 24 S Q = zGo d MX2_among (.aload 0) z0 25 S Q := zW_step (I := .aload_n 0) rfl S Q
theorem eX2_among_25 {d : Nat} {S : zS} {Q : zR → Prop} : zW d MX2_among 25 S Q = zGo d MX2_among (.getfield 15) (zf 3 2 1) 28 S Q := zW_step (I := .getfield 15) rfl S Q
theorem eX2_among_28 {d : Nat} {S : zS} {Q : zR → Prop} : zW d MX2_among 28 S Q = zGo d MX2_among (.iload 3) z0 29 S Q := zW_step (I := .iload_n 3) rfl S Q
theorem eX2_among_29 {d : Nat} {S : zS} {Q : zR → Prop} : zW d MX2_among 29 S Q = zGo d MX2_among (.aload 1) z0 30 S Q := zW_step (I := .aload_n 1) rfl S Q
theorem eX2_among_30 {d : Nat} {S : zS} {Q : zR → Prop} : zW d MX2_among 30 S Q = zGo d MX2_among (.getfield 31) (zf 3 9 2) 33 S Q := zW_step (I := .getfield 31) rfl S Q
theorem eX2_among_33 {d : Nat} {S : zS} {Q : zR → Prop} : zW d MX2_among 33 S Q = zGo d MX2_among (.iload 3) z0 34 S Q := zW_step (I := .iload_n 3) rfl S Q
theorem eX2_among_34 {d : Nat} {S : zS} {Q : zR → Prop} : zW d MX2_among 34 S Q = zGo d MX2_among (.iaload) z0 35 S Q := zW_step (I := .iaload) rfl S Q
theorem eX2_among_35 {d : Nat} {S : zS} {Q : zR → Prop} : zW d MX2_among 35 S Q = zGo d MX2_among (.aload 1) z0 36 S Q := zW_step (I := .aload_n 1) rfl S Q
theorem eX2_among_36 {d : Nat} {S : zS} {Q : zR → Prop} : zW d MX2_among 36 S Q = zGo d MX2_among (.iload 3) z0 37 S Q := zW_step (I := .iload_n 3) rfl S Q
theorem eX2_among_37 {d : Nat} {S : zS} {Q : zR → Prop} : zW d MX2_among 37 S Q = zGo d MX2_among (.invokevirtual 34) (zc 123 2 9) 40 S Q := zW_step (I := .invokevirtual 34) rfl S Q
theorem eX2_among_40 {d : Nat} {S : zS} {Q : zR → Prop} : zW d MX2_among 40 S Q = zGo d MX2_among (.ior) z0 41 S Q := zW_step (I := .ior) rfl S Q
theorem eX2_among_41 {d : Nat} {S : zS} {Q : zR → Prop} : zW d MX2_among 41 S Q = zGo d MX2_among (.iastore) z0 42 S Q := zW_step (I := .iastore) rfl S Q
theorem eX2_among_42 {d : Nat} {S : zS} {Q : zR → Prop} : zW d MX2_among 42 S Q = zGo d MX2_among (.iinc 3 1) (zv (.int 1)) 45 S Q := zW_step (I := .iinc 3 1) rfl S Q
theorem eX2_among_45 {d : Nat} {S : zS} {Q : zR → Prop} : zW d MX2_among 45 S Q = zGo d MX2_among (.goto (-43)) (zt 2) 48 S Q := zW_step (I := .goto (-43)) rfl S Q
theorem eX2_among_48 {d : Nat} {S : zS} {Q : zR → Prop} : zW d MX2_among 48 S Q = zGo d MX2_among (.aload 0) z0 49 S Q := zW_step (I := .aload_n 0) rfl S Q
theorem eX2_among_49 {d : Nat} {S : zS} {Q : zR → Prop} : zW d MX2_among 49 S Q = zGo d MX2_among (.iload 2) z0 50 S Q := zW_step (I := .iload_n 2) rfl S Q
theorem eX2_among_50 {d : Nat} {S : zS} {Q : zR → Prop} : zW d MX2_among 50 S Q = zGo d MX2_among (.invokevirtual 38) (zc 38 2 2) 53 S Q := zW_step (I := .invokevirtual 38) rfl S Q
theorem eX2_among_53 {d : Nat} {S : zS} {Q : zR → Prop} : zW d MX2_among 53 S Q = zGo d MX2_among (.ireturn) z0 54 S Q := zW_step (I := .ireturn) rfl S Q
theorem rX2_among : MX2_among.2.2.2.2.1 = some .boolean := rfl
theorem eX2_without_0 {d : Nat} {S : zS} {Q : zR → Prop} : zW d MX2_without 0 S Q = zGo d MX2_without (.aload 1) z0 1 S Q := zW_step (I := .aload_n 1) rfl S Q
theorem eX2_without_1 {d : Nat} {S : zS} {Q : zR → Prop} : zW d MX2_without 1 S Q = zGo d MX2_without (.invokevirtual 42) (zc 109 1 9) 4 S Q := zW_step (I := .invokevirtual 42) rfl S Q
theorem eX2_without_4 {d : Nat} {S : zS} {Q : zR → Prop} : zW d MX2_without 4 S Q = zGo d MX2_without (.iconst 1) (zv (.int 1)) 5 S Q := zW_step (I := .iconst 1) rfl S Q
theorem eX2_without_5 {d : Nat} {S : zS} {Q : zR → Prop} : zW d MX2_without 5 S Q = zGo d MX2_without (.iload 2) z0 6 S Q := zW_step (I := .iload_n 2) rfl S Q
theorem eX2_without_6 {d : Nat} {S : zS} {Q : zR → Prop} : zW d MX2_without 6 S Q = zGo d MX2_without (.ishl) z0 7 S Q := zW_step (I := .ishl) rfl S Q
theorem eX2_without_7 {d : Nat} {S : zS} {Q : zR → Prop} : zW d MX2_without 7 S Q = zGo d MX2_without (.iconst (-1)) (zv (.int (-1))) 8 S Q := zW_step (I := .iconst (-1)) rfl S Q
theorem eX2_without_8 {d : Nat} {S : zS} {Q : zR → Prop} : zW d MX2_without 8 S Q = zGo d MX2_without (.ixor) z0 9 S Q := zW_step (I := .ixor) rfl S Q
theorem eX2_without_9 {d : Nat} {S : zS} {Q : zR → Prop} : zW d MX2_without 9 S Q = zGo d MX2_without (.iand) z0 10 S Q := zW_step (I := .iand) rfl S Q
theorem eX2_without_10 {d : Nat} {S : zS} {Q : zR → Prop} : zW d MX2_without 10 S Q = zGo d MX2_without (.istore 3) z0 11 S Q := zW_step (I := .istore_n 3) rfl S Q
theorem eX2_without_11 {d : Nat} {S : zS} {Q : zR → Prop} : zW d MX2_without 11 S Q = zGo d MX2_without (.iconst 0) (zv (.int 0)) 12 S Q := zW_step (I := .iconst 0) rfl S Q
theorem eX2_without_12 {d : Nat} {S : zS} {Q : zR → Prop} : zW d MX2_without 12 S Q = zGo d MX2_without (.istore 4) z0 14 S Q := zW_step (I := .istore 4) rfl S Q
theorem eX2_without_14 {d : Nat} {S : zS} {Q : zR → Prop} : zW d MX2_without 14 S Q = zGo d MX2_without (.iload 4) z0 16 S Q := zW_step (I := .iload 4) rfl S Q
theorem eX2_without_16 {d : Nat} {S : zS} {Q : zR → Prop} : zW d MX2_without 16 S Q = zGo d MX2_without (.aload 1) z0 17 S Q := zW_step (I := .aload_n 1) rfl S Q
theorem eX2_without_17 {d : Nat} {S : zS} {Q : zR → Prop} : zW d MX2_without 17 S Q = zGo d MX2_without (.getfield 22) (zf 0 9 3) 20 S Q := zW_step (I := .getfield 22) rfl S Q
theorem eX2_without_20 {d : Nat} {S : zS} {Q : zR → Prop} : zW d MX2_without 20 S Q = zGo d MX2_without (.if_icmp .ge 63) (zt 83) 23 S Q := zW_step (I := .if_icmp .ge 63) rfl S Q
theorem eX2_without_23 {d : Nat} {S : zS} {Q : zR → Prop} : zW d MX2_without 23 S Q = zGo d MX2_without (.iload 4) z0 25 S Q := zW_step (I := .iload 4) rfl S Q
theorem eX2_without_25 {d : Nat} {S : zS} {Q : zR → Prop} : zW d MX2_without 25 S Q = zGo d MX2_without (.iload 2) z0 26 S Q := zW_step (I := .iload_n 2) rfl S Q
theorem eX2_without_26 {d : Nat} {S : zS} {Q : zR → Prop} : zW d MX2_without 26 S Q = zGo d MX2_without (.if_icmp .ne 7) (zt 33) 29 S Q := zW_step (I := .if_icmp .ne 7) rfl S Q
theorem eX2_without_29 {d : Nat} {S : zS} {Q : zR → Prop} : zW d MX2_without 29 S Q = zGo d MX2_without (.iconst 0) (zv (.int 0)) 30 S Q := zW_step (I := .iconst 0) rfl S Q
theorem eX2_without_30 {d : Nat} {S : zS} {Q : zR → Prop} : zW d MX2_without 30 S Q = zGo d MX2_without (.goto 4) (zt 34) 33 S Q := zW_step (I := .goto 4) rfl S Q
theorem eX2_without_33 {d : Nat} {S : zS} {Q : zR → Prop} : zW d MX2_without 33 S Q = zGo d MX2_without (.iload 3) z0 34 S Q := zW_step (I := .iload_n 3) rfl S Q
theorem eX2_without_34 {d : Nat} {S : zS} {Q : zR → Prop} : zW d MX2_without 34 S Q = zGo d MX2_without (.istore 5) z0 36 S Q := zW_step (I := .istore 5) rfl S Q
theorem eX2_without_36 {d : Nat} {S : zS} {Q : zR → Prop} : zW d MX2_without 36 S Q = zGo d MX2_without (.aload 0) z0 37 S Q := zW_step (I := .aload_n 0) rfl S Q
theorem eX2_without_37 {d : Nat} {S : zS} {Q : zR → Prop} : zW d MX2_without 37 S Q = zGo d MX2_without (.getfield 9) (zf 3 2 0) 40 S Q := zW_step (I := .getfield 9) rfl S Q
theorem eX2_without_40 {d : Nat} {S : zS} {Q : zR → Prop} : zW d MX2_without 40 S Q = zGo d MX2_without (.iload 4) z0 42 S Q := zW_step (I := .iload 4) rfl S Q
theorem eX2_without_42 {d : Nat} {S : zS} {Q : zR → Prop} : zW d MX2_without 42 S Q = zGo d MX2_without (.aload 1) z0 43 S Q := zW_step (I := .aload_n 1) rfl S Q
theorem eX2_without_43 {d : Nat} {S : zS} {Q : zR → Prop} : zW d MX2_without 43 S Q = zGo d MX2_without (.getfield 28) (zf 3 9 1) 46 S Q := zW_step (I := .getfield 28) rfl S Q
theorem eX2_without_46 {d : Nat} {S : zS} {Q : zR → Prop} : zW d MX2_without 46 S Q = zGo d MX2_without (.iload 4) z0 48 S Q := zW_step (I := .iload 4) rfl S Q
theorem eX2_without_48 {d : Nat} {S : zS} {Q : zR → Prop} : zW d MX2_without 48 S Q = zGo d MX2_without (.iaload) z0 49 S Q := zW_step (I := .iaload) rfl S Q
theorem eX2_without_49 {d : Nat} {S : zS} {Q : zR → Prop} : zW d MX2_without 49 S Q = zGo d MX2_without (.iload 5) z0 51 S Q := zW_step (I := .iload 5) rfl S Q
theorem eX2_without_51 {d : Nat} {S : zS} {Q : zR → Prop} : zW d MX2_without 51 S Q = zGo d MX2_without (.iand) z0 52 S Q := zW_step (I := .iand) rfl S Q
theorem eX2_without_52 {d : Nat} {S : zS} {Q : zR → Prop} : zW d MX2_without 52 S Q = zGo d MX2_without (.iastore) z0 53 S Q := zW_step (I := .iastore) rfl S Q
theorem eX2_without_53 {d : Nat} {S : zS} {Q : zR → Prop} : zW d MX2_without 53 S Q = zGo d MX2_without (.aload 0) z0 54 S Q := zW_step (I := .aload_n 0) rfl S Q
theorem eX2_without_54 {d : Nat} {S : zS} {Q : zR → Prop} : zW d MX2_without 54 S Q = zGo d MX2_without (.getfield 15) (zf 3 2 1) 57 S Q := zW_step (I := .getfield 15) rfl S Q
theorem eX2_without_57 {d : Nat} {S : zS} {Q : zR → Prop} : zW d MX2_without 57 S Q = zGo d MX2_without (.iload 4) z0 59 S Q := zW_step (I := .iload 4) rfl S Q
theorem eX2_without_59 {d : Nat} {S : zS} {Q : zR → Prop} : zW d MX2_without 59 S Q = zGo d MX2_without (.aload 1) z0 60 S Q := zW_step (I := .aload_n 1) rfl S Q
theorem eX2_without_60 {d : Nat} {S : zS} {Q : zR → Prop} : zW d MX2_without 60 S Q = zGo d MX2_without (.getfield 31) (zf 3 9 2) 63 S Q := zW_step (I := .getfield 31) rfl S Q
theorem eX2_without_63 {d : Nat} {S : zS} {Q : zR → Prop} : zW d MX2_without 63 S Q = zGo d MX2_without (.iload 4) z0 65 S Q := zW_step (I := .iload 4) rfl S Q
theorem eX2_without_65 {d : Nat} {S : zS} {Q : zR → Prop} : zW d MX2_without 65 S Q = zGo d MX2_without (.iaload) z0 66 S Q := zW_step (I := .iaload) rfl S Q
theorem eX2_without_66 {d : Nat} {S : zS} {Q : zR → Prop} : zW d MX2_without 66 S Q = zGo d MX2_without (.iload 5) z0 68 S Q := zW_step (I := .iload 5) rfl S Q
theorem eX2_without_68 {d : Nat} {S : zS} {Q : zR → Prop} : zW d MX2_without 68 S Q = zGo d MX2_without (.iand) z0 69 S Q := zW_step (I := .iand) rfl S Q
theorem eX2_without_69 {d : Nat} {S : zS} {Q : zR → Prop} : zW d MX2_without 69 S Q = zGo d MX2_without (.aload 1) z0 70 S Q := zW_step (I := .aload_n 1) rfl S Q
theorem eX2_without_70 {d : Nat} {S : zS} {Q : zR → Prop} : zW d MX2_without 70 S Q = zGo d MX2_without (.iload 4) z0 72 S Q := zW_step (I := .iload 4) rfl S Q
theorem eX2_without_72 {d : Nat} {S : zS} {Q : zR → Prop} : zW d MX2_without 72 S Q = zGo d MX2_without (.invokevirtual 34) (zc 123 2 9) 75 S Q := zW_step (I := .invokevirtual 34) rfl S Q
theorem eX2_without_75 {d : Nat} {S : zS} {Q : zR → Prop} : zW d MX2_without 75 S Q = zGo d MX2_without (.ior) z0 76 S Q := zW_step (I := .ior) rfl S Q
theorem eX2_without_76 {d : Nat} {S : zS} {Q : zR → Prop} : zW d MX2_without 76 S Q = zGo d MX2_without (.iastore) z0 77 S Q := zW_step (I := .iastore) rfl S Q
theorem eX2_without_77 {d : Nat} {S : zS} {Q : zR → Prop} : zW d MX2_without 77 S Q = zGo d MX2_without (.iinc 4 1) (zv (.int 1)) 80 S Q := zW_step (I := .iinc 4 1) rfl S Q
theorem eX2_without_80 {d : Nat} {S : zS} {Q : zR → Prop} : zW d MX2_without 80 S Q = zGo d MX2_without (.goto (-66)) (zt 14) 83 S Q := zW_step (I := .goto (-66)) rfl S Q
theorem eX2_without_83 {d : Nat} {S : zS} {Q : zR → Prop} : zW d MX2_without 83 S Q = zGo d MX2_without (.aload 0) z0 84 S Q := zW_step (I := .aload_n 0) rfl S Q
theorem eX2_without_84 {d : Nat} {S : zS} {Q : zR → Prop} : zW d MX2_without 84 S Q = zGo d MX2_without (.aload 1) z0 85 S Q := zW_step (I := .aload_n 1) rfl S Q
theorem eX2_without_85 {d : Nat} {S : zS} {Q : zR → Prop} : zW d MX2_without 85 S Q = zGo d MX2_without (.invokevirtual 42) (zc 109 1 9) 88 S Q := zW_step (I := .invokevirtual 42) rfl S Q
theorem eX2_without_88 {d : Nat} {S : zS} {Q : zR → Prop} : zW d MX2_without 88 S Q = zGo d MX2_without (.invokevirtual 38) (zc 38 2 2) 91 S Q := zW_step (I := .invokevirtual 38) rfl S Q
theorem eX2_without_91 {d : Nat} {S : zS} {Q : zR → Prop} : zW d MX2_without 91 S Q = zGo d MX2_without (.ireturn) z0 92 S Q := zW_step (I := .ireturn) rfl S Q
theorem rX2_without : MX2_without.2.2.2.2.1 = some .boolean := rfl
theorem eX2_allCanCome_0 {d : Nat} {S : zS} {Q : zR → Prop} : zW d MX2_allCanCome 0 S Q = zGo d MX2_allCanCome (.aload 0) z0 1 S Q := zW_step (I := .aload_n 0) rfl S Q
theorem eX2_allCanCome_1 {d : Nat} {S : zS} {Q : zR → Prop} : zW d MX2_allCanCome 1 S Q = zGo d MX2_allCanCome (.getfield 18) (zf 3 2 2) 4 S Q := zW_step (I := .getfield 18) rfl S Q
theorem eX2_allCanCome_4 {d : Nat} {S : zS} {Q : zR → Prop} : zW d MX2_allCanCome 4 S Q = zGo d MX2_allCanCome (.iconst 0) (zv (.int 0)) 5 S Q := zW_step (I := .iconst 0) rfl S Q
theorem eX2_allCanCome_5 {d : Nat} {S : zS} {Q : zR → Prop} : zW d MX2_allCanCome 5 S Q = zGo d MX2_allCanCome (.invokestatic 46) (zc 305 2 0) 8 S Q := zW_step (I := .invokestatic 46) rfl S Q
theorem eX2_allCanCome_8 {d : Nat} {S : zS} {Q : zR → Prop} : zW d MX2_allCanCome 8 S Q = zGo d MX2_allCanCome (.aload 0) z0 9 S Q := zW_step (I := .aload_n 0) rfl S Q
theorem eX2_allCanCome_9 {d : Nat} {S : zS} {Q : zR → Prop} : zW d MX2_allCanCome 9 S Q = zGo d MX2_allCanCome (.getfield 18) (zf 3 2 2) 12 S Q := zW_step (I := .getfield 18) rfl S Q
theorem eX2_allCanCome_12 {d : Nat} {S : zS} {Q : zR → Prop} : zW d MX2_allCanCome 12 S Q = zGo d MX2_allCanCome (.iconst 0) (zv (.int 0)) 13 S Q := zW_step (I := .iconst 0) rfl S Q
theorem eX2_allCanCome_13 {d : Nat} {S : zS} {Q : zR → Prop} : zW d MX2_allCanCome 13 S Q = zGo d MX2_allCanCome (.iconst 1) (zv (.int 1)) 14 S Q := zW_step (I := .iconst 1) rfl S Q
theorem eX2_allCanCome_14 {d : Nat} {S : zS} {Q : zR → Prop} : zW d MX2_allCanCome 14 S Q = zGo d MX2_allCanCome (.bastore) (zb 2) 15 S Q := zW_step (I := .bastore) rfl S Q
theorem eX2_allCanCome_15 {d : Nat} {S : zS} {Q : zR → Prop} : zW d MX2_allCanCome 15 S Q = zGo d MX2_allCanCome (.iconst 0) (zv (.int 0)) 16 S Q := zW_step (I := .iconst 0) rfl S Q
theorem eX2_allCanCome_16 {d : Nat} {S : zS} {Q : zR → Prop} : zW d MX2_allCanCome 16 S Q = zGo d MX2_allCanCome (.istore 2) z0 17 S Q := zW_step (I := .istore_n 2) rfl S Q
theorem eX2_allCanCome_17 {d : Nat} {S : zS} {Q : zR → Prop} : zW d MX2_allCanCome 17 S Q = zGo d MX2_allCanCome (.iload 2) z0 18 S Q := zW_step (I := .iload_n 2) rfl S Q
theorem eX2_allCanCome_18 {d : Nat} {S : zS} {Q : zR → Prop} : zW d MX2_allCanCome 18 S Q = zGo d MX2_allCanCome (.iload 1) z0 19 S Q := zW_step (I := .iload_n 1) rfl S Q
theorem eX2_allCanCome_19 {d : Nat} {S : zS} {Q : zR → Prop} : zW d MX2_allCanCome 19 S Q = zGo d MX2_allCanCome (.if_icmp .ge 30) (zt 49) 22 S Q := zW_step (I := .if_icmp .ge 30) rfl S Q
theorem eX2_allCanCome_22 {d : Nat} {S : zS} {Q : zR → Prop} : zW d MX2_allCanCome 22 S Q = zGo d MX2_allCanCome (.aload 0) z0 23 S Q := zW_step (I := .aload_n 0) rfl S Q
theorem eX2_allCanCome_23 {d : Nat} {S : zS} {Q : zR → Prop} : zW d MX2_allCanCome 23 S Q = zGo d MX2_allCanCome (.getfield 18) (zf 3 2 2) 26 S Q := zW_step (I := .getfield 18) rfl S Q
theorem eX2_allCanCome_26 {d : Nat} {S : zS} {Q : zR → Prop} : zW d MX2_allCanCome 26 S Q = zGo d MX2_allCanCome (.iload 2) z0 27 S Q := zW_step (I := .iload_n 2) rfl S Q
theorem eX2_allCanCome_27 {d : Nat} {S : zS} {Q : zR → Prop} : zW d MX2_allCanCome 27 S Q = zGo d MX2_allCanCome (.baload) (zb 2) 28 S Q := zW_step (I := .baload) rfl S Q
theorem eX2_allCanCome_28 {d : Nat} {S : zS} {Q : zR → Prop} : zW d MX2_allCanCome 28 S Q = zGo d MX2_allCanCome (.iconst 1) (zv (.int 1)) 29 S Q := zW_step (I := .iconst 1) rfl S Q
theorem eX2_allCanCome_29 {d : Nat} {S : zS} {Q : zR → Prop} : zW d MX2_allCanCome 29 S Q = zGo d MX2_allCanCome (.if_icmp .ne 14) (zt 43) 32 S Q := zW_step (I := .if_icmp .ne 14) rfl S Q
theorem eX2_allCanCome_32 {d : Nat} {S : zS} {Q : zR → Prop} : zW d MX2_allCanCome 32 S Q = zGo d MX2_allCanCome (.aload 0) z0 33 S Q := zW_step (I := .aload_n 0) rfl S Q
theorem eX2_allCanCome_33 {d : Nat} {S : zS} {Q : zR → Prop} : zW d MX2_allCanCome 33 S Q = zGo d MX2_allCanCome (.iload 1) z0 34 S Q := zW_step (I := .iload_n 1) rfl S Q
theorem eX2_allCanCome_34 {d : Nat} {S : zS} {Q : zR → Prop} : zW d MX2_allCanCome 34 S Q = zGo d MX2_allCanCome (.iload 2) z0 35 S Q := zW_step (I := .iload_n 2) rfl S Q
theorem eX2_allCanCome_35 {d : Nat} {S : zS} {Q : zR → Prop} : zW d MX2_allCanCome 35 S Q = zGo d MX2_allCanCome (.aload 0) z0 36 S Q := zW_step (I := .aload_n 0) rfl S Q
theorem eX2_allCanCome_36 {d : Nat} {S : zS} {Q : zR → Prop} : zW d MX2_allCanCome 36 S Q = zGo d MX2_allCanCome (.iload 2) z0 37 S Q := zW_step (I := .iload_n 2) rfl S Q
theorem eX2_allCanCome_37 {d : Nat} {S : zS} {Q : zR → Prop} : zW d MX2_allCanCome 37 S Q = zGo d MX2_allCanCome (.invokevirtual 52) (zc 39 2 2) 40 S Q := zW_step (I := .invokevirtual 52) rfl S Q
theorem eX2_allCanCome_40 {d : Nat} {S : zS} {Q : zR → Prop} : zW d MX2_allCanCome 40 S Q = zGo d MX2_allCanCome (.invokevirtual 55) (zc 40 4 2) 43 S Q := zW_step (I := .invokevirtual 55) rfl S Q
theorem eX2_allCanCome_43 {d : Nat} {S : zS} {Q : zR → Prop} : zW d MX2_allCanCome 43 S Q = zGo d MX2_allCanCome (.iinc 2 1) (zv (.int 1)) 46 S Q := zW_step (I := .iinc 2 1) rfl S Q
theorem eX2_allCanCome_46 {d : Nat} {S : zS} {Q : zR → Prop} : zW d MX2_allCanCome 46 S Q = zGo d MX2_allCanCome (.goto (-29)) (zt 17) 49 S Q := zW_step (I := .goto (-29)) rfl S Q
theorem eX2_allCanCome_49 {d : Nat} {S : zS} {Q : zR → Prop} : zW d MX2_allCanCome 49 S Q = zGo d MX2_allCanCome (.aload 0) z0 50 S Q := zW_step (I := .aload_n 0) rfl S Q
theorem eX2_allCanCome_50 {d : Nat} {S : zS} {Q : zR → Prop} : zW d MX2_allCanCome 50 S Q = zGo d MX2_allCanCome (.getfield 18) (zf 3 2 2) 53 S Q := zW_step (I := .getfield 18) rfl S Q
theorem eX2_allCanCome_53 {d : Nat} {S : zS} {Q : zR → Prop} : zW d MX2_allCanCome 53 S Q = zGo d MX2_allCanCome (.iload 1) z0 54 S Q := zW_step (I := .iload_n 1) rfl S Q
theorem eX2_allCanCome_54 {d : Nat} {S : zS} {Q : zR → Prop} : zW d MX2_allCanCome 54 S Q = zGo d MX2_allCanCome (.baload) (zb 2) 55 S Q := zW_step (I := .baload) rfl S Q
theorem eX2_allCanCome_55 {d : Nat} {S : zS} {Q : zR → Prop} : zW d MX2_allCanCome 55 S Q = zGo d MX2_allCanCome (.iconst 1) (zv (.int 1)) 56 S Q := zW_step (I := .iconst 1) rfl S Q
theorem eX2_allCanCome_56 {d : Nat} {S : zS} {Q : zR → Prop} : zW d MX2_allCanCome 56 S Q = zGo d MX2_allCanCome (.if_icmp .ne 7) (zt 63) 59 S Q := zW_step (I := .if_icmp .ne 7) rfl S Q
theorem eX2_allCanCome_59 {d : Nat} {S : zS} {Q : zR → Prop} : zW d MX2_allCanCome 59 S Q = zGo d MX2_allCanCome (.iconst 1) (zv (.int 1)) 60 S Q := zW_step (I := .iconst 1) rfl S Q
theorem eX2_allCanCome_60 {d : Nat} {S : zS} {Q : zR → Prop} : zW d MX2_allCanCome 60 S Q = zGo d MX2_allCanCome (.goto 4) (zt 64) 63 S Q := zW_step (I := .goto 4) rfl S Q
theorem eX2_allCanCome_63 {d : Nat} {S : zS} {Q : zR → Prop} : zW d MX2_allCanCome 63 S Q = zGo d MX2_allCanCome (.iconst 0) (zv (.int 0)) 64 S Q := zW_step (I := .iconst 0) rfl S Q
theorem eX2_allCanCome_64 {d : Nat} {S : zS} {Q : zR → Prop} : zW d MX2_allCanCome 64 S Q = zGo d MX2_allCanCome (.ireturn) z0 65 S Q := zW_step (I := .ireturn) rfl S Q
theorem rX2_allCanCome : MX2_allCanCome.2.2.2.2.1 = some .boolean := rfl
theorem eX2_stillIn_0 {d : Nat} {S : zS} {Q : zR → Prop} : zW d MX2_stillIn 0 S Q = zGo d MX2_stillIn (.iconst 0) (zv (.int 0)) 1 S Q := zW_step (I := .iconst 0) rfl S Q
theorem eX2_stillIn_1 {d : Nat} {S : zS} {Q : zR → Prop} : zW d MX2_stillIn 1 S Q = zGo d MX2_stillIn (.istore 2) z0 2 S Q := zW_step (I := .istore_n 2) rfl S Q
theorem eX2_stillIn_2 {d : Nat} {S : zS} {Q : zR → Prop} : zW d MX2_stillIn 2 S Q = zGo d MX2_stillIn (.iconst 0) (zv (.int 0)) 3 S Q := zW_step (I := .iconst 0) rfl S Q
theorem eX2_stillIn_3 {d : Nat} {S : zS} {Q : zR → Prop} : zW d MX2_stillIn 3 S Q = zGo d MX2_stillIn (.istore 3) z0 4 S Q := zW_step (I := .istore_n 3) rfl S Q
theorem eX2_stillIn_4 {d : Nat} {S : zS} {Q : zR → Prop} : zW d MX2_stillIn 4 S Q = zGo d MX2_stillIn (.iload 3) z0 5 S Q := zW_step (I := .iload_n 3) rfl S Q
theorem eX2_stillIn_5 {d : Nat} {S : zS} {Q : zR → Prop} : zW d MX2_stillIn 5 S Q = zGo d MX2_stillIn (.bipush 7) (zv (.int 7)) 7 S Q := zW_step (I := .bipush 7) rfl S Q
theorem eX2_stillIn_7 {d : Nat} {S : zS} {Q : zR → Prop} : zW d MX2_stillIn 7 S Q = zGo d MX2_stillIn (.if_icmp .ge 37) (zt 44) 10 S Q := zW_step (I := .if_icmp .ge 37) rfl S Q
theorem eX2_stillIn_10 {d : Nat} {S : zS} {Q : zR → Prop} : zW d MX2_stillIn 10 S Q = zGo d MX2_stillIn (.iload 1) z0 11 S Q := zW_step (I := .iload_n 1) rfl S Q
theorem eX2_stillIn_11 {d : Nat} {S : zS} {Q : zR → Prop} : zW d MX2_stillIn 11 S Q = zGo d MX2_stillIn (.iload 3) z0 12 S Q := zW_step (I := .iload_n 3) rfl S Q
theorem eX2_stillIn_12 {d : Nat} {S : zS} {Q : zR → Prop} : zW d MX2_stillIn 12 S Q = zGo d MX2_stillIn (.ishr) z0 13 S Q := zW_step (I := .ishr) rfl S Q
theorem eX2_stillIn_13 {d : Nat} {S : zS} {Q : zR → Prop} : zW d MX2_stillIn 13 S Q = zGo d MX2_stillIn (.iconst 1) (zv (.int 1)) 14 S Q := zW_step (I := .iconst 1) rfl S Q
theorem eX2_stillIn_14 {d : Nat} {S : zS} {Q : zR → Prop} : zW d MX2_stillIn 14 S Q = zGo d MX2_stillIn (.iand) z0 15 S Q := zW_step (I := .iand) rfl S Q
theorem eX2_stillIn_15 {d : Nat} {S : zS} {Q : zR → Prop} : zW d MX2_stillIn 15 S Q = zGo d MX2_stillIn (.iconst 1) (zv (.int 1)) 16 S Q := zW_step (I := .iconst 1) rfl S Q
theorem eX2_stillIn_16 {d : Nat} {S : zS} {Q : zR → Prop} : zW d MX2_stillIn 16 S Q = zGo d MX2_stillIn (.if_icmp .ne 22) (zt 38) 19 S Q := zW_step (I := .if_icmp .ne 22) rfl S Q
theorem eX2_stillIn_19 {d : Nat} {S : zS} {Q : zR → Prop} : zW d MX2_stillIn 19 S Q = zGo d MX2_stillIn (.aload 0) z0 20 S Q := zW_step (I := .aload_n 0) rfl S Q
theorem eX2_stillIn_20 {d : Nat} {S : zS} {Q : zR → Prop} : zW d MX2_stillIn 20 S Q = zGo d MX2_stillIn (.getfield 9) (zf 3 2 0) 23 S Q := zW_step (I := .getfield 9) rfl S Q
theorem eX2_stillIn_23 {d : Nat} {S : zS} {Q : zR → Prop} : zW d MX2_stillIn 23 S Q = zGo d MX2_stillIn (.iload 3) z0 24 S Q := zW_step (I := .iload_n 3) rfl S Q
theorem eX2_stillIn_24 {d : Nat} {S : zS} {Q : zR → Prop} : zW d MX2_stillIn 24 S Q = zGo d MX2_stillIn (.iaload) z0 25 S Q := zW_step (I := .iaload) rfl S Q
theorem eX2_stillIn_25 {d : Nat} {S : zS} {Q : zR → Prop} : zW d MX2_stillIn 25 S Q = zGo d MX2_stillIn (.iload 1) z0 26 S Q := zW_step (I := .iload_n 1) rfl S Q
theorem eX2_stillIn_26 {d : Nat} {S : zS} {Q : zR → Prop} : zW d MX2_stillIn 26 S Q = zGo d MX2_stillIn (.iconst (-1)) (zv (.int (-1))) 27 S Q := zW_step (I := .iconst (-1)) rfl S Q
theorem eX2_stillIn_27 {d : Nat} {S : zS} {Q : zR → Prop} : zW d MX2_stillIn 27 S Q = zGo d MX2_stillIn (.ixor) z0 28 S Q := zW_step (I := .ixor) rfl S Q
theorem eX2_stillIn_28 {d : Nat} {S : zS} {Q : zR → Prop} : zW d MX2_stillIn 28 S Q = zGo d MX2_stillIn (.iand) z0 29 S Q := zW_step (I := .iand) rfl S Q
theorem eX2_stillIn_29 {d : Nat} {S : zS} {Q : zR → Prop} : zW d MX2_stillIn 29 S Q = zGo d MX2_stillIn (.ifCond .eq 9) (zt 38) 32 S Q := zW_step (I := .ifCond .eq 9) rfl S Q
theorem eX2_stillIn_32 {d : Nat} {S : zS} {Q : zR → Prop} : zW d MX2_stillIn 32 S Q = zGo d MX2_stillIn (.iload 2) z0 33 S Q := zW_step (I := .iload_n 2) rfl S Q
theorem eX2_stillIn_33 {d : Nat} {S : zS} {Q : zR → Prop} : zW d MX2_stillIn 33 S Q = zGo d MX2_stillIn (.iconst 1) (zv (.int 1)) 34 S Q := zW_step (I := .iconst 1) rfl S Q
theorem eX2_stillIn_34 {d : Nat} {S : zS} {Q : zR → Prop} : zW d MX2_stillIn 34 S Q = zGo d MX2_stillIn (.iload 3) z0 35 S Q := zW_step (I := .iload_n 3) rfl S Q
theorem eX2_stillIn_35 {d : Nat} {S : zS} {Q : zR → Prop} : zW d MX2_stillIn 35 S Q = zGo d MX2_stillIn (.ishl) z0 36 S Q := zW_step (I := .ishl) rfl S Q
theorem eX2_stillIn_36 {d : Nat} {S : zS} {Q : zR → Prop} : zW d MX2_stillIn 36 S Q = zGo d MX2_stillIn (.ior) z0 37 S Q := zW_step (I := .ior) rfl S Q
theorem eX2_stillIn_37 {d : Nat} {S : zS} {Q : zR → Prop} : zW d MX2_stillIn 37 S Q = zGo d MX2_stillIn (.istore 2) z0 38 S Q := zW_step (I := .istore_n 2) rfl S Q
theorem eX2_stillIn_38 {d : Nat} {S : zS} {Q : zR → Prop} : zW d MX2_stillIn 38 S Q = zGo d MX2_stillIn (.iinc 3 1) (zv (.int 1)) 41 S Q := zW_step (I := .iinc 3 1) rfl S Q
theorem eX2_stillIn_41 {d : Nat} {S : zS} {Q : zR → Prop} : zW d MX2_stillIn 41 S Q = zGo d MX2_stillIn (.goto (-37)) (zt 4) 44 S Q := zW_step (I := .goto (-37)) rfl S Q
theorem eX2_stillIn_44 {d : Nat} {S : zS} {Q : zR → Prop} : zW d MX2_stillIn 44 S Q = zGo d MX2_stillIn (.iload 2) z0 45 S Q := zW_step (I := .iload_n 2) rfl S Q
theorem eX2_stillIn_45 {d : Nat} {S : zS} {Q : zR → Prop} : zW d MX2_stillIn 45 S Q = zGo d MX2_stillIn (.ireturn) z0 46 S Q := zW_step (I := .ireturn) rfl S Q
theorem rX2_stillIn : MX2_stillIn.2.2.2.2.1 = some .int := rfl
theorem eX2_comeNext_0 {d : Nat} {S : zS} {Q : zR → Prop} : zW d MX2_comeNext 0 S Q = zGo d MX2_comeNext (.iload 1) z0 1 S Q := zW_step (I := .iload_n 1) rfl S Q
theorem eX2_comeNext_1 {d : Nat} {S : zS} {Q : zR → Prop} : zW d MX2_comeNext 1 S Q = zGo d MX2_comeNext (.iload 2) z0 2 S Q := zW_step (I := .iload_n 2) rfl S Q
theorem eX2_comeNext_2 {d : Nat} {S : zS} {Q : zR → Prop} : zW d MX2_comeNext 2 S Q = zGo d MX2_comeNext (.iconst (-1)) (zv (.int (-1))) 3 S Q := zW_step (I := .iconst (-1)) rfl S Q
theorem eX2_comeNext_3 {d : Nat} {S : zS} {Q : zR → Prop} : zW d MX2_comeNext 3 S Q = zGo d MX2_comeNext (.ixor) z0 4 S Q := zW_step (I := .ixor) rfl S Q
theorem eX2_comeNext_4 {d : Nat} {S : zS} {Q : zR → Prop} : zW d MX2_comeNext 4 S Q = zGo d MX2_comeNext (.iand) z0 5 S Q := zW_step (I := .iand) rfl S Q
theorem eX2_comeNext_5 {d : Nat} {S : zS} {Q : zR → Prop} : zW d MX2_comeNext 5 S Q = zGo d MX2_comeNext (.istore 4) z0 7 S Q := zW_step (I := .istore 4) rfl S Q
theorem eX2_comeNext_7 {d : Nat} {S : zS} {Q : zR → Prop} : zW d MX2_comeNext 7 S Q = zGo d MX2_comeNext (.iconst 0) (zv (.int 0)) 8 S Q := zW_step (I := .iconst 0) rfl S Q
theorem eX2_comeNext_8 {d : Nat} {S : zS} {Q : zR → Prop} : zW d MX2_comeNext 8 S Q = zGo d MX2_comeNext (.istore 5) z0 10 S Q := zW_step (I := .istore 5) rfl S Q
theorem eX2_comeNext_10 {d : Nat} {S : zS} {Q : zR → Prop} : zW d MX2_comeNext 10 S Q = zGo d MX2_comeNext (.iload 5) z0 12 S Q := zW_step (I := .iload 5) rfl S Q
theorem eX2_comeNext_12 {d : Nat} {S : zS} {Q : zR → Prop} : zW d MX2_comeNext 12 S Q = zGo d MX2_comeNext (.bipush 7) (zv (.int 7)) 14 S Q := zW_step (I := .bipush 7) rfl S Q
theorem eX2_comeNext_14 {d : Nat} {S : zS} {Q : zR → Prop} : zW d MX2_comeNext 14 S Q = zGo d MX2_comeNext (.if_icmp .ge 44) (zt 58) 17 S Q := zW_step (I := .if_icmp .ge 44) rfl S Q
theorem eX2_comeNext_17 {d : Nat} {S : zS} {Q : zR → Prop} : zW d MX2_comeNext 17 S Q = zGo d MX2_comeNext (.iload 4) z0 19 S Q := zW_step (I := .iload 4) rfl S Q
theorem eX2_comeNext_19 {d : Nat} {S : zS} {Q : zR → Prop} : zW d MX2_comeNext 19 S Q = zGo d MX2_comeNext (.iload 5) z0 21 S Q := zW_step (I := .iload 5) rfl S Q
theorem eX2_comeNext_21 {d : Nat} {S : zS} {Q : zR → Prop} : zW d MX2_comeNext 21 S Q = zGo d MX2_comeNext (.ishr) z0 22 S Q := zW_step (I := .ishr) rfl S Q
theorem eX2_comeNext_22 {d : Nat} {S : zS} {Q : zR → Prop} : zW d MX2_comeNext 22 S Q = zGo d MX2_comeNext (.iconst 1) (zv (.int 1)) 23 S Q := zW_step (I := .iconst 1) rfl S Q
theorem eX2_comeNext_23 {d : Nat} {S : zS} {Q : zR → Prop} : zW d MX2_comeNext 23 S Q = zGo d MX2_comeNext (.iand) z0 24 S Q := zW_step (I := .iand) rfl S Q
theorem eX2_comeNext_24 {d : Nat} {S : zS} {Q : zR → Prop} : zW d MX2_comeNext 24 S Q = zGo d MX2_comeNext (.iconst 1) (zv (.int 1)) 25 S Q := zW_step (I := .iconst 1) rfl S Q
theorem eX2_comeNext_25 {d : Nat} {S : zS} {Q : zR → Prop} : zW d MX2_comeNext 25 S Q = zGo d MX2_comeNext (.if_icmp .ne 27) (zt 52) 28 S Q := zW_step (I := .if_icmp .ne 27) rfl S Q
theorem eX2_comeNext_28 {d : Nat} {S : zS} {Q : zR → Prop} : zW d MX2_comeNext 28 S Q = zGo d MX2_comeNext (.aload 0) z0 29 S Q := zW_step (I := .aload_n 0) rfl S Q
theorem eX2_comeNext_29 {d : Nat} {S : zS} {Q : zR → Prop} : zW d MX2_comeNext 29 S Q = zGo d MX2_comeNext (.getfield 15) (zf 3 2 1) 32 S Q := zW_step (I := .getfield 15) rfl S Q
theorem eX2_comeNext_32 {d : Nat} {S : zS} {Q : zR → Prop} : zW d MX2_comeNext 32 S Q = zGo d MX2_comeNext (.iload 5) z0 34 S Q := zW_step (I := .iload 5) rfl S Q
theorem eX2_comeNext_34 {d : Nat} {S : zS} {Q : zR → Prop} : zW d MX2_comeNext 34 S Q = zGo d MX2_comeNext (.iaload) z0 35 S Q := zW_step (I := .iaload) rfl S Q
theorem eX2_comeNext_35 {d : Nat} {S : zS} {Q : zR → Prop} : zW d MX2_comeNext 35 S Q = zGo d MX2_comeNext (.iload 3) z0 36 S Q := zW_step (I := .iload_n 3) rfl S Q
theorem eX2_comeNext_36 {d : Nat} {S : zS} {Q : zR → Prop} : zW d MX2_comeNext 36 S Q = zGo d MX2_comeNext (.iand) z0 37 S Q := zW_step (I := .iand) rfl S Q
theorem eX2_comeNext_37 {d : Nat} {S : zS} {Q : zR → Prop} : zW d MX2_comeNext 37 S Q = zGo d MX2_comeNext (.ifCond .ne 15) (zt 52) 40 S Q := zW_step (I := .ifCond .ne 15) rfl S Q
theorem eX2_comeNext_40 {d : Nat} {S : zS} {Q : zR → Prop} : zW d MX2_comeNext 40 S Q = zGo d MX2_comeNext (.aload 0) z0 41 S Q := zW_step (I := .aload_n 0) rfl S Q
theorem eX2_comeNext_41 {d : Nat} {S : zS} {Q : zR → Prop} : zW d MX2_comeNext 41 S Q = zGo d MX2_comeNext (.getfield 18) (zf 3 2 2) 44 S Q := zW_step (I := .getfield 18) rfl S Q
theorem eX2_comeNext_44 {d : Nat} {S : zS} {Q : zR → Prop} : zW d MX2_comeNext 44 S Q = zGo d MX2_comeNext (.iload 2) z0 45 S Q := zW_step (I := .iload_n 2) rfl S Q
theorem eX2_comeNext_45 {d : Nat} {S : zS} {Q : zR → Prop} : zW d MX2_comeNext 45 S Q = zGo d MX2_comeNext (.iconst 1) (zv (.int 1)) 46 S Q := zW_step (I := .iconst 1) rfl S Q
theorem eX2_comeNext_46 {d : Nat} {S : zS} {Q : zR → Prop} : zW d MX2_comeNext 46 S Q = zGo d MX2_comeNext (.iload 5) z0 48 S Q := zW_step (I := .iload 5) rfl S Q
theorem eX2_comeNext_48 {d : Nat} {S : zS} {Q : zR → Prop} : zW d MX2_comeNext 48 S Q = zGo d MX2_comeNext (.ishl) z0 49 S Q := zW_step (I := .ishl) rfl S Q
theorem eX2_comeNext_49 {d : Nat} {S : zS} {Q : zR → Prop} : zW d MX2_comeNext 49 S Q = zGo d MX2_comeNext (.ior) z0 50 S Q := zW_step (I := .ior) rfl S Q
theorem eX2_comeNext_50 {d : Nat} {S : zS} {Q : zR → Prop} : zW d MX2_comeNext 50 S Q = zGo d MX2_comeNext (.iconst 1) (zv (.int 1)) 51 S Q := zW_step (I := .iconst 1) rfl S Q
theorem eX2_comeNext_51 {d : Nat} {S : zS} {Q : zR → Prop} : zW d MX2_comeNext 51 S Q = zGo d MX2_comeNext (.bastore) (zb 2) 52 S Q := zW_step (I := .bastore) rfl S Q
theorem eX2_comeNext_52 {d : Nat} {S : zS} {Q : zR → Prop} : zW d MX2_comeNext 52 S Q = zGo d MX2_comeNext (.iinc 5 1) (zv (.int 1)) 55 S Q := zW_step (I := .iinc 5 1) rfl S Q
theorem eX2_comeNext_55 {d : Nat} {S : zS} {Q : zR → Prop} : zW d MX2_comeNext 55 S Q = zGo d MX2_comeNext (.goto (-45)) (zt 10) 58 S Q := zW_step (I := .goto (-45)) rfl S Q
theorem eX2_comeNext_58 {d : Nat} {S : zS} {Q : zR → Prop} : zW d MX2_comeNext 58 S Q = zGo d MX2_comeNext (.return_) z0 59 S Q := zW_step (I := .return_) rfl S Q
theorem rX2_comeNext : MX2_comeNext.2.2.2.2.1 = none := rfl
theorem eJ7_fill_031fb_0 {d : Nat} {S : zS} {Q : zR → Prop} : zW d MJ7_fill_031fb 0 S Q = zGo d MJ7_fill_031fb (.iconst 0) (zv (.int 0)) 1 S Q := zW_step (I := .iconst 0) rfl S Q
theorem eJ7_fill_031fb_1 {d : Nat} {S : zS} {Q : zR → Prop} : zW d MJ7_fill_031fb 1 S Q = zGo d MJ7_fill_031fb (.istore 2) z0 2 S Q := zW_step (I := .istore_n 2) rfl S Q
theorem eJ7_fill_031fb_2 {d : Nat} {S : zS} {Q : zR → Prop} : zW d MJ7_fill_031fb 2 S Q = zGo d MJ7_fill_031fb (.aload 0) z0 3 S Q := zW_step (I := .aload_n 0) rfl S Q
theorem eJ7_fill_031fb_3 {d : Nat} {S : zS} {Q : zR → Prop} : zW d MJ7_fill_031fb 3 S Q = zGo d MJ7_fill_031fb (.arraylength) z0 4 S Q := zW_step (I := .arraylength) rfl S Q
theorem eJ7_fill_031fb_4 {d : Nat} {S : zS} {Q : zR → Prop} : zW d MJ7_fill_031fb 4 S Q = zGo d MJ7_fill_031fb (.istore 3) z0 5 S Q := zW_step (I := .istore_n 3) rfl S Q
theorem eJ7_fill_031fb_5 {d : Nat} {S : zS} {Q : zR → Prop} : zW d MJ7_fill_031fb 5 S Q = zGo d MJ7_fill_031fb (.iload 2) z0 6 S Q := zW_step (I := .iload_n 2) rfl S Q
theorem eJ7_fill_031fb_6 {d : Nat} {S : zS} {Q : zR → Prop} : zW d MJ7_fill_031fb 6 S Q = zGo d MJ7_fill_031fb (.iload 3) z0 7 S Q := zW_step (I := .iload_n 3) rfl S Q
theorem eJ7_fill_031fb_7 {d : Nat} {S : zS} {Q : zR → Prop} : zW d MJ7_fill_031fb 7 S Q = zGo d MJ7_fill_031fb (.if_icmp .ge 13) (zt 20) 10 S Q := zW_step (I := .if_icmp .ge 13) rfl S Q
theorem eJ7_fill_031fb_10 {d : Nat} {S : zS} {Q : zR → Prop} : zW d MJ7_fill_031fb 10 S Q = zGo d MJ7_fill_031fb (.aload 0) z0 11 S Q := zW_step (I := .aload_n 0) rfl S Q
theorem eJ7_fill_031fb_11 {d : Nat} {S : zS} {Q : zR → Prop} : zW d MJ7_fill_031fb 11 S Q = zGo d MJ7_fill_031fb (.iload 2) z0 12 S Q := zW_step (I := .iload_n 2) rfl S Q
theorem eJ7_fill_031fb_12 {d : Nat} {S : zS} {Q : zR → Prop} : zW d MJ7_fill_031fb 12 S Q = zGo d MJ7_fill_031fb (.iload 1) z0 13 S Q := zW_step (I := .iload_n 1) rfl S Q
theorem eJ7_fill_031fb_13 {d : Nat} {S : zS} {Q : zR → Prop} : zW d MJ7_fill_031fb 13 S Q = zGo d MJ7_fill_031fb (.bastore) (zb 2) 14 S Q := zW_step (I := .bastore) rfl S Q
theorem eJ7_fill_031fb_14 {d : Nat} {S : zS} {Q : zR → Prop} : zW d MJ7_fill_031fb 14 S Q = zGo d MJ7_fill_031fb (.iinc 2 1) (zv (.int 1)) 17 S Q := zW_step (I := .iinc 2 1) rfl S Q
theorem eJ7_fill_031fb_17 {d : Nat} {S : zS} {Q : zR → Prop} : zW d MJ7_fill_031fb 17 S Q = zGo d MJ7_fill_031fb (.goto (-12)) (zt 5) 20 S Q := zW_step (I := .goto (-12)) rfl S Q
theorem eJ7_fill_031fb_20 {d : Nat} {S : zS} {Q : zR → Prop} : zW d MJ7_fill_031fb 20 S Q = zGo d MJ7_fill_031fb (.return_) z0 21 S Q := zW_step (I := .return_) rfl S Q
theorem rJ7_fill_031fb : MJ7_fill_031fb.2.2.2.2.1 = none := rfl
def b01 (b : Bool) : Int32 := if b then 1 else 0
theorem b01_t : b01 true = 1 := rfl
theorem b01_f : b01 false = 0 := rfl
theorem q_updB (f : Nat → Bool) (i : Nat) : upd (fun k => b01 (f k)) i 1 = fun k => b01 (z_up f i true k) := by
  funext k
  unfold upd z_up
  split <;> rfl
theorem vp_b0 : vp_nar .byte 0 = 0 := by decide
theorem vp_b1 : vp_nar .byte 1 = 1 := by decide
def fitsAt (h : Nat → zE) (f : Nat) (nd br : Nat → Nat) (rc : Nat → Bool) : Prop := f + 3 < 1000 ∧ h f = zO 2 [.ref (f + 1), .ref (f + 2), .ref (f + 3)] ∧ h (f + 1) = zI 0 7 (fun i => nI (nd i)) ∧ h (f + 2) = zI 0 7 (fun i => nI (br i)) ∧ h (f + 3) = zI 2 128 (fun i => b01 (rc i)) ∧ (∀ i, nd i < 128) ∧ (∀ i, br i < 128)
def fitsSet (h : Nat → zE) (f : Nat) (nd br : Nat → Nat) (rc : Nat → Bool) : Nat → zE := fun j => if j = f then zO 2 [.ref (f + 1), .ref (f + 2), .ref (f + 3)] else if j = f + 1 then zI 0 7 (fun i => nI (nd i)) else if j = f + 2 then zI 0 7 (fun i => nI (br i)) else if j = f + 3 then zI 2 128 (fun i => b01 (rc i)) else h j
def stl (nd : Nat → Nat) (c : Nat) : Nat → Nat
  | 0 => 0
  | k + 1 => if c.testBit k = true ∧ ¬ nd k &&& (127 - c) = 0 then stl nd c k ||| 2 ^ k else stl nd c k
def cmn (br : Nat → Nat) (left c st : Nat) (rc : Nat → Bool) : Nat → Nat → Bool
  | 0 => rc
  | k + 1 => if left.testBit k = true ∧ br k &&& st = 0 then z_up (cmn br left c st rc k) (c ||| 2 ^ k) true else cmn br left c st rc k
def fl0 (rc : Nat → Bool) : Nat → Bool := fun i => if i < 128 then decide (i = 0) else rc i
def acm (nd br : Nat → Nat) (s : Nat) (rc : Nat → Bool) : Nat → Nat → Bool
  | 0 => fl0 rc
  | k + 1 => if acm nd br s rc k k = true then cmn br (s &&& (127 - k)) k (stl nd k 7) (acm nd br s rc k) 7 else acm nd br s rc k
theorem stl_lt {nd : Nat → Nat} {c : Nat} : ∀ o, o ≤ 7 → stl nd c o < 128 := by
  intro o
  induction o with
  | zero => intro _; exact (by decide : 0 < 128)
  | succ o ih =>
    intro ho
    unfold stl
    split
    · exact q_or_lt (ih (by omega)) (q_pow_lt (by omega))
    · exact ih (by omega)
section FITS
variable {h h' : Nat → zE} {f b n : Nat} {nd br nd' br' rm mt nt : Nat → Nat} {rc rc' : Nat → Bool} {fm : Bool} {vr : Int32} {d : Nat} {u : zU} {Q : zR → Prop}
theorem fitsSet_at (hf : f + 3 < 1000) (h1 : ∀ i, nd i < 128) (h2 : ∀ i, br i < 128) : fitsAt (fitsSet h f nd br rc) f nd br rc := by
  refine ⟨hf, ?_, ?_, ?_, ?_, h1, h2⟩ <;> simp [fitsSet]
theorem fitsSet_out {j : Nat} (hj : j < f ∨ f + 3 < j) : fitsSet h f nd br rc j = h j := by
  unfold fitsSet
  rw [if_neg (by omega), if_neg (by omega), if_neg (by omega), if_neg (by omega)]
theorem fitsSet_of (ho : ∀ j, j < f ∨ f + 3 < j → h' j = h j) (h0 : h' f = zO 2 [.ref (f + 1), .ref (f + 2), .ref (f + 3)]) (h1 : h' (f + 1) = zI 0 7 (fun i => nI (nd i))) (h2 : h' (f + 2) = zI 0 7 (fun i => nI (br i))) (h3 : h' (f + 3) = zI 2 128 (fun i => b01 (rc i))) : h' = fitsSet h f nd br rc := by
  funext j
  unfold fitsSet
  by_cases c0 : j = f
  · rw [if_pos c0, c0, h0]
  · rw [if_neg c0]
    by_cases c1 : j = f + 1
    · rw [if_pos c1, c1, h1]
    · rw [if_neg c1]
      by_cases c2 : j = f + 2
      · rw [if_pos c2, c2, h2]
      · rw [if_neg c2]
        by_cases c3 : j = f + 3
        · rw [if_pos c3, c3, h3]
        · rw [if_neg c3]
          exact ho j (by omega)
theorem fitsSet_self (hF : fitsAt h f nd br rc) : fitsSet h f nd br rc = h := (fitsSet_of (fun _ _ => rfl) hF.2.1 hF.2.2.1 hF.2.2.2.1 hF.2.2.2.2.1).symm
theorem fitsSet_set : fitsSet (fitsSet h f nd br rc) f nd' br' rc' = fitsSet h f nd' br' rc' := by
  funext j
  by_cases c : j < f ∨ f + 3 < j
  · rw [fitsSet_out c, fitsSet_out c, fitsSet_out c]
  · unfold fitsSet
    by_cases c0 : j = f
    · simp [c0]
    · by_cases c1 : j = f + 1
      · simp [c1]
      · by_cases c2 : j = f + 2
        · simp [c2]
        · have c3 : j = f + 3 := by omega
          simp [c3]
theorem fits_up1 (hF : fitsAt h f nd br rc) : z_up h (f + 1) (zI 0 7 (fun i => nI (nd' i))) = fitsSet h f nd' br rc := by
  obtain ⟨hf, h0, h1, h2, h3, -⟩ := hF
  apply fitsSet_of
  · intro j hj; rw [z_up_n _ _ (by omega)]
  · rw [z_up_n _ _ (by omega)]; exact h0
  · rw [z_up_s]
  · rw [z_up_n _ _ (by omega)]; exact h2
  · rw [z_up_n _ _ (by omega)]; exact h3
theorem fits_up2 (hF : fitsAt h f nd br rc) : z_up h (f + 2) (zI 0 7 (fun i => nI (br' i))) = fitsSet h f nd br' rc := by
  obtain ⟨hf, h0, h1, h2, h3, -⟩ := hF
  apply fitsSet_of
  · intro j hj; rw [z_up_n _ _ (by omega)]
  · rw [z_up_n _ _ (by omega)]; exact h0
  · rw [z_up_n _ _ (by omega)]; exact h1
  · rw [z_up_s]
  · rw [z_up_n _ _ (by omega)]; exact h3
theorem fits_up3 (hF : fitsAt h f nd br rc) : z_up h (f + 3) (zI 2 128 (fun i => b01 (rc' i))) = fitsSet h f nd br rc' := by
  obtain ⟨hf, h0, h1, h2, h3, -⟩ := hF
  apply fitsSet_of
  · intro j hj; rw [z_up_n _ _ (by omega)]
  · rw [z_up_n _ _ (by omega)]; exact h0
  · rw [z_up_n _ _ (by omega)]; exact h1
  · rw [z_up_n _ _ (by omega)]; exact h2
  · rw [z_up_s]
theorem w_still (hF : fitsAt h f nd br rc) {c : Nat} (hc : c < 128) : ∀ k o, 7 - o = k → o ≤ 7 → zW d MX2_stillIn 4 ([.ref f, .int (nI c), .int (nI (stl nd c o)), .int (nI o)], [], (h, u)) (fun q => q = (some (.int (nI (stl nd c 7))), (h, u))) := by
  obtain ⟨hf, h0, h1, h2, h3, hn, hb⟩ := id hF
  have hf0 : f < 1000 := by omega
  have hf1 : f + 1 < 1000 := by omega
  intro k
  induction k with
  | zero =>
    intro o ho hle
    have e : o = 7 := by omega
    subst e
    rw [eX2_stillIn_4]
    simp only [eX2_stillIn_0, eX2_stillIn_1, eX2_stillIn_2, eX2_stillIn_3, eX2_stillIn_5, eX2_stillIn_7, eX2_stillIn_10, eX2_stillIn_11, eX2_stillIn_12, eX2_stillIn_13, eX2_stillIn_14, eX2_stillIn_15, eX2_stillIn_16, eX2_stillIn_19, eX2_stillIn_20, eX2_stillIn_23, eX2_stillIn_24, eX2_stillIn_25, eX2_stillIn_26, eX2_stillIn_27, eX2_stillIn_28, eX2_stillIn_29, eX2_stillIn_32, eX2_stillIn_33, eX2_stillIn_34, eX2_stillIn_35, eX2_stillIn_36, eX2_stillIn_37, eX2_stillIn_38, eX2_stillIn_41, eX2_stillIn_44, eX2_stillIn_45, rX2_stillIn, zg_aload, zg_bipush, zg_getfield, zg_goto, zg_iaload, zg_iand, zg_icmp, zg_iconst, zg_if, zg_iinc, zg_iload, zg_ior, zg_ireturn, zg_ishl, zg_ishr, zg_istore, zg_ixor, q10, q01, q00, ite_self, zLd_i, zLd_l, zLd_a, zInc_i, zGet_o, zGet2_s, zPut_o, zAld_i, zAll_j, zAst_i, zAsl_j, zLen_i, zLen_j, zRt_i, zRt_z, zRl2_l, zRv_n, List.getElem?_cons_zero, List.getElem?_cons_succ, List.length_cons, List.length_nil, z_set, z_set2, z_cut, List.set_cons_zero, List.set_cons_succ, Option.toList_some, Option.toList_none, List.cons_append, List.nil_append, zif, zW_ite, zfit_0, zfit_1, zfit_2, zfit_3, zisc_o, zRt_c, zRt_b, List.map_cons, List.map_nil, List.sum_cons, List.sum_nil, true_and, and_true, if_true, if_false, ite_true, ite_false, Nat.reduceLT, Nat.reduceLeDiff, Nat.reduceAdd, Nat.reduceEqDiff, eq_self, not_true_eq_false, not_false_eq_true, Nat.lt_irrefl, or_true, true_or, or_false, false_or, z_cell_lt, Value.category, nI_77]
  | succ k ih =>
    intro o ho hle
    have ho7 : o < 7 := by omega
    have ih := ih (o + 1) (by omega) (by omega)
    have q0 : (nI (nd o &&& (127 - c)) = 0) = (nd o &&& (127 - c) = 0) := nI_eqI (b := 0) (Nat.lt_trans (q_and_lt (hn o)) (by decide)) (by decide)
    rw [show stl nd c (o + 1) = if c.testBit o = true ∧ ¬ nd o &&& (127 - c) = 0 then stl nd c o ||| 2 ^ o else stl nd c o from rfl] at ih
    rw [eX2_stillIn_4]
    by_cases c1 : c.testBit o = true
    · by_cases c2 : nd o &&& (127 - c) = 0
      · rw [if_neg (by simp [c2])] at ih
        simp only [eX2_stillIn_0, eX2_stillIn_1, eX2_stillIn_2, eX2_stillIn_3, eX2_stillIn_5, eX2_stillIn_7, eX2_stillIn_10, eX2_stillIn_11, eX2_stillIn_12, eX2_stillIn_13, eX2_stillIn_14, eX2_stillIn_15, eX2_stillIn_16, eX2_stillIn_19, eX2_stillIn_20, eX2_stillIn_23, eX2_stillIn_24, eX2_stillIn_25, eX2_stillIn_26, eX2_stillIn_27, eX2_stillIn_28, eX2_stillIn_29, eX2_stillIn_32, eX2_stillIn_33, eX2_stillIn_34, eX2_stillIn_35, eX2_stillIn_36, eX2_stillIn_37, eX2_stillIn_38, eX2_stillIn_41, eX2_stillIn_44, eX2_stillIn_45, rX2_stillIn, zg_aload, zg_bipush, zg_getfield, zg_goto, zg_iaload, zg_iand, zg_icmp, zg_iconst, zg_if, zg_iinc, zg_iload, zg_ior, zg_ireturn, zg_ishl, zg_ishr, zg_istore, zg_ixor, q10, q01, q00, ite_self, zLd_i, zLd_l, zLd_a, zInc_i, zGet_o, zGet2_s, zPut_o, zAld_i, zAll_j, zAst_i, zAsl_j, zLen_i, zLen_j, zRt_i, zRt_z, zRl2_l, zRv_n, List.getElem?_cons_zero, List.getElem?_cons_succ, List.length_cons, List.length_nil, z_set, z_set2, z_cut, List.set_cons_zero, List.set_cons_succ, Option.toList_some, Option.toList_none, List.cons_append, List.nil_append, zif, zW_ite, zfit_0, zfit_1, zfit_2, zfit_3, zisc_o, zRt_c, zRt_b, List.map_cons, List.map_nil, List.sum_cons, List.sum_nil, true_and, and_true, if_true, if_false, ite_true, ite_false, Nat.reduceLT, Nat.reduceLeDiff, Nat.reduceAdd, Nat.reduceEqDiff, eq_self, not_true_eq_false, not_false_eq_true, Nat.lt_irrefl, or_true, true_or, or_false, false_or, z_cell_lt, Value.category, h0, h1, hf0, hf1, nI_lt7 ho7, nI_7 ho7, nI_c ho7, q_bit c hc o (by omega), c1, q_andn _ (hn o) _ hc, q0, c2, nI_1]
        exact ih
      · rw [if_pos ⟨c1, c2⟩] at ih
        simp only [eX2_stillIn_0, eX2_stillIn_1, eX2_stillIn_2, eX2_stillIn_3, eX2_stillIn_5, eX2_stillIn_7, eX2_stillIn_10, eX2_stillIn_11, eX2_stillIn_12, eX2_stillIn_13, eX2_stillIn_14, eX2_stillIn_15, eX2_stillIn_16, eX2_stillIn_19, eX2_stillIn_20, eX2_stillIn_23, eX2_stillIn_24, eX2_stillIn_25, eX2_stillIn_26, eX2_stillIn_27, eX2_stillIn_28, eX2_stillIn_29, eX2_stillIn_32, eX2_stillIn_33, eX2_stillIn_34, eX2_stillIn_35, eX2_stillIn_36, eX2_stillIn_37, eX2_stillIn_38, eX2_stillIn_41, eX2_stillIn_44, eX2_stillIn_45, rX2_stillIn, zg_aload, zg_bipush, zg_getfield, zg_goto, zg_iaload, zg_iand, zg_icmp, zg_iconst, zg_if, zg_iinc, zg_iload, zg_ior, zg_ireturn, zg_ishl, zg_ishr, zg_istore, zg_ixor, q10, q01, q00, ite_self, zLd_i, zLd_l, zLd_a, zInc_i, zGet_o, zGet2_s, zPut_o, zAld_i, zAll_j, zAst_i, zAsl_j, zLen_i, zLen_j, zRt_i, zRt_z, zRl2_l, zRv_n, List.getElem?_cons_zero, List.getElem?_cons_succ, List.length_cons, List.length_nil, z_set, z_set2, z_cut, List.set_cons_zero, List.set_cons_succ, Option.toList_some, Option.toList_none, List.cons_append, List.nil_append, zif, zW_ite, zfit_0, zfit_1, zfit_2, zfit_3, zisc_o, zRt_c, zRt_b, List.map_cons, List.map_nil, List.sum_cons, List.sum_nil, true_and, and_true, if_true, if_false, ite_true, ite_false, Nat.reduceLT, Nat.reduceLeDiff, Nat.reduceAdd, Nat.reduceEqDiff, eq_self, not_true_eq_false, not_false_eq_true, Nat.lt_irrefl, or_true, true_or, or_false, false_or, z_cell_lt, Value.category, h0, h1, hf0, hf1, nI_lt7 ho7, nI_7 ho7, nI_c ho7, q_bit c hc o (by omega), c1, q_andn _ (hn o) _ hc, q0, c2, q_shl o (by omega), q_or, nI_1]
        exact ih
    · rw [if_neg (fun q => c1 q.1)] at ih
      simp only [eX2_stillIn_0, eX2_stillIn_1, eX2_stillIn_2, eX2_stillIn_3, eX2_stillIn_5, eX2_stillIn_7, eX2_stillIn_10, eX2_stillIn_11, eX2_stillIn_12, eX2_stillIn_13, eX2_stillIn_14, eX2_stillIn_15, eX2_stillIn_16, eX2_stillIn_19, eX2_stillIn_20, eX2_stillIn_23, eX2_stillIn_24, eX2_stillIn_25, eX2_stillIn_26, eX2_stillIn_27, eX2_stillIn_28, eX2_stillIn_29, eX2_stillIn_32, eX2_stillIn_33, eX2_stillIn_34, eX2_stillIn_35, eX2_stillIn_36, eX2_stillIn_37, eX2_stillIn_38, eX2_stillIn_41, eX2_stillIn_44, eX2_stillIn_45, rX2_stillIn, zg_aload, zg_bipush, zg_getfield, zg_goto, zg_iaload, zg_iand, zg_icmp, zg_iconst, zg_if, zg_iinc, zg_iload, zg_ior, zg_ireturn, zg_ishl, zg_ishr, zg_istore, zg_ixor, q10, q01, q00, ite_self, zLd_i, zLd_l, zLd_a, zInc_i, zGet_o, zGet2_s, zPut_o, zAld_i, zAll_j, zAst_i, zAsl_j, zLen_i, zLen_j, zRt_i, zRt_z, zRl2_l, zRv_n, List.getElem?_cons_zero, List.getElem?_cons_succ, List.length_cons, List.length_nil, z_set, z_set2, z_cut, List.set_cons_zero, List.set_cons_succ, Option.toList_some, Option.toList_none, List.cons_append, List.nil_append, zif, zW_ite, zfit_0, zfit_1, zfit_2, zfit_3, zisc_o, zRt_c, zRt_b, List.map_cons, List.map_nil, List.sum_cons, List.sum_nil, true_and, and_true, if_true, if_false, ite_true, ite_false, Nat.reduceLT, Nat.reduceLeDiff, Nat.reduceAdd, Nat.reduceEqDiff, eq_self, not_true_eq_false, not_false_eq_true, Nat.lt_irrefl, or_true, true_or, or_false, false_or, z_cell_lt, Value.category, h0, h1, hf0, hf1, nI_lt7 ho7, q_bit c hc o (by omega), c1, nI_1]
      exact ih
theorem c_still (hF : fitsAt h f nd br rc) {c : Nat} (hc : c < 128) : zK (d + 1) 39 [.ref f, .int (nI c)] (h, u) Q = Q (some (.int (nI (stl nd c 7))), (h, u)) := by
  refine zK_of (k := 1) (by omega) ?_
  refine zK_in (M := MX2_stillIn) rfl (Nat.le_of_ble_eq_true rfl) ?_
  show zW 0 MX2_stillIn 0 ([.ref f, .int (nI c), .null, .null], [], (h, u)) _
  simp only [eX2_stillIn_0, eX2_stillIn_1, eX2_stillIn_2, eX2_stillIn_3, eX2_stillIn_5, eX2_stillIn_7, eX2_stillIn_10, eX2_stillIn_11, eX2_stillIn_12, eX2_stillIn_13, eX2_stillIn_14, eX2_stillIn_15, eX2_stillIn_16, eX2_stillIn_19, eX2_stillIn_20, eX2_stillIn_23, eX2_stillIn_24, eX2_stillIn_25, eX2_stillIn_26, eX2_stillIn_27, eX2_stillIn_28, eX2_stillIn_29, eX2_stillIn_32, eX2_stillIn_33, eX2_stillIn_34, eX2_stillIn_35, eX2_stillIn_36, eX2_stillIn_37, eX2_stillIn_38, eX2_stillIn_41, eX2_stillIn_44, eX2_stillIn_45, rX2_stillIn, zg_aload, zg_bipush, zg_getfield, zg_goto, zg_iaload, zg_iand, zg_icmp, zg_iconst, zg_if, zg_iinc, zg_iload, zg_ior, zg_ireturn, zg_ishl, zg_ishr, zg_istore, zg_ixor, q10, q01, q00, ite_self, zLd_i, zLd_l, zLd_a, zInc_i, zGet_o, zGet2_s, zPut_o, zAld_i, zAll_j, zAst_i, zAsl_j, zLen_i, zLen_j, zRt_i, zRt_z, zRl2_l, zRv_n, List.getElem?_cons_zero, List.getElem?_cons_succ, List.length_cons, List.length_nil, z_set, z_set2, z_cut, List.set_cons_zero, List.set_cons_succ, Option.toList_some, Option.toList_none, List.cons_append, List.nil_append, zif, zW_ite, zfit_0, zfit_1, zfit_2, zfit_3, zisc_o, zRt_c, zRt_b, List.map_cons, List.map_nil, List.sum_cons, List.sum_nil, true_and, and_true, if_true, if_false, ite_true, ite_false, Nat.reduceLT, Nat.reduceLeDiff, Nat.reduceAdd, Nat.reduceEqDiff, eq_self, not_true_eq_false, not_false_eq_true, Nat.lt_irrefl, or_true, true_or, or_false, false_or, z_cell_lt, Value.category]
  exact w_still hF hc 7 0 (by omega) (by omega)
theorem w_come {lf c st : Nat} {x1 : Value} (hl : lf < 128) (hc : c < 128) (hs : st < 128) : ∀ k o rc, fitsAt h f nd br rc → ∀ rc0, rc = cmn br lf c st rc0 o → 7 - o = k → o ≤ 7 → zW d MX2_comeNext 10 ([.ref f, x1, .int (nI c), .int (nI st), .int (nI lf), .int (nI o)], [], (h, u)) (fun q => q = (none, (fitsSet h f nd br (cmn br lf c st rc0 7), u))) := by
  intro k
  induction k generalizing h with
  | zero =>
    intro o rc hF rc0 hr ho hle
    have e : o = 7 := by omega
    subst e
    rw [eX2_comeNext_10]
    simp only [eX2_comeNext_0, eX2_comeNext_1, eX2_comeNext_2, eX2_comeNext_3, eX2_comeNext_4, eX2_comeNext_5, eX2_comeNext_7, eX2_comeNext_8, eX2_comeNext_12, eX2_comeNext_14, eX2_comeNext_17, eX2_comeNext_19, eX2_comeNext_21, eX2_comeNext_22, eX2_comeNext_23, eX2_comeNext_24, eX2_comeNext_25, eX2_comeNext_28, eX2_comeNext_29, eX2_comeNext_32, eX2_comeNext_34, eX2_comeNext_35, eX2_comeNext_36, eX2_comeNext_37, eX2_comeNext_40, eX2_comeNext_41, eX2_comeNext_44, eX2_comeNext_45, eX2_comeNext_46, eX2_comeNext_48, eX2_comeNext_49, eX2_comeNext_50, eX2_comeNext_51, eX2_comeNext_52, eX2_comeNext_55, eX2_comeNext_58, rX2_comeNext, zg_aload, zg_bastore, zg_bipush, zg_getfield, zg_goto, zg_iaload, zg_iand, zg_icmp, zg_iconst, zg_if, zg_iinc, zg_iload, zg_ior, zg_ishl, zg_ishr, zg_istore, zg_ixor, zg_return, q10, q01, q00, ite_self, zLd_i, zLd_l, zLd_a, zInc_i, zGet_o, zGet2_s, zPut_o, zAld_i, zAll_j, zAst_i, zAsl_j, zLen_i, zLen_j, zRt_i, zRt_z, zRl2_l, zRv_n, List.getElem?_cons_zero, List.getElem?_cons_succ, List.length_cons, List.length_nil, z_set, z_set2, z_cut, List.set_cons_zero, List.set_cons_succ, Option.toList_some, Option.toList_none, List.cons_append, List.nil_append, zif, zW_ite, zfit_0, zfit_1, zfit_2, zfit_3, zisc_o, zRt_c, zRt_b, List.map_cons, List.map_nil, List.sum_cons, List.sum_nil, true_and, and_true, if_true, if_false, ite_true, ite_false, Nat.reduceLT, Nat.reduceLeDiff, Nat.reduceAdd, Nat.reduceEqDiff, eq_self, not_true_eq_false, not_false_eq_true, Nat.lt_irrefl, or_true, true_or, or_false, false_or, z_cell_lt, Value.category, nI_77]
    rw [← hr, fitsSet_self hF]
  | succ k ih =>
    intro o rc hF rc0 hr ho hle
    obtain ⟨hf, h0, h1, h2, h3, hn, hb⟩ := id hF
    have hf0 : f < 1000 := by omega
    have hf2 : f + 2 < 1000 := by omega
    have hf3 : f + 3 < 1000 := by omega
    have ho7 : o < 7 := by omega
    have q0 : (nI (br o &&& st) = 0) = (br o &&& st = 0) := nI_eqI (b := 0) (Nat.lt_trans (q_and_lt (hb o)) (by decide)) (by decide)
    have hx : c ||| 2 ^ o < 128 := q_or_lt hc (q_pow_lt ho7)
    have i1 : vp_in (nI (c ||| 2 ^ o)) 128 := vp_in_nI hx (by decide)
    have i2 : (nI (c ||| 2 ^ o)).toNatClampNeg = c ||| 2 ^ o := nI_clamp (by omega)
    have hr' : cmn br lf c st rc0 (o + 1) = if lf.testBit o = true ∧ br o &&& st = 0 then z_up rc (c ||| 2 ^ o) true else rc := by
      rw [hr]; rfl
    rw [eX2_comeNext_10]
    by_cases c1 : lf.testBit o = true
    · by_cases c2 : br o &&& st = 0
      · rw [if_pos ⟨c1, c2⟩] at hr'
        have ih := ih (h := fitsSet h f nd br (z_up rc (c ||| 2 ^ o) true)) (o + 1) _ (fitsSet_at hf hn hb) rc0 hr'.symm (by omega) (by omega)
        rw [fitsSet_set] at ih
        simp only [eX2_comeNext_0, eX2_comeNext_1, eX2_comeNext_2, eX2_comeNext_3, eX2_comeNext_4, eX2_comeNext_5, eX2_comeNext_7, eX2_comeNext_8, eX2_comeNext_12, eX2_comeNext_14, eX2_comeNext_17, eX2_comeNext_19, eX2_comeNext_21, eX2_comeNext_22, eX2_comeNext_23, eX2_comeNext_24, eX2_comeNext_25, eX2_comeNext_28, eX2_comeNext_29, eX2_comeNext_32, eX2_comeNext_34, eX2_comeNext_35, eX2_comeNext_36, eX2_comeNext_37, eX2_comeNext_40, eX2_comeNext_41, eX2_comeNext_44, eX2_comeNext_45, eX2_comeNext_46, eX2_comeNext_48, eX2_comeNext_49, eX2_comeNext_50, eX2_comeNext_51, eX2_comeNext_52, eX2_comeNext_55, eX2_comeNext_58, rX2_comeNext, zg_aload, zg_bastore, zg_bipush, zg_getfield, zg_goto, zg_iaload, zg_iand, zg_icmp, zg_iconst, zg_if, zg_iinc, zg_iload, zg_ior, zg_ishl, zg_ishr, zg_istore, zg_ixor, zg_return, q10, q01, q00, ite_self, zLd_i, zLd_l, zLd_a, zInc_i, zGet_o, zGet2_s, zPut_o, zAld_i, zAll_j, zAst_i, zAsl_j, zLen_i, zLen_j, zRt_i, zRt_z, zRl2_l, zRv_n, List.getElem?_cons_zero, List.getElem?_cons_succ, List.length_cons, List.length_nil, z_set, z_set2, z_cut, List.set_cons_zero, List.set_cons_succ, Option.toList_some, Option.toList_none, List.cons_append, List.nil_append, zif, zW_ite, zfit_0, zfit_1, zfit_2, zfit_3, zisc_o, zRt_c, zRt_b, List.map_cons, List.map_nil, List.sum_cons, List.sum_nil, true_and, and_true, if_true, if_false, ite_true, ite_false, Nat.reduceLT, Nat.reduceLeDiff, Nat.reduceAdd, Nat.reduceEqDiff, eq_self, not_true_eq_false, not_false_eq_true, Nat.lt_irrefl, or_true, true_or, or_false, false_or, z_cell_lt, Value.category, h0, h2, h3, hf0, hf2, hf3, nI_lt7 ho7, nI_7 ho7, nI_c ho7, q_bit lf hl o (by omega), c1, q_and, q0, c2, q_shl o (by omega), q_or, i1, i2, vp_b1, q_updB, fits_up3 hF, nI_1]
        exact ih
      · rw [if_neg (fun q => c2 q.2)] at hr'
        have ih := ih (o + 1) _ hF rc0 hr'.symm (by omega) (by omega)
        simp only [eX2_comeNext_0, eX2_comeNext_1, eX2_comeNext_2, eX2_comeNext_3, eX2_comeNext_4, eX2_comeNext_5, eX2_comeNext_7, eX2_comeNext_8, eX2_comeNext_12, eX2_comeNext_14, eX2_comeNext_17, eX2_comeNext_19, eX2_comeNext_21, eX2_comeNext_22, eX2_comeNext_23, eX2_comeNext_24, eX2_comeNext_25, eX2_comeNext_28, eX2_comeNext_29, eX2_comeNext_32, eX2_comeNext_34, eX2_comeNext_35, eX2_comeNext_36, eX2_comeNext_37, eX2_comeNext_40, eX2_comeNext_41, eX2_comeNext_44, eX2_comeNext_45, eX2_comeNext_46, eX2_comeNext_48, eX2_comeNext_49, eX2_comeNext_50, eX2_comeNext_51, eX2_comeNext_52, eX2_comeNext_55, eX2_comeNext_58, rX2_comeNext, zg_aload, zg_bastore, zg_bipush, zg_getfield, zg_goto, zg_iaload, zg_iand, zg_icmp, zg_iconst, zg_if, zg_iinc, zg_iload, zg_ior, zg_ishl, zg_ishr, zg_istore, zg_ixor, zg_return, q10, q01, q00, ite_self, zLd_i, zLd_l, zLd_a, zInc_i, zGet_o, zGet2_s, zPut_o, zAld_i, zAll_j, zAst_i, zAsl_j, zLen_i, zLen_j, zRt_i, zRt_z, zRl2_l, zRv_n, List.getElem?_cons_zero, List.getElem?_cons_succ, List.length_cons, List.length_nil, z_set, z_set2, z_cut, List.set_cons_zero, List.set_cons_succ, Option.toList_some, Option.toList_none, List.cons_append, List.nil_append, zif, zW_ite, zfit_0, zfit_1, zfit_2, zfit_3, zisc_o, zRt_c, zRt_b, List.map_cons, List.map_nil, List.sum_cons, List.sum_nil, true_and, and_true, if_true, if_false, ite_true, ite_false, Nat.reduceLT, Nat.reduceLeDiff, Nat.reduceAdd, Nat.reduceEqDiff, eq_self, not_true_eq_false, not_false_eq_true, Nat.lt_irrefl, or_true, true_or, or_false, false_or, z_cell_lt, Value.category, h0, h2, h3, hf0, hf2, hf3, nI_lt7 ho7, nI_7 ho7, nI_c ho7, q_bit lf hl o (by omega), c1, q_and, q0, c2, nI_1]
        exact ih
    · rw [if_neg (fun q => c1 q.1)] at hr'
      have ih := ih (o + 1) _ hF rc0 hr'.symm (by omega) (by omega)
      simp only [eX2_comeNext_0, eX2_comeNext_1, eX2_comeNext_2, eX2_comeNext_3, eX2_comeNext_4, eX2_comeNext_5, eX2_comeNext_7, eX2_comeNext_8, eX2_comeNext_12, eX2_comeNext_14, eX2_comeNext_17, eX2_comeNext_19, eX2_comeNext_21, eX2_comeNext_22, eX2_comeNext_23, eX2_comeNext_24, eX2_comeNext_25, eX2_comeNext_28, eX2_comeNext_29, eX2_comeNext_32, eX2_comeNext_34, eX2_comeNext_35, eX2_comeNext_36, eX2_comeNext_37, eX2_comeNext_40, eX2_comeNext_41, eX2_comeNext_44, eX2_comeNext_45, eX2_comeNext_46, eX2_comeNext_48, eX2_comeNext_49, eX2_comeNext_50, eX2_comeNext_51, eX2_comeNext_52, eX2_comeNext_55, eX2_comeNext_58, rX2_comeNext, zg_aload, zg_bastore, zg_bipush, zg_getfield, zg_goto, zg_iaload, zg_iand, zg_icmp, zg_iconst, zg_if, zg_iinc, zg_iload, zg_ior, zg_ishl, zg_ishr, zg_istore, zg_ixor, zg_return, q10, q01, q00, ite_self, zLd_i, zLd_l, zLd_a, zInc_i, zGet_o, zGet2_s, zPut_o, zAld_i, zAll_j, zAst_i, zAsl_j, zLen_i, zLen_j, zRt_i, zRt_z, zRl2_l, zRv_n, List.getElem?_cons_zero, List.getElem?_cons_succ, List.length_cons, List.length_nil, z_set, z_set2, z_cut, List.set_cons_zero, List.set_cons_succ, Option.toList_some, Option.toList_none, List.cons_append, List.nil_append, zif, zW_ite, zfit_0, zfit_1, zfit_2, zfit_3, zisc_o, zRt_c, zRt_b, List.map_cons, List.map_nil, List.sum_cons, List.sum_nil, true_and, and_true, if_true, if_false, ite_true, ite_false, Nat.reduceLT, Nat.reduceLeDiff, Nat.reduceAdd, Nat.reduceEqDiff, eq_self, not_true_eq_false, not_false_eq_true, Nat.lt_irrefl, or_true, true_or, or_false, false_or, z_cell_lt, Value.category, nI_lt7 ho7, q_bit lf hl o (by omega), c1, nI_1]
      exact ih
theorem c_come (hF : fitsAt h f nd br rc) {s c st : Nat} (hs : s < 128) (hc : c < 128) (ht : st < 128) : zK (d + 1) 40 [.ref f, .int (nI s), .int (nI c), .int (nI st)] (h, u) Q = Q (none, (fitsSet h f nd br (cmn br (s &&& (127 - c)) c st rc 7), u)) := by
  refine zK_of (k := 1) (by omega) ?_
  refine zK_in (M := MX2_comeNext) rfl (Nat.le_of_ble_eq_true rfl) ?_
  show zW 0 MX2_comeNext 0 ([.ref f, .int (nI s), .int (nI c), .int (nI st), .null, .null], [], (h, u)) _
  simp only [eX2_comeNext_0, eX2_comeNext_1, eX2_comeNext_2, eX2_comeNext_3, eX2_comeNext_4, eX2_comeNext_5, eX2_comeNext_7, eX2_comeNext_8, eX2_comeNext_12, eX2_comeNext_14, eX2_comeNext_17, eX2_comeNext_19, eX2_comeNext_21, eX2_comeNext_22, eX2_comeNext_23, eX2_comeNext_24, eX2_comeNext_25, eX2_comeNext_28, eX2_comeNext_29, eX2_comeNext_32, eX2_comeNext_34, eX2_comeNext_35, eX2_comeNext_36, eX2_comeNext_37, eX2_comeNext_40, eX2_comeNext_41, eX2_comeNext_44, eX2_comeNext_45, eX2_comeNext_46, eX2_comeNext_48, eX2_comeNext_49, eX2_comeNext_50, eX2_comeNext_51, eX2_comeNext_52, eX2_comeNext_55, eX2_comeNext_58, rX2_comeNext, zg_aload, zg_bastore, zg_bipush, zg_getfield, zg_goto, zg_iaload, zg_iand, zg_icmp, zg_iconst, zg_if, zg_iinc, zg_iload, zg_ior, zg_ishl, zg_ishr, zg_istore, zg_ixor, zg_return, q10, q01, q00, ite_self, zLd_i, zLd_l, zLd_a, zInc_i, zGet_o, zGet2_s, zPut_o, zAld_i, zAll_j, zAst_i, zAsl_j, zLen_i, zLen_j, zRt_i, zRt_z, zRl2_l, zRv_n, List.getElem?_cons_zero, List.getElem?_cons_succ, List.length_cons, List.length_nil, z_set, z_set2, z_cut, List.set_cons_zero, List.set_cons_succ, Option.toList_some, Option.toList_none, List.cons_append, List.nil_append, zif, zW_ite, zfit_0, zfit_1, zfit_2, zfit_3, zisc_o, zRt_c, zRt_b, List.map_cons, List.map_nil, List.sum_cons, List.sum_nil, true_and, and_true, if_true, if_false, ite_true, ite_false, Nat.reduceLT, Nat.reduceLeDiff, Nat.reduceAdd, Nat.reduceEqDiff, eq_self, not_true_eq_false, not_false_eq_true, Nat.lt_irrefl, or_true, true_or, or_false, false_or, z_cell_lt, Value.category, q_andn _ hs _ hc]
  exact w_come (q_and_lt hs) hc ht 7 0 rc hF rc rfl (by omega) (by omega)
theorem w_fill8 {a : Nat} (ha : a < 1000) : ∀ k o g, h a = zI 2 128 g → (∀ i, i < o → g i = 0) → 128 - o = k → o ≤ 128 → zW d MJ7_fill_031fb 5 ([.ref a, .int 0, .int (nI o), .int (nI 128)], [], (h, u)) (fun q => q = (none, (z_up h a (zI 2 128 (fun i => if i < 128 then 0 else g i)), u))) := by
  intro k
  induction k generalizing h with
  | zero =>
    intro o g hg hz ho hle
    have e : o = 128 := by omega
    subst e
    rw [eJ7_fill_031fb_5]
    simp only [eJ7_fill_031fb_0, eJ7_fill_031fb_1, eJ7_fill_031fb_2, eJ7_fill_031fb_3, eJ7_fill_031fb_4, eJ7_fill_031fb_6, eJ7_fill_031fb_7, eJ7_fill_031fb_10, eJ7_fill_031fb_11, eJ7_fill_031fb_12, eJ7_fill_031fb_13, eJ7_fill_031fb_14, eJ7_fill_031fb_17, eJ7_fill_031fb_20, rJ7_fill_031fb, zg_aload, zg_arraylength, zg_bastore, zg_goto, zg_icmp, zg_iconst, zg_iinc, zg_iload, zg_istore, zg_return, q10, q01, q00, ite_self, zLd_i, zLd_l, zLd_a, zInc_i, zGet_o, zGet2_s, zPut_o, zAld_i, zAll_j, zAst_i, zAsl_j, zLen_i, zLen_j, zRt_i, zRt_z, zRl2_l, zRv_n, List.getElem?_cons_zero, List.getElem?_cons_succ, List.length_cons, List.length_nil, z_set, z_set2, z_cut, List.set_cons_zero, List.set_cons_succ, Option.toList_some, Option.toList_none, List.cons_append, List.nil_append, zif, zW_ite, zfit_0, zfit_1, zfit_2, zfit_3, zisc_o, zRt_c, zRt_b, List.map_cons, List.map_nil, List.sum_cons, List.sum_nil, true_and, and_true, if_true, if_false, ite_true, ite_false, Nat.reduceLT, Nat.reduceLeDiff, Nat.reduceAdd, Nat.reduceEqDiff, eq_self, not_true_eq_false, not_false_eq_true, Nat.lt_irrefl, or_true, true_or, or_false, false_or, z_cell_lt, Value.category, Int32.lt_irrefl]
    have e : (fun i => if i < 128 then 0 else g i) = g := by
      funext i
      split
      · rename_i q; rw [hz i q]
      · rfl
    rw [e, ← hg]
    congr 2
    funext j
    unfold z_up
    split
    · rename_i q; rw [q]
    · rfl
  | succ k ih =>
    intro o g hg hz ho hle
    have c1 : nI o < nI 128 := nI_lt (show o < 128 by omega) (by omega)
    have i1 : vp_in (nI o) 128 := vp_in_nI (show o < 128 by omega) (by decide)
    have i2 : (nI o).toNatClampNeg = o := nI_clamp (by omega)
    have ih := ih (h := z_up h a (zI 2 128 (upd g o 0))) (o + 1) (upd g o 0) (z_up_s _ _ _) (by intro i hi; unfold upd; split; rfl; exact hz i (by omega)) (by omega) (by omega)
    rw [z_up_up] at ih
    have e : (fun i => if i < 128 then 0 else upd g o 0 i) = fun i => if i < 128 then 0 else g i := by
      funext i
      split
      · rfl
      · unfold upd; rw [if_neg (by omega)]
    rw [e] at ih
    rw [eJ7_fill_031fb_5]
    simp only [eJ7_fill_031fb_0, eJ7_fill_031fb_1, eJ7_fill_031fb_2, eJ7_fill_031fb_3, eJ7_fill_031fb_4, eJ7_fill_031fb_6, eJ7_fill_031fb_7, eJ7_fill_031fb_10, eJ7_fill_031fb_11, eJ7_fill_031fb_12, eJ7_fill_031fb_13, eJ7_fill_031fb_14, eJ7_fill_031fb_17, eJ7_fill_031fb_20, rJ7_fill_031fb, zg_aload, zg_arraylength, zg_bastore, zg_goto, zg_icmp, zg_iconst, zg_iinc, zg_iload, zg_istore, zg_return, q10, q01, q00, ite_self, zLd_i, zLd_l, zLd_a, zInc_i, zGet_o, zGet2_s, zPut_o, zAld_i, zAll_j, zAst_i, zAsl_j, zLen_i, zLen_j, zRt_i, zRt_z, zRl2_l, zRv_n, List.getElem?_cons_zero, List.getElem?_cons_succ, List.length_cons, List.length_nil, z_set, z_set2, z_cut, List.set_cons_zero, List.set_cons_succ, Option.toList_some, Option.toList_none, List.cons_append, List.nil_append, zif, zW_ite, zfit_0, zfit_1, zfit_2, zfit_3, zisc_o, zRt_c, zRt_b, List.map_cons, List.map_nil, List.sum_cons, List.sum_nil, true_and, and_true, if_true, if_false, ite_true, ite_false, Nat.reduceLT, Nat.reduceLeDiff, Nat.reduceAdd, Nat.reduceEqDiff, eq_self, not_true_eq_false, not_false_eq_true, Nat.lt_irrefl, or_true, true_or, or_false, false_or, z_cell_lt, Value.category, c1, i1, i2, hg, ha, vp_b0, nI_1]
    exact ih
theorem c_fill8 {a : Nat} {g : Nat → Int32} (ha : a < 1000) (hg : h a = zI 2 128 g) : zK (d + 1) 305 [.ref a, .int 0] (h, u) Q = Q (none, (z_up h a (zI 2 128 (fun i => if i < 128 then 0 else g i)), u)) := by
  refine zK_of (k := 1) (by omega) ?_
  refine zK_in (M := MJ7_fill_031fb) rfl (Nat.le_of_ble_eq_true rfl) ?_
  show zW 0 MJ7_fill_031fb 0 ([.ref a, .int 0, .null, .null], [], (h, u)) _
  simp only [eJ7_fill_031fb_0, eJ7_fill_031fb_1, eJ7_fill_031fb_2, eJ7_fill_031fb_3, eJ7_fill_031fb_4, eJ7_fill_031fb_6, eJ7_fill_031fb_7, eJ7_fill_031fb_10, eJ7_fill_031fb_11, eJ7_fill_031fb_12, eJ7_fill_031fb_13, eJ7_fill_031fb_14, eJ7_fill_031fb_17, eJ7_fill_031fb_20, rJ7_fill_031fb, zg_aload, zg_arraylength, zg_bastore, zg_goto, zg_icmp, zg_iconst, zg_iinc, zg_iload, zg_istore, zg_return, q10, q01, q00, ite_self, zLd_i, zLd_l, zLd_a, zInc_i, zGet_o, zGet2_s, zPut_o, zAld_i, zAll_j, zAst_i, zAsl_j, zLen_i, zLen_j, zRt_i, zRt_z, zRl2_l, zRv_n, List.getElem?_cons_zero, List.getElem?_cons_succ, List.length_cons, List.length_nil, z_set, z_set2, z_cut, List.set_cons_zero, List.set_cons_succ, Option.toList_some, Option.toList_none, List.cons_append, List.nil_append, zif, zW_ite, zfit_0, zfit_1, zfit_2, zfit_3, zisc_o, zRt_c, zRt_b, List.map_cons, List.map_nil, List.sum_cons, List.sum_nil, true_and, and_true, if_true, if_false, ite_true, ite_false, Nat.reduceLT, Nat.reduceLeDiff, Nat.reduceAdd, Nat.reduceEqDiff, eq_self, not_true_eq_false, not_false_eq_true, Nat.lt_irrefl, or_true, true_or, or_false, false_or, z_cell_lt, Value.category, hg, ha]
  exact w_fill8 ha 128 0 g hg (by omega) (by omega) (by omega)
theorem w_all {s : Nat} (hs : s < 128) : ∀ k o rc, fitsAt h f nd br rc → ∀ rc0, rc = acm nd br s rc0 o → s - o = k → o ≤ s → zW (d + 1) MX2_allCanCome 17 ([.ref f, .int (nI s), .int (nI o)], [], (h, u)) (fun q => q = (some (.int (if acm nd br s rc0 s s then 1 else 0)), (fitsSet h f nd br (acm nd br s rc0 s), u))) := by
  intro k
  induction k generalizing h with
  | zero =>
    intro o rc hF rc0 hr ho hle
    obtain ⟨hf, h0, h1, h2, h3, hn, hb⟩ := id hF
    have hf0 : f < 1000 := by omega
    have hf3 : f + 3 < 1000 := by omega
    have e : o = s := by omega
    subst e
    have i1 : vp_in (nI o) 128 := vp_in_nI (show o < 128 by omega) (by decide)
    have i2 : (nI o).toNatClampNeg = o := nI_clamp (by omega)
    rw [← hr, fitsSet_self hF]
    rw [eX2_allCanCome_17]
    cases g : rc o
    all_goals
      simp only [eX2_allCanCome_0, eX2_allCanCome_1, eX2_allCanCome_4, eX2_allCanCome_5, eX2_allCanCome_8, eX2_allCanCome_9, eX2_allCanCome_12, eX2_allCanCome_13, eX2_allCanCome_14, eX2_allCanCome_15, eX2_allCanCome_16, eX2_allCanCome_18, eX2_allCanCome_19, eX2_allCanCome_22, eX2_allCanCome_23, eX2_allCanCome_26, eX2_allCanCome_27, eX2_allCanCome_28, eX2_allCanCome_29, eX2_allCanCome_32, eX2_allCanCome_33, eX2_allCanCome_34, eX2_allCanCome_35, eX2_allCanCome_36, eX2_allCanCome_37, eX2_allCanCome_40, eX2_allCanCome_43, eX2_allCanCome_46, eX2_allCanCome_49, eX2_allCanCome_50, eX2_allCanCome_53, eX2_allCanCome_54, eX2_allCanCome_55, eX2_allCanCome_56, eX2_allCanCome_59, eX2_allCanCome_60, eX2_allCanCome_63, eX2_allCanCome_64, rX2_allCanCome, zg_aload, zg_baload, zg_bastore, zg_getfield, zg_goto, zg_icmp, zg_iconst, zg_iinc, zg_iload, zg_ireturn, zg_is2, zg_istore, zg_iv1, zg_iv3, q10, q01, q00, ite_self, zLd_i, zLd_l, zLd_a, zInc_i, zGet_o, zGet2_s, zPut_o, zAld_i, zAll_j, zAst_i, zAsl_j, zLen_i, zLen_j, zRt_i, zRt_z, zRl2_l, zRv_n, List.getElem?_cons_zero, List.getElem?_cons_succ, List.length_cons, List.length_nil, z_set, z_set2, z_cut, List.set_cons_zero, List.set_cons_succ, Option.toList_some, Option.toList_none, List.cons_append, List.nil_append, zif, zW_ite, zfit_0, zfit_1, zfit_2, zfit_3, zisc_o, zRt_c, zRt_b, List.map_cons, List.map_nil, List.sum_cons, List.sum_nil, true_and, and_true, if_true, if_false, ite_true, ite_false, Nat.reduceLT, Nat.reduceLeDiff, Nat.reduceAdd, Nat.reduceEqDiff, eq_self, not_true_eq_false, not_false_eq_true, Nat.lt_irrefl, or_true, true_or, or_false, false_or, z_cell_lt, Value.category, Int32.lt_irrefl, h0, h3, hf0, hf3, i1, i2, g, b01_t, b01_f, Bool.false_eq_true]
  | succ k ih =>
    intro o rc hF rc0 hr ho hle
    obtain ⟨hf, h0, h1, h2, h3, hn, hb⟩ := id hF
    have hf0 : f < 1000 := by omega
    have hf3 : f + 3 < 1000 := by omega
    have c1 : nI o < nI s := nI_lt (show o < s by omega) (by omega)
    have i1 : vp_in (nI o) 128 := vp_in_nI (show o < 128 by omega) (by decide)
    have i2 : (nI o).toNatClampNeg = o := nI_clamp (by omega)
    have hr' : acm nd br s rc0 (o + 1) = if rc o = true then cmn br (s &&& (127 - o)) o (stl nd o 7) rc 7 else rc := by
      rw [hr]; rfl
    rw [eX2_allCanCome_17]
    cases g : rc o
    · rw [if_neg (by rw [g]; decide)] at hr'
      have ih := ih (o + 1) _ hF rc0 hr'.symm (by omega) (by omega)
      simp only [eX2_allCanCome_0, eX2_allCanCome_1, eX2_allCanCome_4, eX2_allCanCome_5, eX2_allCanCome_8, eX2_allCanCome_9, eX2_allCanCome_12, eX2_allCanCome_13, eX2_allCanCome_14, eX2_allCanCome_15, eX2_allCanCome_16, eX2_allCanCome_18, eX2_allCanCome_19, eX2_allCanCome_22, eX2_allCanCome_23, eX2_allCanCome_26, eX2_allCanCome_27, eX2_allCanCome_28, eX2_allCanCome_29, eX2_allCanCome_32, eX2_allCanCome_33, eX2_allCanCome_34, eX2_allCanCome_35, eX2_allCanCome_36, eX2_allCanCome_37, eX2_allCanCome_40, eX2_allCanCome_43, eX2_allCanCome_46, eX2_allCanCome_49, eX2_allCanCome_50, eX2_allCanCome_53, eX2_allCanCome_54, eX2_allCanCome_55, eX2_allCanCome_56, eX2_allCanCome_59, eX2_allCanCome_60, eX2_allCanCome_63, eX2_allCanCome_64, rX2_allCanCome, zg_aload, zg_baload, zg_bastore, zg_getfield, zg_goto, zg_icmp, zg_iconst, zg_iinc, zg_iload, zg_ireturn, zg_is2, zg_istore, zg_iv1, zg_iv3, q10, q01, q00, ite_self, zLd_i, zLd_l, zLd_a, zInc_i, zGet_o, zGet2_s, zPut_o, zAld_i, zAll_j, zAst_i, zAsl_j, zLen_i, zLen_j, zRt_i, zRt_z, zRl2_l, zRv_n, List.getElem?_cons_zero, List.getElem?_cons_succ, List.length_cons, List.length_nil, z_set, z_set2, z_cut, List.set_cons_zero, List.set_cons_succ, Option.toList_some, Option.toList_none, List.cons_append, List.nil_append, zif, zW_ite, zfit_0, zfit_1, zfit_2, zfit_3, zisc_o, zRt_c, zRt_b, List.map_cons, List.map_nil, List.sum_cons, List.sum_nil, true_and, and_true, if_true, if_false, ite_true, ite_false, Nat.reduceLT, Nat.reduceLeDiff, Nat.reduceAdd, Nat.reduceEqDiff, eq_self, not_true_eq_false, not_false_eq_true, Nat.lt_irrefl, or_true, true_or, or_false, false_or, z_cell_lt, Value.category, c1, h0, h3, hf0, hf3, i1, i2, g, b01_f, nI_1]
      exact ih
    · rw [if_pos g] at hr'
      have ih := ih (h := fitsSet h f nd br (cmn br (s &&& (127 - o)) o (stl nd o 7) rc 7)) (o + 1) _ (fitsSet_at hf hn hb) rc0 hr'.symm (by omega) (by omega)
      rw [fitsSet_set] at ih
      simp only [eX2_allCanCome_0, eX2_allCanCome_1, eX2_allCanCome_4, eX2_allCanCome_5, eX2_allCanCome_8, eX2_allCanCome_9, eX2_allCanCome_12, eX2_allCanCome_13, eX2_allCanCome_14, eX2_allCanCome_15, eX2_allCanCome_16, eX2_allCanCome_18, eX2_allCanCome_19, eX2_allCanCome_22, eX2_allCanCome_23, eX2_allCanCome_26, eX2_allCanCome_27, eX2_allCanCome_28, eX2_allCanCome_29, eX2_allCanCome_32, eX2_allCanCome_33, eX2_allCanCome_34, eX2_allCanCome_35, eX2_allCanCome_36, eX2_allCanCome_37, eX2_allCanCome_40, eX2_allCanCome_43, eX2_allCanCome_46, eX2_allCanCome_49, eX2_allCanCome_50, eX2_allCanCome_53, eX2_allCanCome_54, eX2_allCanCome_55, eX2_allCanCome_56, eX2_allCanCome_59, eX2_allCanCome_60, eX2_allCanCome_63, eX2_allCanCome_64, rX2_allCanCome, zg_aload, zg_baload, zg_bastore, zg_getfield, zg_goto, zg_icmp, zg_iconst, zg_iinc, zg_iload, zg_ireturn, zg_is2, zg_istore, zg_iv1, zg_iv3, q10, q01, q00, ite_self, zLd_i, zLd_l, zLd_a, zInc_i, zGet_o, zGet2_s, zPut_o, zAld_i, zAll_j, zAst_i, zAsl_j, zLen_i, zLen_j, zRt_i, zRt_z, zRl2_l, zRv_n, List.getElem?_cons_zero, List.getElem?_cons_succ, List.length_cons, List.length_nil, z_set, z_set2, z_cut, List.set_cons_zero, List.set_cons_succ, Option.toList_some, Option.toList_none, List.cons_append, List.nil_append, zif, zW_ite, zfit_0, zfit_1, zfit_2, zfit_3, zisc_o, zRt_c, zRt_b, List.map_cons, List.map_nil, List.sum_cons, List.sum_nil, true_and, and_true, if_true, if_false, ite_true, ite_false, Nat.reduceLT, Nat.reduceLeDiff, Nat.reduceAdd, Nat.reduceEqDiff, eq_self, not_true_eq_false, not_false_eq_true, Nat.lt_irrefl, or_true, true_or, or_false, false_or, z_cell_lt, Value.category, c1, h0, h3, hf0, hf3, i1, i2, g, b01_t, c_still hF (show o < 128 by omega), c_come hF hs (show o < 128 by omega) (stl_lt 7 (by omega)), nI_1]
      exact ih
theorem c_allCome (hF : fitsAt h f nd br rc) {s : Nat} (hs : s < 128) : zK (d + 2) 38 [.ref f, .int (nI s)] (h, u) Q = Q (some (.int (if acm nd br s rc s s then 1 else 0)), (fitsSet h f nd br (acm nd br s rc s), u)) := by
  obtain ⟨hf, h0, h1, h2, h3, hn, hb⟩ := id hF
  have hf0 : f < 1000 := by omega
  have hf3 : f + 3 < 1000 := by omega
  have s0 : ∀ e, z_up h (f + 3) e f = h f := fun e => z_up_n _ _ (by omega)
  have e : upd (fun i => if i < 128 then 0 else b01 (rc i)) 0 1 = fun i => b01 (fl0 rc i) := by
    funext i
    unfold upd fl0
    by_cases c : i = 0
    · subst c; rfl
    · rw [if_neg c]
      by_cases c2 : i < 128
      · simp [c2, c, b01]
      · simp [c2]
  have i1 : vp_in (0 : Int32) 128 := vp_in_nI (n := 0) (by decide) (by decide)
  have i2 : (0 : Int32).toNatClampNeg = 0 := by decide
  refine zK_of (k := 2) (by omega) ?_
  refine zK_in (M := MX2_allCanCome) rfl (Nat.le_of_ble_eq_true rfl) ?_
  show zW 1 MX2_allCanCome 0 ([.ref f, .int (nI s), .null], [], (h, u)) _
  simp only [eX2_allCanCome_0, eX2_allCanCome_1, eX2_allCanCome_4, eX2_allCanCome_5, eX2_allCanCome_8, eX2_allCanCome_9, eX2_allCanCome_12, eX2_allCanCome_13, eX2_allCanCome_14, eX2_allCanCome_15, eX2_allCanCome_16, eX2_allCanCome_18, eX2_allCanCome_19, eX2_allCanCome_22, eX2_allCanCome_23, eX2_allCanCome_26, eX2_allCanCome_27, eX2_allCanCome_28, eX2_allCanCome_29, eX2_allCanCome_32, eX2_allCanCome_33, eX2_allCanCome_34, eX2_allCanCome_35, eX2_allCanCome_36, eX2_allCanCome_37, eX2_allCanCome_40, eX2_allCanCome_43, eX2_allCanCome_46, eX2_allCanCome_49, eX2_allCanCome_50, eX2_allCanCome_53, eX2_allCanCome_54, eX2_allCanCome_55, eX2_allCanCome_56, eX2_allCanCome_59, eX2_allCanCome_60, eX2_allCanCome_63, eX2_allCanCome_64, rX2_allCanCome, zg_aload, zg_baload, zg_bastore, zg_getfield, zg_goto, zg_icmp, zg_iconst, zg_iinc, zg_iload, zg_ireturn, zg_is2, zg_istore, zg_iv1, zg_iv3, q10, q01, q00, ite_self, zLd_i, zLd_l, zLd_a, zInc_i, zGet_o, zGet2_s, zPut_o, zAld_i, zAll_j, zAst_i, zAsl_j, zLen_i, zLen_j, zRt_i, zRt_z, zRl2_l, zRv_n, List.getElem?_cons_zero, List.getElem?_cons_succ, List.length_cons, List.length_nil, z_set, z_set2, z_cut, List.set_cons_zero, List.set_cons_succ, Option.toList_some, Option.toList_none, List.cons_append, List.nil_append, zif, zW_ite, zfit_0, zfit_1, zfit_2, zfit_3, zisc_o, zRt_c, zRt_b, List.map_cons, List.map_nil, List.sum_cons, List.sum_nil, true_and, and_true, if_true, if_false, ite_true, ite_false, Nat.reduceLT, Nat.reduceLeDiff, Nat.reduceAdd, Nat.reduceEqDiff, eq_self, not_true_eq_false, not_false_eq_true, Nat.lt_irrefl, or_true, true_or, or_false, false_or, z_cell_lt, Value.category, h0, hf0, hf3, c_fill8 hf3 h3, s0, z_up_s, i1, i2, vp_b1, e, z_up_up, fits_up3 hF]
  have w := w_all (h := fitsSet h f nd br (fl0 rc)) (f := f) (nd := nd) (br := br) (d := 0) (u := u) hs s 0 (fl0 rc) (fitsSet_at hf hn hb) rc rfl (by omega) (by omega)
  rw [fitsSet_set] at w
  exact w
theorem matesOf_lt' (hT : toldAt h b n rm mt nt fm vr) (i : Nat) : matesOf n rm fm i < 128 := by
  unfold matesOf
  split
  · exact matesTo_lt n hT.2.2.2.2.2.1
  · decide
/-- the first o numbers are new -/
def pre (g g' : Nat → Nat) (o : Nat) : Nat → Nat := fun i => if i < o then g i else g' i
theorem pre_0 (g g' : Nat → Nat) : pre g g' 0 = g' := by
  funext i
  unfold pre
  rw [if_neg (by omega)]
theorem pre_up (g g' : Nat → Nat) (o : Nat) : z_up (pre g g' o) o (g o) = pre g g' (o + 1) := by
  funext i
  unfold z_up pre
  by_cases c : i = o
  · subst c; simp
  · rw [if_neg c]
    by_cases c2 : i < o
    · rw [if_pos c2, if_pos (by omega)]
    · rw [if_neg c2, if_neg (by omega)]
theorem pre_lt {g g' : Nat → Nat} {o : Nat} (h1 : ∀ i, g i < 128) (h2 : ∀ i, g' i < 128) : ∀ i, pre g g' o i < 128 := by
  intro i
  unfold pre
  split
  · exact h1 i
  · exact h2 i
theorem w_among {s : Nat} (hs : s < 128) (hd : f + 3 < b ∨ b + 3 < f) (hT : toldAt h b n rm mt nt fm vr) : ∀ k o h, toldAt h b n rm mt nt fm vr → fitsAt h f (pre (fun i => mt i &&& s) nd o) (pre (fun i => nt i ||| matesOf n rm fm i) br o) rc → (∀ i, nd i < 128) → (∀ i, br i < 128) → n - o = k → o ≤ n → zW (d + 2) MX2_among 2 ([.ref f, .ref b, .int (nI s), .int (nI o)], [], (h, u)) (fun q => q = (some (.int (if acm (pre (fun i => mt i &&& s) nd n) (pre (fun i => nt i ||| matesOf n rm fm i) br n) s rc s s then 1 else 0)), (fitsSet h f (pre (fun i => mt i &&& s) nd n) (pre (fun i => nt i ||| matesOf n rm fm i) br n) (acm (pre (fun i => mt i &&& s) nd n) (pre (fun i => nt i ||| matesOf n rm fm i) br n) s rc s), u))) := by
  intro k
  induction k with
  | zero =>
    intro o h hT hF hnd hbr ho hle
    obtain ⟨hf, f0, f1, f2, f3, hn1, hb1⟩ := id hF
    obtain ⟨hb, t0, t1, t2, t3, hn, hr, hm, ht⟩ := id hT
    have hf0 : f < 1000 := by omega
    have hb0 : b < 1000 := by omega
    have e : o = n := by omega
    subst e
    rw [eX2_among_2]
    simp only [eX2_among_0, eX2_among_1, eX2_among_3, eX2_among_4, eX2_among_7, eX2_among_10, eX2_among_11, eX2_among_14, eX2_among_15, eX2_among_16, eX2_among_19, eX2_among_20, eX2_among_21, eX2_among_22, eX2_among_23, eX2_among_24, eX2_among_25, eX2_among_28, eX2_among_29, eX2_among_30, eX2_among_33, eX2_among_34, eX2_among_35, eX2_among_36, eX2_among_37, eX2_among_40, eX2_among_41, eX2_among_42, eX2_among_45, eX2_among_48, eX2_among_49, eX2_among_50, eX2_among_53, rX2_among, zg_aload, zg_getfield, zg_goto, zg_iaload, zg_iand, zg_iastore, zg_icmp, zg_iconst, zg_iinc, zg_iload, zg_ior, zg_ireturn, zg_istore, zg_iv1, q10, q01, q00, ite_self, zLd_i, zLd_l, zLd_a, zInc_i, zGet_o, zGet2_s, zPut_o, zAld_i, zAll_j, zAst_i, zAsl_j, zLen_i, zLen_j, zRt_i, zRt_z, zRl2_l, zRv_n, List.getElem?_cons_zero, List.getElem?_cons_succ, List.length_cons, List.length_nil, z_set, z_set2, z_cut, List.set_cons_zero, List.set_cons_succ, Option.toList_some, Option.toList_none, List.cons_append, List.nil_append, zif, zW_ite, zfit_0, zfit_1, zfit_2, zfit_3, zisc_o, zRt_c, zRt_b, List.map_cons, List.map_nil, List.sum_cons, List.sum_nil, true_and, and_true, if_true, if_false, ite_true, ite_false, Nat.reduceLT, Nat.reduceLeDiff, Nat.reduceAdd, Nat.reduceEqDiff, eq_self, not_true_eq_false, not_false_eq_true, Nat.lt_irrefl, or_true, true_or, or_false, false_or, z_cell_lt, Value.category, t0, hb0, hf0, f0, Int32.lt_irrefl, c_allCome hF hs]
    split <;> simp
  | succ k ih =>
    intro o h hT hF hnd hbr ho hle
    obtain ⟨hf, f0, f1, f2, f3, hn1, hb1⟩ := id hF
    obtain ⟨hb, t0, t1, t2, t3, hn, hr, hm, ht⟩ := id hT
    have hf0 : f < 1000 := by omega
    have hf1 : f + 1 < 1000 := by omega
    have hf2 : f + 2 < 1000 := by omega
    have hb0 : b < 1000 := by omega
    have hb2 : b + 2 < 1000 := by omega
    have hb3 : b + 3 < 1000 := by omega
    have ho7 : o < 7 := by omega
    have c1 : nI o < nI n := nI_lt (show o < n by omega) (by omega)
    have u1 := pre_up (fun i => mt i &&& s) nd o
    have u2 := pre_up (fun i => nt i ||| matesOf n rm fm i) br o
    have hF1 := fitsSet_at (h := h) (rc := rc) hf (pre_lt (o := o + 1) (g := fun i => mt i &&& s) (fun i => q_and_lt (hm i)) hnd) hb1
    have o1 : ∀ nd br, toldAt (fitsSet h f nd br rc) b n rm mt nt fm vr := fun nd br => toldAt_out (fun j h1 h2 => fitsSet_out (by omega)) hT
    obtain ⟨_, g0, g1, g2, g3, _, _⟩ := id hF1
    obtain ⟨_, v0, v1, v2, v3, _⟩ := o1 (pre (fun i => mt i &&& s) nd (o + 1)) (pre (fun i => nt i ||| matesOf n rm fm i) br o)
    have ih := ih (o + 1) _ (o1 _ _) (fitsSet_at hf (pre_lt (o := o + 1) (g := fun i => mt i &&& s) (fun i => q_and_lt (hm i)) hnd) (pre_lt (o := o + 1) (g := fun i => nt i ||| matesOf n rm fm i) (fun i => q_or_lt (ht i) (matesOf_lt' hT i)) hbr)) hnd hbr (by omega) (by omega)
    rw [fitsSet_set] at ih
    have k1 := fits_up1 hF (nd' := pre (fun i => mt i &&& s) nd (o + 1))
    have k2 := fits_up2 hF1 (br' := pre (fun i => nt i ||| matesOf n rm fm i) br (o + 1))
    rw [fitsSet_set] at k2
    rw [eX2_among_2]
    simp only [eX2_among_0, eX2_among_1, eX2_among_3, eX2_among_4, eX2_among_7, eX2_among_10, eX2_among_11, eX2_among_14, eX2_among_15, eX2_among_16, eX2_among_19, eX2_among_20, eX2_among_21, eX2_among_22, eX2_among_23, eX2_among_24, eX2_among_25, eX2_among_28, eX2_among_29, eX2_among_30, eX2_among_33, eX2_among_34, eX2_among_35, eX2_among_36, eX2_among_37, eX2_among_40, eX2_among_41, eX2_among_42, eX2_among_45, eX2_among_48, eX2_among_49, eX2_among_50, eX2_among_53, rX2_among, zg_aload, zg_getfield, zg_goto, zg_iaload, zg_iand, zg_iastore, zg_icmp, zg_iconst, zg_iinc, zg_iload, zg_ior, zg_ireturn, zg_istore, zg_iv1, q10, q01, q00, ite_self, zLd_i, zLd_l, zLd_a, zInc_i, zGet_o, zGet2_s, zPut_o, zAld_i, zAll_j, zAst_i, zAsl_j, zLen_i, zLen_j, zRt_i, zRt_z, zRl2_l, zRv_n, List.getElem?_cons_zero, List.getElem?_cons_succ, List.length_cons, List.length_nil, z_set, z_set2, z_cut, List.set_cons_zero, List.set_cons_succ, Option.toList_some, Option.toList_none, List.cons_append, List.nil_append, zif, zW_ite, zfit_0, zfit_1, zfit_2, zfit_3, zisc_o, zRt_c, zRt_b, List.map_cons, List.map_nil, List.sum_cons, List.sum_nil, true_and, and_true, if_true, if_false, ite_true, ite_false, Nat.reduceLT, Nat.reduceLeDiff, Nat.reduceAdd, Nat.reduceEqDiff, eq_self, not_true_eq_false, not_false_eq_true, Nat.lt_irrefl, or_true, true_or, or_false, false_or, z_cell_lt, Value.category, t0, t2, hb0, hb2, hb3, hf0, hf1, hf2, f0, f1, c1, nI_7 ho7, nI_c ho7, q_and, q_upd, u1, k1, g0, g2, v0, v3, c_mates (o1 _ _) ho7, q_or, u2, k2, nI_1]
    exact ih
theorem c_among (hT : toldAt h b n rm mt nt fm vr) (hF : fitsAt h f nd br rc) (hd : f + 3 < b ∨ b + 3 < f) {s : Nat} (hs : s < 128) : zK (d + 3) 36 [.ref f, .ref b, .int (nI s)] (h, u) Q = Q (some (.int (if acm (pre (fun i => mt i &&& s) nd n) (pre (fun i => nt i ||| matesOf n rm fm i) br n) s rc s s then 1 else 0)), (fitsSet h f (pre (fun i => mt i &&& s) nd n) (pre (fun i => nt i ||| matesOf n rm fm i) br n) (acm (pre (fun i => mt i &&& s) nd n) (pre (fun i => nt i ||| matesOf n rm fm i) br n) s rc s), u)) := by
  refine zK_of (k := 3) (by omega) ?_
  refine zK_in (M := MX2_among) rfl (Nat.le_of_ble_eq_true rfl) ?_
  show zW 2 MX2_among 0 ([.ref f, .ref b, .int (nI s), .null], [], (h, u)) _
  simp only [eX2_among_0, eX2_among_1, eX2_among_3, eX2_among_4, eX2_among_7, eX2_among_10, eX2_among_11, eX2_among_14, eX2_among_15, eX2_among_16, eX2_among_19, eX2_among_20, eX2_among_21, eX2_among_22, eX2_among_23, eX2_among_24, eX2_among_25, eX2_among_28, eX2_among_29, eX2_among_30, eX2_among_33, eX2_among_34, eX2_among_35, eX2_among_36, eX2_among_37, eX2_among_40, eX2_among_41, eX2_among_42, eX2_among_45, eX2_among_48, eX2_among_49, eX2_among_50, eX2_among_53, rX2_among, zg_aload, zg_getfield, zg_goto, zg_iaload, zg_iand, zg_iastore, zg_icmp, zg_iconst, zg_iinc, zg_iload, zg_ior, zg_ireturn, zg_istore, zg_iv1, q10, q01, q00, ite_self, zLd_i, zLd_l, zLd_a, zInc_i, zGet_o, zGet2_s, zPut_o, zAld_i, zAll_j, zAst_i, zAsl_j, zLen_i, zLen_j, zRt_i, zRt_z, zRl2_l, zRv_n, List.getElem?_cons_zero, List.getElem?_cons_succ, List.length_cons, List.length_nil, z_set, z_set2, z_cut, List.set_cons_zero, List.set_cons_succ, Option.toList_some, Option.toList_none, List.cons_append, List.nil_append, zif, zW_ite, zfit_0, zfit_1, zfit_2, zfit_3, zisc_o, zRt_c, zRt_b, List.map_cons, List.map_nil, List.sum_cons, List.sum_nil, true_and, and_true, if_true, if_false, ite_true, ite_false, Nat.reduceLT, Nat.reduceLeDiff, Nat.reduceAdd, Nat.reduceEqDiff, eq_self, not_true_eq_false, not_false_eq_true, Nat.lt_irrefl, or_true, true_or, or_false, false_or, z_cell_lt, Value.category]
  exact w_among (d := 0) hs hd hT n 0 h hT (by rw [pre_0, pre_0]; exact hF) hF.2.2.2.2.2.1 hF.2.2.2.2.2.2 (by omega) (by omega)
/-- what still counts of what is told when one guest is silent -/
def hrd (n sl i : Nat) : Nat := if i = sl then 0 else (2 ^ n - 1) &&& (127 - 2 ^ sl)
theorem w_without {sl : Nat} (hsl : sl < 7) (hd : f + 3 < b ∨ b + 3 < f) : ∀ k o h x5, toldAt h b n rm mt nt fm vr → fitsAt h f (pre (fun i => mt i &&& hrd n sl i) nd o) (pre (fun i => nt i &&& hrd n sl i ||| matesOf n rm fm i) br o) rc → (∀ i, nd i < 128) → (∀ i, br i < 128) → n - o = k → o ≤ n → zW (d + 2) MX2_without 14 ([.ref f, .ref b, .int (nI sl), .int (nI ((2 ^ n - 1) &&& (127 - 2 ^ sl))), .int (nI o), x5], [], (h, u)) (fun q => q = (some (.int (if acm (pre (fun i => mt i &&& hrd n sl i) nd n) (pre (fun i => nt i &&& hrd n sl i ||| matesOf n rm fm i) br n) (2 ^ n - 1) rc (2 ^ n - 1) (2 ^ n - 1) then 1 else 0)), (fitsSet h f (pre (fun i => mt i &&& hrd n sl i) nd n) (pre (fun i => nt i &&& hrd n sl i ||| matesOf n rm fm i) br n) (acm (pre (fun i => mt i &&& hrd n sl i) nd n) (pre (fun i => nt i &&& hrd n sl i ||| matesOf n rm fm i) br n) (2 ^ n - 1) rc (2 ^ n - 1)), u))) := by
  intro k
  induction k with
  | zero =>
    intro o h x5 hT hF hnd hbr ho hle
    obtain ⟨hf, f0, f1, f2, f3, hn1, hb1⟩ := id hF
    obtain ⟨hb, t0, t1, t2, t3, hn, hr, hm, ht⟩ := id hT
    have hf0 : f < 1000 := by omega
    have hb0 : b < 1000 := by omega
    have e : o = n := by omega
    subst e
    have hs : 2 ^ o - 1 < 128 := by
      have : 2 ^ o ≤ 2 ^ 7 := Nat.pow_le_pow_right (by decide) hn
      omega
    rw [eX2_without_14]
    simp only [eX2_without_0, eX2_without_1, eX2_without_4, eX2_without_5, eX2_without_6, eX2_without_7, eX2_without_8, eX2_without_9, eX2_without_10, eX2_without_11, eX2_without_12, eX2_without_16, eX2_without_17, eX2_without_20, eX2_without_23, eX2_without_25, eX2_without_26, eX2_without_29, eX2_without_30, eX2_without_33, eX2_without_34, eX2_without_36, eX2_without_37, eX2_without_40, eX2_without_42, eX2_without_43, eX2_without_46, eX2_without_48, eX2_without_49, eX2_without_51, eX2_without_52, eX2_without_53, eX2_without_54, eX2_without_57, eX2_without_59, eX2_without_60, eX2_without_63, eX2_without_65, eX2_without_66, eX2_without_68, eX2_without_69, eX2_without_70, eX2_without_72, eX2_without_75, eX2_without_76, eX2_without_77, eX2_without_80, eX2_without_83, eX2_without_84, eX2_without_85, eX2_without_88, eX2_without_91, rX2_without, zg_aload, zg_getfield, zg_goto, zg_iaload, zg_iand, zg_iastore, zg_icmp, zg_iconst, zg_iinc, zg_iload, zg_ior, zg_ireturn, zg_ishl, zg_istore, zg_iv0, zg_iv1, zg_ixor, q10, q01, q00, ite_self, zLd_i, zLd_l, zLd_a, zInc_i, zGet_o, zGet2_s, zPut_o, zAld_i, zAll_j, zAst_i, zAsl_j, zLen_i, zLen_j, zRt_i, zRt_z, zRl2_l, zRv_n, List.getElem?_cons_zero, List.getElem?_cons_succ, List.length_cons, List.length_nil, z_set, z_set2, z_cut, List.set_cons_zero, List.set_cons_succ, Option.toList_some, Option.toList_none, List.cons_append, List.nil_append, zif, zW_ite, zfit_0, zfit_1, zfit_2, zfit_3, zisc_o, zRt_c, zRt_b, List.map_cons, List.map_nil, List.sum_cons, List.sum_nil, true_and, and_true, if_true, if_false, ite_true, ite_false, Nat.reduceLT, Nat.reduceLeDiff, Nat.reduceAdd, Nat.reduceEqDiff, eq_self, not_true_eq_false, not_false_eq_true, Nat.lt_irrefl, or_true, true_or, or_false, false_or, z_cell_lt, Value.category, t0, hb0, hf0, f0, Int32.lt_irrefl, c_all hT, c_allCome hF hs]
    split <;> simp
  | succ k ih =>
    intro o h x5 hT hF hnd hbr ho hle
    obtain ⟨hf, f0, f1, f2, f3, hn1, hb1⟩ := id hF
    obtain ⟨hb, t0, t1, t2, t3, hn, hr, hm, ht⟩ := id hT
    have hf0 : f < 1000 := by omega
    have hf1 : f + 1 < 1000 := by omega
    have hf2 : f + 2 < 1000 := by omega
    have hb0 : b < 1000 := by omega
    have hb2 : b + 2 < 1000 := by omega
    have hb3 : b + 3 < 1000 := by omega
    have ho7 : o < 7 := by omega
    have c1 : nI o < nI n := nI_lt (show o < n by omega) (by omega)
    have c2 : (nI o = nI sl) = (o = sl) := nI_eqI (by omega) (by omega)
    have u1 := pre_up (fun i => mt i &&& hrd n sl i) nd o
    have u2 := pre_up (fun i => nt i &&& hrd n sl i ||| matesOf n rm fm i) br o
    have hF1 := fitsSet_at (h := h) (rc := rc) hf (pre_lt (o := o + 1) (g := fun i => mt i &&& hrd n sl i) (fun i => q_and_lt (hm i)) hnd) hb1
    have o1 : ∀ nd br, toldAt (fitsSet h f nd br rc) b n rm mt nt fm vr := fun nd br => toldAt_out (fun j h1 h2 => fitsSet_out (by omega)) hT
    obtain ⟨_, g0, g1, g2, g3, _, _⟩ := id hF1
    obtain ⟨_, v0, v1, v2, v3, _⟩ := o1 (pre (fun i => mt i &&& hrd n sl i) nd (o + 1)) (pre (fun i => nt i &&& hrd n sl i ||| matesOf n rm fm i) br o)
    have ih := fun x => ih (o + 1) _ x (o1 _ _) (fitsSet_at hf (pre_lt (o := o + 1) (g := fun i => mt i &&& hrd n sl i) (fun i => q_and_lt (hm i)) hnd) (pre_lt (o := o + 1) (g := fun i => nt i &&& hrd n sl i ||| matesOf n rm fm i) (fun i => q_or_lt (q_and_lt (ht i)) (matesOf_lt' hT i)) hbr)) hnd hbr (by omega) (by omega)
    simp only [fitsSet_set] at ih
    have k1 := fits_up1 hF (nd' := pre (fun i => mt i &&& hrd n sl i) nd (o + 1))
    have k2 := fits_up2 hF1 (br' := pre (fun i => nt i &&& hrd n sl i ||| matesOf n rm fm i) br (o + 1))
    rw [fitsSet_set] at k2
    rw [eX2_without_14]
    by_cases c : o = sl
    · subst c
      have hh : hrd n o o = 0 := if_pos rfl
      rw [hh] at u1 u2
      have y1 : nI (mt o) &&& 0 = nI (mt o &&& 0) := q_and _ 0
      have y2 : nI (nt o) &&& 0 = nI (nt o &&& 0) := q_and _ 0
      simp only [eX2_without_0, eX2_without_1, eX2_without_4, eX2_without_5, eX2_without_6, eX2_without_7, eX2_without_8, eX2_without_9, eX2_without_10, eX2_without_11, eX2_without_12, eX2_without_16, eX2_without_17, eX2_without_20, eX2_without_23, eX2_without_25, eX2_without_26, eX2_without_29, eX2_without_30, eX2_without_33, eX2_without_34, eX2_without_36, eX2_without_37, eX2_without_40, eX2_without_42, eX2_without_43, eX2_without_46, eX2_without_48, eX2_without_49, eX2_without_51, eX2_without_52, eX2_without_53, eX2_without_54, eX2_without_57, eX2_without_59, eX2_without_60, eX2_without_63, eX2_without_65, eX2_without_66, eX2_without_68, eX2_without_69, eX2_without_70, eX2_without_72, eX2_without_75, eX2_without_76, eX2_without_77, eX2_without_80, eX2_without_83, eX2_without_84, eX2_without_85, eX2_without_88, eX2_without_91, rX2_without, zg_aload, zg_getfield, zg_goto, zg_iaload, zg_iand, zg_iastore, zg_icmp, zg_iconst, zg_iinc, zg_iload, zg_ior, zg_ireturn, zg_ishl, zg_istore, zg_iv0, zg_iv1, zg_ixor, q10, q01, q00, ite_self, zLd_i, zLd_l, zLd_a, zInc_i, zGet_o, zGet2_s, zPut_o, zAld_i, zAll_j, zAst_i, zAsl_j, zLen_i, zLen_j, zRt_i, zRt_z, zRl2_l, zRv_n, List.getElem?_cons_zero, List.getElem?_cons_succ, List.length_cons, List.length_nil, z_set, z_set2, z_cut, List.set_cons_zero, List.set_cons_succ, Option.toList_some, Option.toList_none, List.cons_append, List.nil_append, zif, zW_ite, zfit_0, zfit_1, zfit_2, zfit_3, zisc_o, zRt_c, zRt_b, List.map_cons, List.map_nil, List.sum_cons, List.sum_nil, true_and, and_true, if_true, if_false, ite_true, ite_false, Nat.reduceLT, Nat.reduceLeDiff, Nat.reduceAdd, Nat.reduceEqDiff, eq_self, not_true_eq_false, not_false_eq_true, Nat.lt_irrefl, or_true, true_or, or_false, false_or, z_cell_lt, Value.category, t0, t2, hb0, hb2, hb3, hf0, hf1, hf2, f0, f1, c1, nI_7 ho7, nI_c ho7, y1, y2, q_upd, u1, k1, g0, g2, v0, v3, c_mates (o1 _ _) ho7, q_or, u2, k2, nI_1]
      exact ih _
    · have hh : hrd n sl o = (2 ^ n - 1) &&& (127 - 2 ^ sl) := if_neg c
      rw [hh] at u1 u2
      simp only [eX2_without_0, eX2_without_1, eX2_without_4, eX2_without_5, eX2_without_6, eX2_without_7, eX2_without_8, eX2_without_9, eX2_without_10, eX2_without_11, eX2_without_12, eX2_without_16, eX2_without_17, eX2_without_20, eX2_without_23, eX2_without_25, eX2_without_26, eX2_without_29, eX2_without_30, eX2_without_33, eX2_without_34, eX2_without_36, eX2_without_37, eX2_without_40, eX2_without_42, eX2_without_43, eX2_without_46, eX2_without_48, eX2_without_49, eX2_without_51, eX2_without_52, eX2_without_53, eX2_without_54, eX2_without_57, eX2_without_59, eX2_without_60, eX2_without_63, eX2_without_65, eX2_without_66, eX2_without_68, eX2_without_69, eX2_without_70, eX2_without_72, eX2_without_75, eX2_without_76, eX2_without_77, eX2_without_80, eX2_without_83, eX2_without_84, eX2_without_85, eX2_without_88, eX2_without_91, rX2_without, zg_aload, zg_getfield, zg_goto, zg_iaload, zg_iand, zg_iastore, zg_icmp, zg_iconst, zg_iinc, zg_iload, zg_ior, zg_ireturn, zg_ishl, zg_istore, zg_iv0, zg_iv1, zg_ixor, q10, q01, q00, ite_self, zLd_i, zLd_l, zLd_a, zInc_i, zGet_o, zGet2_s, zPut_o, zAld_i, zAll_j, zAst_i, zAsl_j, zLen_i, zLen_j, zRt_i, zRt_z, zRl2_l, zRv_n, List.getElem?_cons_zero, List.getElem?_cons_succ, List.length_cons, List.length_nil, z_set, z_set2, z_cut, List.set_cons_zero, List.set_cons_succ, Option.toList_some, Option.toList_none, List.cons_append, List.nil_append, zif, zW_ite, zfit_0, zfit_1, zfit_2, zfit_3, zisc_o, zRt_c, zRt_b, List.map_cons, List.map_nil, List.sum_cons, List.sum_nil, true_and, and_true, if_true, if_false, ite_true, ite_false, Nat.reduceLT, Nat.reduceLeDiff, Nat.reduceAdd, Nat.reduceEqDiff, eq_self, not_true_eq_false, not_false_eq_true, Nat.lt_irrefl, or_true, true_or, or_false, false_or, z_cell_lt, Value.category, t0, t2, hb0, hb2, hb3, hf0, hf1, hf2, f0, f1, c1, c2, c, nI_7 ho7, nI_c ho7, q_and, q_upd, u1, k1, g0, g2, v0, v3, c_mates (o1 _ _) ho7, q_or, u2, k2, nI_1]
      exact ih _
theorem c_without (hT : toldAt h b n rm mt nt fm vr) (hF : fitsAt h f nd br rc) (hd : f + 3 < b ∨ b + 3 < f) {sl : Nat} (hsl : sl < 7) : zK (d + 3) 37 [.ref f, .ref b, .int (nI sl)] (h, u) Q = Q (some (.int (if acm (pre (fun i => mt i &&& hrd n sl i) nd n) (pre (fun i => nt i &&& hrd n sl i ||| matesOf n rm fm i) br n) (2 ^ n - 1) rc (2 ^ n - 1) (2 ^ n - 1) then 1 else 0)), (fitsSet h f (pre (fun i => mt i &&& hrd n sl i) nd n) (pre (fun i => nt i &&& hrd n sl i ||| matesOf n rm fm i) br n) (acm (pre (fun i => mt i &&& hrd n sl i) nd n) (pre (fun i => nt i &&& hrd n sl i ||| matesOf n rm fm i) br n) (2 ^ n - 1) rc (2 ^ n - 1)), u)) := by
  obtain ⟨hb, t0, t1, t2, t3, hn, hr, hm, ht⟩ := id hT
  have hb0 : b < 1000 := by omega
  have hs : 2 ^ n - 1 < 128 := by
    have : 2 ^ n ≤ 2 ^ 7 := Nat.pow_le_pow_right (by decide) hn
    omega
  refine zK_of (k := 3) (by omega) ?_
  refine zK_in (M := MX2_without) rfl (Nat.le_of_ble_eq_true rfl) ?_
  show zW 2 MX2_without 0 ([.ref f, .ref b, .int (nI sl), .null, .null, .null], [], (h, u)) _
  simp only [eX2_without_0, eX2_without_1, eX2_without_4, eX2_without_5, eX2_without_6, eX2_without_7, eX2_without_8, eX2_without_9, eX2_without_10, eX2_without_11, eX2_without_12, eX2_without_16, eX2_without_17, eX2_without_20, eX2_without_23, eX2_without_25, eX2_without_26, eX2_without_29, eX2_without_30, eX2_without_33, eX2_without_34, eX2_without_36, eX2_without_37, eX2_without_40, eX2_without_42, eX2_without_43, eX2_without_46, eX2_without_48, eX2_without_49, eX2_without_51, eX2_without_52, eX2_without_53, eX2_without_54, eX2_without_57, eX2_without_59, eX2_without_60, eX2_without_63, eX2_without_65, eX2_without_66, eX2_without_68, eX2_without_69, eX2_without_70, eX2_without_72, eX2_without_75, eX2_without_76, eX2_without_77, eX2_without_80, eX2_without_83, eX2_without_84, eX2_without_85, eX2_without_88, eX2_without_91, rX2_without, zg_aload, zg_getfield, zg_goto, zg_iaload, zg_iand, zg_iastore, zg_icmp, zg_iconst, zg_iinc, zg_iload, zg_ior, zg_ireturn, zg_ishl, zg_istore, zg_iv0, zg_iv1, zg_ixor, q10, q01, q00, ite_self, zLd_i, zLd_l, zLd_a, zInc_i, zGet_o, zGet2_s, zPut_o, zAld_i, zAll_j, zAst_i, zAsl_j, zLen_i, zLen_j, zRt_i, zRt_z, zRl2_l, zRv_n, List.getElem?_cons_zero, List.getElem?_cons_succ, List.length_cons, List.length_nil, z_set, z_set2, z_cut, List.set_cons_zero, List.set_cons_succ, Option.toList_some, Option.toList_none, List.cons_append, List.nil_append, zif, zW_ite, zfit_0, zfit_1, zfit_2, zfit_3, zisc_o, zRt_c, zRt_b, List.map_cons, List.map_nil, List.sum_cons, List.sum_nil, true_and, and_true, if_true, if_false, ite_true, ite_false, Nat.reduceLT, Nat.reduceLeDiff, Nat.reduceAdd, Nat.reduceEqDiff, eq_self, not_true_eq_false, not_false_eq_true, Nat.lt_irrefl, or_true, true_or, or_false, false_or, z_cell_lt, Value.category, c_all hT, t0, hb0, q_shl sl (by omega), q_andn _ hs _ (q_pow_lt hsl)]
  exact w_without (d := 0) hsl hd n 0 h _ hT (by rw [pre_0, pre_0]; exact hF) hF.2.2.2.2.2.1 hF.2.2.2.2.2.2 (by omega) (by omega)
end FITS

