/-! GUESTS, ROOMS, pairs as the class holds them -/
theorem eX9_has_0 {d : Nat} {S : zS} {Q : zR → Prop} : zW d MX9_has 0 S Q = zGo d MX9_has (.iload 1) z0 1 S Q := zW_step (I := .iload_n 1) rfl S Q
theorem eX9_has_1 {d : Nat} {S : zS} {Q : zR → Prop} : zW d MX9_has 1 S Q = zGo d MX9_has (.ifCond .lt 15) (zt 16) 4 S Q := zW_step (I := .ifCond .lt 15) rfl S Q
theorem eX9_has_4 {d : Nat} {S : zS} {Q : zR → Prop} : zW d MX9_has 4 S Q = zGo d MX9_has (.iload 1) z0 5 S Q := zW_step (I := .iload_n 1) rfl S Q
theorem eX9_has_5 {d : Nat} {S : zS} {Q : zR → Prop} : zW d MX9_has 5 S Q = zGo d MX9_has (.aload 0) z0 6 S Q := zW_step (I := .aload_n 0) rfl S Q
theorem eX9_has_6 {d : Nat} {S : zS} {Q : zR → Prop} : zW d MX9_has 6 S Q = zGo d MX9_has (.getfield 21) (zf 0 9 3) 9 S Q := zW_step (I := .getfield 21) rfl S Q
theorem eX9_has_9 {d : Nat} {S : zS} {Q : zR → Prop} : zW d MX9_has 9 S Q = zGo d MX9_has (.if_icmp .ge 7) (zt 16) 12 S Q := zW_step (I := .if_icmp .ge 7) rfl S Q
theorem eX9_has_12 {d : Nat} {S : zS} {Q : zR → Prop} : zW d MX9_has 12 S Q = zGo d MX9_has (.iconst 1) (zv (.int 1)) 13 S Q := zW_step (I := .iconst 1) rfl S Q
theorem eX9_has_13 {d : Nat} {S : zS} {Q : zR → Prop} : zW d MX9_has 13 S Q = zGo d MX9_has (.goto 4) (zt 17) 16 S Q := zW_step (I := .goto 4) rfl S Q
theorem eX9_has_16 {d : Nat} {S : zS} {Q : zR → Prop} : zW d MX9_has 16 S Q = zGo d MX9_has (.iconst 0) (zv (.int 0)) 17 S Q := zW_step (I := .iconst 0) rfl S Q
theorem eX9_has_17 {d : Nat} {S : zS} {Q : zR → Prop} : zW d MX9_has 17 S Q = zGo d MX9_has (.ireturn) z0 18 S Q := zW_step (I := .ireturn) rfl S Q
theorem rX9_has : MX9_has.2.2.2.2.1 = some .boolean := rfl
theorem eX9_areTwo_0 {d : Nat} {S : zS} {Q : zR → Prop} : zW d MX9_areTwo 0 S Q = zGo d MX9_areTwo (.aload 0) z0 1 S Q := zW_step (I := .aload_n 0) rfl S Q
theorem eX9_areTwo_1 {d : Nat} {S : zS} {Q : zR → Prop} : zW d MX9_areTwo 1 S Q = zGo d MX9_areTwo (.iload 1) z0 2 S Q := zW_step (I := .iload_n 1) rfl S Q
theorem eX9_areTwo_2 {d : Nat} {S : zS} {Q : zR → Prop} : zW d MX9_areTwo 2 S Q = zGo d MX9_areTwo (.invokevirtual 25) (zc 107 2 9) 5 S Q := zW_step (I := .invokevirtual 25) rfl S Q
theorem eX9_areTwo_5 {d : Nat} {S : zS} {Q : zR → Prop} : zW d MX9_areTwo 5 S Q = zGo d MX9_areTwo (.ifCond .eq 20) (zt 25) 8 S Q := zW_step (I := .ifCond .eq 20) rfl S Q
theorem eX9_areTwo_8 {d : Nat} {S : zS} {Q : zR → Prop} : zW d MX9_areTwo 8 S Q = zGo d MX9_areTwo (.aload 0) z0 9 S Q := zW_step (I := .aload_n 0) rfl S Q
theorem eX9_areTwo_9 {d : Nat} {S : zS} {Q : zR → Prop} : zW d MX9_areTwo 9 S Q = zGo d MX9_areTwo (.iload 2) z0 10 S Q := zW_step (I := .iload_n 2) rfl S Q
theorem eX9_areTwo_10 {d : Nat} {S : zS} {Q : zR → Prop} : zW d MX9_areTwo 10 S Q = zGo d MX9_areTwo (.invokevirtual 25) (zc 107 2 9) 13 S Q := zW_step (I := .invokevirtual 25) rfl S Q
theorem eX9_areTwo_13 {d : Nat} {S : zS} {Q : zR → Prop} : zW d MX9_areTwo 13 S Q = zGo d MX9_areTwo (.ifCond .eq 12) (zt 25) 16 S Q := zW_step (I := .ifCond .eq 12) rfl S Q
theorem eX9_areTwo_16 {d : Nat} {S : zS} {Q : zR → Prop} : zW d MX9_areTwo 16 S Q = zGo d MX9_areTwo (.iload 1) z0 17 S Q := zW_step (I := .iload_n 1) rfl S Q
theorem eX9_areTwo_17 {d : Nat} {S : zS} {Q : zR → Prop} : zW d MX9_areTwo 17 S Q = zGo d MX9_areTwo (.iload 2) z0 18 S Q := zW_step (I := .iload_n 2) rfl S Q
theorem eX9_areTwo_18 {d : Nat} {S : zS} {Q : zR → Prop} : zW d MX9_areTwo 18 S Q = zGo d MX9_areTwo (.if_icmp .eq 7) (zt 25) 21 S Q := zW_step (I := .if_icmp .eq 7) rfl S Q
theorem eX9_areTwo_21 {d : Nat} {S : zS} {Q : zR → Prop} : zW d MX9_areTwo 21 S Q = zGo d MX9_areTwo (.iconst 1) (zv (.int 1)) 22 S Q := zW_step (I := .iconst 1) rfl S Q
theorem eX9_areTwo_22 {d : Nat} {S : zS} {Q : zR → Prop} : zW d MX9_areTwo 22 S Q = zGo d MX9_areTwo (.goto 4) (zt 26) 25 S Q := zW_step (I := .goto 4) rfl S Q
theorem eX9_areTwo_25 {d : Nat} {S : zS} {Q : zR → Prop} : zW d MX9_areTwo 25 S Q = zGo d MX9_areTwo (.iconst 0) (zv (.int 0)) 26 S Q := zW_step (I := .iconst 0) rfl S Q
theorem eX9_areTwo_26 {d : Nat} {S : zS} {Q : zR → Prop} : zW d MX9_areTwo 26 S Q = zGo d MX9_areTwo (.ireturn) z0 27 S Q := zW_step (I := .ireturn) rfl S Q
theorem rX9_areTwo : MX9_areTwo.2.2.2.2.1 = some .boolean := rfl
theorem eX9_all_0 {d : Nat} {S : zS} {Q : zR → Prop} : zW d MX9_all 0 S Q = zGo d MX9_all (.iconst 1) (zv (.int 1)) 1 S Q := zW_step (I := .iconst 1) rfl S Q
theorem eX9_all_1 {d : Nat} {S : zS} {Q : zR → Prop} : zW d MX9_all 1 S Q = zGo d MX9_all (.aload 0) z0 2 S Q := zW_step (I := .aload_n 0) rfl S Q
theorem eX9_all_2 {d : Nat} {S : zS} {Q : zR → Prop} : zW d MX9_all 2 S Q = zGo d MX9_all (.getfield 21) (zf 0 9 3) 5 S Q := zW_step (I := .getfield 21) rfl S Q
theorem eX9_all_5 {d : Nat} {S : zS} {Q : zR → Prop} : zW d MX9_all 5 S Q = zGo d MX9_all (.ishl) z0 6 S Q := zW_step (I := .ishl) rfl S Q
theorem eX9_all_6 {d : Nat} {S : zS} {Q : zR → Prop} : zW d MX9_all 6 S Q = zGo d MX9_all (.iconst 1) (zv (.int 1)) 7 S Q := zW_step (I := .iconst 1) rfl S Q
theorem eX9_all_7 {d : Nat} {S : zS} {Q : zR → Prop} : zW d MX9_all 7 S Q = zGo d MX9_all (.isub) z0 8 S Q := zW_step (I := .isub) rfl S Q
theorem eX9_all_8 {d : Nat} {S : zS} {Q : zR → Prop} : zW d MX9_all 8 S Q = zGo d MX9_all (.ireturn) z0 9 S Q := zW_step (I := .ireturn) rfl S Q
theorem rX9_all : MX9_all.2.2.2.2.1 = some .int := rfl
theorem eX9_about_0 {d : Nat} {S : zS} {Q : zR → Prop} : zW d MX9_about 0 S Q = zGo d MX9_about (.aload 0) z0 1 S Q := zW_step (I := .aload_n 0) rfl S Q
theorem eX9_about_1 {d : Nat} {S : zS} {Q : zR → Prop} : zW d MX9_about 1 S Q = zGo d MX9_about (.getfield 15) (zf 3 9 1) 4 S Q := zW_step (I := .getfield 15) rfl S Q
theorem eX9_about_4 {d : Nat} {S : zS} {Q : zR → Prop} : zW d MX9_about 4 S Q = zGo d MX9_about (.iload 1) z0 5 S Q := zW_step (I := .iload_n 1) rfl S Q
theorem eX9_about_5 {d : Nat} {S : zS} {Q : zR → Prop} : zW d MX9_about 5 S Q = zGo d MX9_about (.iaload) z0 6 S Q := zW_step (I := .iaload) rfl S Q
theorem eX9_about_6 {d : Nat} {S : zS} {Q : zR → Prop} : zW d MX9_about 6 S Q = zGo d MX9_about (.iload 2) z0 7 S Q := zW_step (I := .iload_n 2) rfl S Q
theorem eX9_about_7 {d : Nat} {S : zS} {Q : zR → Prop} : zW d MX9_about 7 S Q = zGo d MX9_about (.ishr) z0 8 S Q := zW_step (I := .ishr) rfl S Q
theorem eX9_about_8 {d : Nat} {S : zS} {Q : zR → Prop} : zW d MX9_about 8 S Q = zGo d MX9_about (.iconst 1) (zv (.int 1)) 9 S Q := zW_step (I := .iconst 1) rfl S Q
theorem eX9_about_9 {d : Nat} {S : zS} {Q : zR → Prop} : zW d MX9_about 9 S Q = zGo d MX9_about (.iand) z0 10 S Q := zW_step (I := .iand) rfl S Q
theorem eX9_about_10 {d : Nat} {S : zS} {Q : zR → Prop} : zW d MX9_about 10 S Q = zGo d MX9_about (.iconst 1) (zv (.int 1)) 11 S Q := zW_step (I := .iconst 1) rfl S Q
theorem eX9_about_11 {d : Nat} {S : zS} {Q : zR → Prop} : zW d MX9_about 11 S Q = zGo d MX9_about (.if_icmp .ne 5) (zt 16) 14 S Q := zW_step (I := .if_icmp .ne 5) rfl S Q
theorem eX9_about_14 {d : Nat} {S : zS} {Q : zR → Prop} : zW d MX9_about 14 S Q = zGo d MX9_about (.iconst 1) (zv (.int 1)) 15 S Q := zW_step (I := .iconst 1) rfl S Q
theorem eX9_about_15 {d : Nat} {S : zS} {Q : zR → Prop} : zW d MX9_about 15 S Q = zGo d MX9_about (.ireturn) z0 16 S Q := zW_step (I := .ireturn) rfl S Q
theorem eX9_about_16 {d : Nat} {S : zS} {Q : zR → Prop} : zW d MX9_about 16 S Q = zGo d MX9_about (.aload 0) z0 17 S Q := zW_step (I := .aload_n 0) rfl S Q
theorem eX9_about_17 {d : Nat} {S : zS} {Q : zR → Prop} : zW d MX9_about 17 S Q = zGo d MX9_about (.getfield 18) (zf 3 9 2) 20 S Q := zW_step (I := .getfield 18) rfl S Q
theorem eX9_about_20 {d : Nat} {S : zS} {Q : zR → Prop} : zW d MX9_about 20 S Q = zGo d MX9_about (.iload 1) z0 21 S Q := zW_step (I := .iload_n 1) rfl S Q
theorem eX9_about_21 {d : Nat} {S : zS} {Q : zR → Prop} : zW d MX9_about 21 S Q = zGo d MX9_about (.iaload) z0 22 S Q := zW_step (I := .iaload) rfl S Q
theorem eX9_about_22 {d : Nat} {S : zS} {Q : zR → Prop} : zW d MX9_about 22 S Q = zGo d MX9_about (.iload 2) z0 23 S Q := zW_step (I := .iload_n 2) rfl S Q
theorem eX9_about_23 {d : Nat} {S : zS} {Q : zR → Prop} : zW d MX9_about 23 S Q = zGo d MX9_about (.ishr) z0 24 S Q := zW_step (I := .ishr) rfl S Q
theorem eX9_about_24 {d : Nat} {S : zS} {Q : zR → Prop} : zW d MX9_about 24 S Q = zGo d MX9_about (.iconst 1) (zv (.int 1)) 25 S Q := zW_step (I := .iconst 1) rfl S Q
theorem eX9_about_25 {d : Nat} {S : zS} {Q : zR → Prop} : zW d MX9_about 25 S Q = zGo d MX9_about (.iand) z0 26 S Q := zW_step (I := .iand) rfl S Q
theorem eX9_about_26 {d : Nat} {S : zS} {Q : zR → Prop} : zW d MX9_about 26 S Q = zGo d MX9_about (.iconst 1) (zv (.int 1)) 27 S Q := zW_step (I := .iconst 1) rfl S Q
theorem eX9_about_27 {d : Nat} {S : zS} {Q : zR → Prop} : zW d MX9_about 27 S Q = zGo d MX9_about (.if_icmp .ne 7) (zt 34) 30 S Q := zW_step (I := .if_icmp .ne 7) rfl S Q
theorem eX9_about_30 {d : Nat} {S : zS} {Q : zR → Prop} : zW d MX9_about 30 S Q = zGo d MX9_about (.iconst 0) (zv (.int 0)) 31 S Q := zW_step (I := .iconst 0) rfl S Q
theorem eX9_about_31 {d : Nat} {S : zS} {Q : zR → Prop} : zW d MX9_about 31 S Q = zGo d MX9_about (.goto 4) (zt 35) 34 S Q := zW_step (I := .goto 4) rfl S Q
theorem eX9_about_34 {d : Nat} {S : zS} {Q : zR → Prop} : zW d MX9_about 34 S Q = zGo d MX9_about (.iconst 2) (zv (.int 2)) 35 S Q := zW_step (I := .iconst 2) rfl S Q
theorem eX9_about_35 {d : Nat} {S : zS} {Q : zR → Prop} : zW d MX9_about 35 S Q = zGo d MX9_about (.ireturn) z0 36 S Q := zW_step (I := .ireturn) rfl S Q
theorem rX9_about : MX9_about.2.2.2.2.1 = some .int := rfl
theorem eX9_openOf_0 {d : Nat} {S : zS} {Q : zR → Prop} : zW d MX9_openOf 0 S Q = zGo d MX9_openOf (.aload 0) z0 1 S Q := zW_step (I := .aload_n 0) rfl S Q
theorem eX9_openOf_1 {d : Nat} {S : zS} {Q : zR → Prop} : zW d MX9_openOf 1 S Q = zGo d MX9_openOf (.invokevirtual 32) (zc 109 1 9) 4 S Q := zW_step (I := .invokevirtual 32) rfl S Q
theorem eX9_openOf_4 {d : Nat} {S : zS} {Q : zR → Prop} : zW d MX9_openOf 4 S Q = zGo d MX9_openOf (.aload 0) z0 5 S Q := zW_step (I := .aload_n 0) rfl S Q
theorem eX9_openOf_5 {d : Nat} {S : zS} {Q : zR → Prop} : zW d MX9_openOf 5 S Q = zGo d MX9_openOf (.getfield 15) (zf 3 9 1) 8 S Q := zW_step (I := .getfield 15) rfl S Q
theorem eX9_openOf_8 {d : Nat} {S : zS} {Q : zR → Prop} : zW d MX9_openOf 8 S Q = zGo d MX9_openOf (.iload 1) z0 9 S Q := zW_step (I := .iload_n 1) rfl S Q
theorem eX9_openOf_9 {d : Nat} {S : zS} {Q : zR → Prop} : zW d MX9_openOf 9 S Q = zGo d MX9_openOf (.iaload) z0 10 S Q := zW_step (I := .iaload) rfl S Q
theorem eX9_openOf_10 {d : Nat} {S : zS} {Q : zR → Prop} : zW d MX9_openOf 10 S Q = zGo d MX9_openOf (.aload 0) z0 11 S Q := zW_step (I := .aload_n 0) rfl S Q
theorem eX9_openOf_11 {d : Nat} {S : zS} {Q : zR → Prop} : zW d MX9_openOf 11 S Q = zGo d MX9_openOf (.getfield 18) (zf 3 9 2) 14 S Q := zW_step (I := .getfield 18) rfl S Q
theorem eX9_openOf_14 {d : Nat} {S : zS} {Q : zR → Prop} : zW d MX9_openOf 14 S Q = zGo d MX9_openOf (.iload 1) z0 15 S Q := zW_step (I := .iload_n 1) rfl S Q
theorem eX9_openOf_15 {d : Nat} {S : zS} {Q : zR → Prop} : zW d MX9_openOf 15 S Q = zGo d MX9_openOf (.iaload) z0 16 S Q := zW_step (I := .iaload) rfl S Q
theorem eX9_openOf_16 {d : Nat} {S : zS} {Q : zR → Prop} : zW d MX9_openOf 16 S Q = zGo d MX9_openOf (.ior) z0 17 S Q := zW_step (I := .ior) rfl S Q
theorem eX9_openOf_17 {d : Nat} {S : zS} {Q : zR → Prop} : zW d MX9_openOf 17 S Q = zGo d MX9_openOf (.iconst 1) (zv (.int 1)) 18 S Q := zW_step (I := .iconst 1) rfl S Q
theorem eX9_openOf_18 {d : Nat} {S : zS} {Q : zR → Prop} : zW d MX9_openOf 18 S Q = zGo d MX9_openOf (.iload 1) z0 19 S Q := zW_step (I := .iload_n 1) rfl S Q
theorem eX9_openOf_19 {d : Nat} {S : zS} {Q : zR → Prop} : zW d MX9_openOf 19 S Q = zGo d MX9_openOf (.ishl) z0 20 S Q := zW_step (I := .ishl) rfl S Q
theorem eX9_openOf_20 {d : Nat} {S : zS} {Q : zR → Prop} : zW d MX9_openOf 20 S Q = zGo d MX9_openOf (.ior) z0 21 S Q := zW_step (I := .ior) rfl S Q
theorem eX9_openOf_21 {d : Nat} {S : zS} {Q : zR → Prop} : zW d MX9_openOf 21 S Q = zGo d MX9_openOf (.iconst (-1)) (zv (.int (-1))) 22 S Q := zW_step (I := .iconst (-1)) rfl S Q
theorem eX9_openOf_22 {d : Nat} {S : zS} {Q : zR → Prop} : zW d MX9_openOf 22 S Q = zGo d MX9_openOf (.ixor) z0 23 S Q := zW_step (I := .ixor) rfl S Q
theorem eX9_openOf_23 {d : Nat} {S : zS} {Q : zR → Prop} : zW d MX9_openOf 23 S Q = zGo d MX9_openOf (.iand) z0 24 S Q := zW_step (I := .iand) rfl S Q
theorem eX9_openOf_24 {d : Nat} {S : zS} {Q : zR → Prop} : zW d MX9_openOf 24 S Q = zGo d MX9_openOf (.ireturn) z0 25 S Q := zW_step (I := .ireturn) rfl S Q
theorem rX9_openOf : MX9_openOf.2.2.2.2.1 = some .int := rfl
theorem eX9_mates_0 {d : Nat} {S : zS} {Q : zR → Prop} : zW d MX9_mates 0 S Q = zGo d MX9_mates (.iconst 0) (zv (.int 0)) 1 S Q := zW_step (I := .iconst 0) rfl S Q
theorem eX9_mates_1 {d : Nat} {S : zS} {Q : zR → Prop} : zW d MX9_mates 1 S Q = zGo d MX9_mates (.istore 2) z0 2 S Q := zW_step (I := .istore_n 2) rfl S Q
theorem eX9_mates_2 {d : Nat} {S : zS} {Q : zR → Prop} : zW d MX9_mates 2 S Q = zGo d MX9_mates (.aload 0) z0 3 S Q := zW_step (I := .aload_n 0) rfl S Q
theorem eX9_mates_3 {d : Nat} {S : zS} {Q : zR → Prop} : zW d MX9_mates 3 S Q = zGo d MX9_mates (.getfield 57) (zf 2 9 4) 6 S Q := zW_step (I := .getfield 57) rfl S Q
theorem eX9_mates_6 {d : Nat} {S : zS} {Q : zR → Prop} : zW d MX9_mates 6 S Q = zGo d MX9_mates (.ifCond .eq 45) (zt 51) 9 S Q := zW_step (I := .ifCond .eq 45) rfl S Q
theorem eX9_mates_9 {d : Nat} {S : zS} {Q : zR → Prop} : zW d MX9_mates 9 S Q = zGo d MX9_mates (.iconst 0) (zv (.int 0)) 10 S Q := zW_step (I := .iconst 0) rfl S Q
theorem eX9_mates_10 {d : Nat} {S : zS} {Q : zR → Prop} : zW d MX9_mates 10 S Q = zGo d MX9_mates (.istore 3) z0 11 S Q := zW_step (I := .istore_n 3) rfl S Q
theorem eX9_mates_11 {d : Nat} {S : zS} {Q : zR → Prop} : zW d MX9_mates 11 S Q = zGo d MX9_mates (.iload 3) z0 12 S Q := zW_step (I := .iload_n 3) rfl S Q
theorem eX9_mates_12 {d : Nat} {S : zS} {Q : zR → Prop} : zW d MX9_mates 12 S Q = zGo d MX9_mates (.aload 0) z0 13 S Q := zW_step (I := .aload_n 0) rfl S Q
theorem eX9_mates_13 {d : Nat} {S : zS} {Q : zR → Prop} : zW d MX9_mates 13 S Q = zGo d MX9_mates (.getfield 21) (zf 0 9 3) 16 S Q := zW_step (I := .getfield 21) rfl S Q
theorem eX9_mates_16 {d : Nat} {S : zS} {Q : zR → Prop} : zW d MX9_mates 16 S Q = zGo d MX9_mates (.if_icmp .ge 35) (zt 51) 19 S Q := zW_step (I := .if_icmp .ge 35) rfl S Q
theorem eX9_mates_19 {d : Nat} {S : zS} {Q : zR → Prop} : zW d MX9_mates 19 S Q = zGo d MX9_mates (.iload 3) z0 20 S Q := zW_step (I := .iload_n 3) rfl S Q
theorem eX9_mates_20 {d : Nat} {S : zS} {Q : zR → Prop} : zW d MX9_mates 20 S Q = zGo d MX9_mates (.iload 1) z0 21 S Q := zW_step (I := .iload_n 1) rfl S Q
theorem eX9_mates_21 {d : Nat} {S : zS} {Q : zR → Prop} : zW d MX9_mates 21 S Q = zGo d MX9_mates (.if_icmp .eq 24) (zt 45) 24 S Q := zW_step (I := .if_icmp .eq 24) rfl S Q
theorem eX9_mates_24 {d : Nat} {S : zS} {Q : zR → Prop} : zW d MX9_mates 24 S Q = zGo d MX9_mates (.aload 0) z0 25 S Q := zW_step (I := .aload_n 0) rfl S Q
theorem eX9_mates_25 {d : Nat} {S : zS} {Q : zR → Prop} : zW d MX9_mates 25 S Q = zGo d MX9_mates (.getfield 9) (zf 3 9 0) 28 S Q := zW_step (I := .getfield 9) rfl S Q
theorem eX9_mates_28 {d : Nat} {S : zS} {Q : zR → Prop} : zW d MX9_mates 28 S Q = zGo d MX9_mates (.iload 3) z0 29 S Q := zW_step (I := .iload_n 3) rfl S Q
theorem eX9_mates_29 {d : Nat} {S : zS} {Q : zR → Prop} : zW d MX9_mates 29 S Q = zGo d MX9_mates (.iaload) z0 30 S Q := zW_step (I := .iaload) rfl S Q
theorem eX9_mates_30 {d : Nat} {S : zS} {Q : zR → Prop} : zW d MX9_mates 30 S Q = zGo d MX9_mates (.aload 0) z0 31 S Q := zW_step (I := .aload_n 0) rfl S Q
theorem eX9_mates_31 {d : Nat} {S : zS} {Q : zR → Prop} : zW d MX9_mates 31 S Q = zGo d MX9_mates (.getfield 9) (zf 3 9 0) 34 S Q := zW_step (I := .getfield 9) rfl S Q
theorem eX9_mates_34 {d : Nat} {S : zS} {Q : zR → Prop} : zW d MX9_mates 34 S Q = zGo d MX9_mates (.iload 1) z0 35 S Q := zW_step (I := .iload_n 1) rfl S Q
theorem eX9_mates_35 {d : Nat} {S : zS} {Q : zR → Prop} : zW d MX9_mates 35 S Q = zGo d MX9_mates (.iaload) z0 36 S Q := zW_step (I := .iaload) rfl S Q
theorem eX9_mates_36 {d : Nat} {S : zS} {Q : zR → Prop} : zW d MX9_mates 36 S Q = zGo d MX9_mates (.if_icmp .ne 9) (zt 45) 39 S Q := zW_step (I := .if_icmp .ne 9) rfl S Q
theorem eX9_mates_39 {d : Nat} {S : zS} {Q : zR → Prop} : zW d MX9_mates 39 S Q = zGo d MX9_mates (.iload 2) z0 40 S Q := zW_step (I := .iload_n 2) rfl S Q
theorem eX9_mates_40 {d : Nat} {S : zS} {Q : zR → Prop} : zW d MX9_mates 40 S Q = zGo d MX9_mates (.iconst 1) (zv (.int 1)) 41 S Q := zW_step (I := .iconst 1) rfl S Q
theorem eX9_mates_41 {d : Nat} {S : zS} {Q : zR → Prop} : zW d MX9_mates 41 S Q = zGo d MX9_mates (.iload 3) z0 42 S Q := zW_step (I := .iload_n 3) rfl S Q
theorem eX9_mates_42 {d : Nat} {S : zS} {Q : zR → Prop} : zW d MX9_mates 42 S Q = zGo d MX9_mates (.ishl) z0 43 S Q := zW_step (I := .ishl) rfl S Q
theorem eX9_mates_43 {d : Nat} {S : zS} {Q : zR → Prop} : zW d MX9_mates 43 S Q = zGo d MX9_mates (.ior) z0 44 S Q := zW_step (I := .ior) rfl S Q
theorem eX9_mates_44 {d : Nat} {S : zS} {Q : zR → Prop} : zW d MX9_mates 44 S Q = zGo d MX9_mates (.istore 2) z0 45 S Q := zW_step (I := .istore_n 2) rfl S Q
theorem eX9_mates_45 {d : Nat} {S : zS} {Q : zR → Prop} : zW d MX9_mates 45 S Q = zGo d MX9_mates (.iinc 3 1) (zv (.int 1)) 48 S Q := zW_step (I := .iinc 3 1) rfl S Q
theorem eX9_mates_48 {d : Nat} {S : zS} {Q : zR → Prop} : zW d MX9_mates 48 S Q = zGo d MX9_mates (.goto (-37)) (zt 11) 51 S Q := zW_step (I := .goto (-37)) rfl S Q
theorem eX9_mates_51 {d : Nat} {S : zS} {Q : zR → Prop} : zW d MX9_mates 51 S Q = zGo d MX9_mates (.iload 2) z0 52 S Q := zW_step (I := .iload_n 2) rfl S Q
theorem eX9_mates_52 {d : Nat} {S : zS} {Q : zR → Prop} : zW d MX9_mates 52 S Q = zGo d MX9_mates (.ireturn) z0 53 S Q := zW_step (I := .ireturn) rfl S Q
theorem rX9_mates : MX9_mates.2.2.2.2.1 = some .int := rfl
def toldAt (h : Nat → zE) (b n : Nat) (rm mt nt : Nat → Nat) (fm : Bool) (vr : Int32) : Prop :=
  b + 3 < 1000 ∧ h b = zO 9 [.ref (b + 1), .ref (b + 2), .ref (b + 3), .int (nI n), .int (if fm then 1 else 0), .int vr] ∧ h (b + 1) = zI 0 7 (fun i => nI (rm i)) ∧ h (b + 2) = zI 0 7 (fun i => nI (mt i)) ∧ h (b + 3) = zI 0 7 (fun i => nI (nt i)) ∧ n ≤ 7 ∧ (∀ i, rm i ≤ 9) ∧ (∀ i, mt i < 128) ∧ (∀ i, nt i < 128)
/-- a number that tells one of n -/
def hasB (n : Nat) (g : Int32) : Bool := decide (¬ g < 0) && decide (g < nI n)
theorem hasB_of {n : Nat} {g : Int32} (hn : n ≤ 7) (h : hasB n g = true) : ∃ i, i < n ∧ g = nI i := by
  simp only [hasB, Bool.and_eq_true, decide_eq_true_eq] at h
  obtain ⟨j, hj, rfl⟩ := nI_of h.1
  exact ⟨j, (nI_ltI hj (by omega)).mp h.2, rfl⟩
theorem hasB_in {n i : Nat} (hn : n ≤ 7) (h : i < n) : hasB n (nI i) = true := by
  simp only [hasB, Bool.and_eq_true, decide_eq_true_eq]
  exact ⟨nI_pos (by omega), (nI_ltI (by omega) (by omega)).mpr h⟩
section TOLD
variable {h : Nat → zE} {b n : Nat} {rm mt nt : Nat → Nat} {fm : Bool} {vr : Int32} {d : Nat} {u : zU} {Q : zR → Prop}
theorem c_has (hT : toldAt h b n rm mt nt fm vr) {g : Int32} : zK (d + 1) 107 [.ref b, .int g] (h, u) Q = Q (some (.int (if hasB n g then 1 else 0)), (h, u)) := by
  obtain ⟨hb, h0, h1, h2, h3, hn, hr, hm, ht⟩ := hT
  have hb0 : b < 1000 := by omega
  refine zK_of (k := 1) (by omega) ?_
  refine zK_in (M := MX9_has) rfl (Nat.le_of_ble_eq_true rfl) ?_
  show zW 0 MX9_has 0 ([.ref b, .int g], [], (h, u)) _
  simp only [eX9_has_0, eX9_has_1, eX9_has_4, eX9_has_5, eX9_has_6, eX9_has_9, eX9_has_12, eX9_has_13, eX9_has_16, eX9_has_17, rX9_has, zg_aload, zg_getfield, zg_goto, zg_icmp, zg_iconst, zg_if, zg_iload, zg_ireturn, q10, q01, q00, ite_self, zLd_i, zLd_l, zLd_a, zInc_i, zGet_o, zGet2_s, zPut_o, zAld_i, zAll_j, zAst_i, zAsl_j, zLen_i, zLen_j, zRt_i, zRt_z, zRl2_l, zRv_n, List.getElem?_cons_zero, List.getElem?_cons_succ, List.length_cons, List.length_nil, z_set, z_set2, z_cut, List.set_cons_zero, List.set_cons_succ, Option.toList_some, Option.toList_none, List.cons_append, List.nil_append, zif, zW_ite, zfit_0, zfit_1, zfit_2, zfit_3, zisc_o, zRt_c, zRt_b, List.map_cons, List.map_nil, List.sum_cons, List.sum_nil, true_and, and_true, if_true, if_false, ite_true, ite_false, Nat.reduceLT, Nat.reduceLeDiff, Nat.reduceAdd, Nat.reduceEqDiff, eq_self, not_true_eq_false, not_false_eq_true, Nat.lt_irrefl, or_true, true_or, or_false, false_or, z_cell_lt, Value.category, h0, hb0]
  unfold hasB
  by_cases c1 : g < 0 <;> by_cases c2 : g < nI n <;> simp only [c1, c2, if_true, if_false, decide_true, decide_false, not_true_eq_false, not_false_eq_true, Bool.and_true, Bool.true_and, Bool.and_false, Bool.false_and, Bool.false_eq_true, true_or, or_true, true_and]
theorem c_areTwo (hT : toldAt h b n rm mt nt fm vr) {g k : Int32} : zK (d + 2) 108 [.ref b, .int g, .int k] (h, u) Q = Q (some (.int (if hasB n g && (hasB n k && decide (¬ g = k)) then 1 else 0)), (h, u)) := by
  obtain ⟨hb, h0, -⟩ := id hT
  have hb0 : b < 1000 := by omega
  refine zK_of (k := 2) (by omega) ?_
  refine zK_in (M := MX9_areTwo) rfl (Nat.le_of_ble_eq_true rfl) ?_
  show zW 1 MX9_areTwo 0 ([.ref b, .int g, .int k], [], (h, u)) _
  simp only [eX9_areTwo_0, eX9_areTwo_1, eX9_areTwo_2, eX9_areTwo_5, eX9_areTwo_8, eX9_areTwo_9, eX9_areTwo_10, eX9_areTwo_13, eX9_areTwo_16, eX9_areTwo_17, eX9_areTwo_18, eX9_areTwo_21, eX9_areTwo_22, eX9_areTwo_25, eX9_areTwo_26, rX9_areTwo, zg_aload, zg_goto, zg_icmp, zg_iconst, zg_if, zg_iload, zg_ireturn, zg_iv1, q10, q01, q00, ite_self, zLd_i, zLd_l, zLd_a, zInc_i, zGet_o, zGet2_s, zPut_o, zAld_i, zAll_j, zAst_i, zAsl_j, zLen_i, zLen_j, zRt_i, zRt_z, zRl2_l, zRv_n, List.getElem?_cons_zero, List.getElem?_cons_succ, List.length_cons, List.length_nil, z_set, z_set2, z_cut, List.set_cons_zero, List.set_cons_succ, Option.toList_some, Option.toList_none, List.cons_append, List.nil_append, zif, zW_ite, zfit_0, zfit_1, zfit_2, zfit_3, zisc_o, zRt_c, zRt_b, List.map_cons, List.map_nil, List.sum_cons, List.sum_nil, true_and, and_true, if_true, if_false, ite_true, ite_false, Nat.reduceLT, Nat.reduceLeDiff, Nat.reduceAdd, Nat.reduceEqDiff, eq_self, not_true_eq_false, not_false_eq_true, Nat.lt_irrefl, or_true, true_or, or_false, false_or, z_cell_lt, Value.category, h0, hb0, c_has hT]
  cases c1 : hasB n g <;> cases c2 : hasB n k <;> by_cases c3 : g = k <;> simp [c1, c2, c3]
theorem c_all (hT : toldAt h b n rm mt nt fm vr) : zK (d + 1) 109 [.ref b] (h, u) Q = Q (some (.int (nI (2 ^ n - 1))), (h, u)) := by
  obtain ⟨hb, h0, h1, h2, h3, hn, hr, hm, ht⟩ := hT
  have hb0 : b < 1000 := by omega
  refine zK_of (k := 1) (by omega) ?_
  refine zK_in (M := MX9_all) rfl (Nat.le_of_ble_eq_true rfl) ?_
  show zW 0 MX9_all 0 ([.ref b], [], (h, u)) _
  have e : (1 : Int32) <<< (nI n &&& 31) - 1 = nI (2 ^ n - 1) := (show ∀ n, n < 8 → (1 : Int32) <<< (nI n &&& 31) - 1 = nI (2 ^ n - 1) by decide +kernel) n (by omega)
  simp only [eX9_all_0, eX9_all_1, eX9_all_2, eX9_all_5, eX9_all_6, eX9_all_7, eX9_all_8, rX9_all, zg_aload, zg_getfield, zg_iconst, zg_ireturn, zg_ishl, zg_isub, q10, q01, q00, ite_self, zLd_i, zLd_l, zLd_a, zInc_i, zGet_o, zGet2_s, zPut_o, zAld_i, zAll_j, zAst_i, zAsl_j, zLen_i, zLen_j, zRt_i, zRt_z, zRl2_l, zRv_n, List.getElem?_cons_zero, List.getElem?_cons_succ, List.length_cons, List.length_nil, z_set, z_set2, z_cut, List.set_cons_zero, List.set_cons_succ, Option.toList_some, Option.toList_none, List.cons_append, List.nil_append, zif, zW_ite, zfit_0, zfit_1, zfit_2, zfit_3, zisc_o, zRt_c, zRt_b, List.map_cons, List.map_nil, List.sum_cons, List.sum_nil, true_and, and_true, if_true, if_false, ite_true, ite_false, Nat.reduceLT, Nat.reduceLeDiff, Nat.reduceAdd, Nat.reduceEqDiff, eq_self, not_true_eq_false, not_false_eq_true, Nat.lt_irrefl, or_true, true_or, or_false, false_or, z_cell_lt, Value.category, h0, hb0, e]
theorem c_about (hT : toldAt h b n rm mt nt fm vr) {i j : Nat} (hi : i < 7) (hj : j < 7) : zK (d + 1) 112 [.ref b, .int (nI i), .int (nI j)] (h, u) Q = Q (some (.int (if (mt i).testBit j then 1 else if (nt i).testBit j then 0 else 2)), (h, u)) := by
  obtain ⟨hb, h0, h1, h2, h3, hn, hr, hm, ht⟩ := hT
  have hb0 : b < 1000 := by omega
  have hb2 : b + 2 < 1000 := by omega
  have hb3 : b + 3 < 1000 := by omega
  refine zK_of (k := 1) (by omega) ?_
  refine zK_in (M := MX9_about) rfl (Nat.le_of_ble_eq_true rfl) ?_
  show zW 0 MX9_about 0 ([.ref b, .int (nI i), .int (nI j)], [], (h, u)) _
  simp only [eX9_about_0, eX9_about_1, eX9_about_4, eX9_about_5, eX9_about_6, eX9_about_7, eX9_about_8, eX9_about_9, eX9_about_10, eX9_about_11, eX9_about_14, eX9_about_15, eX9_about_16, eX9_about_17, eX9_about_20, eX9_about_21, eX9_about_22, eX9_about_23, eX9_about_24, eX9_about_25, eX9_about_26, eX9_about_27, eX9_about_30, eX9_about_31, eX9_about_34, eX9_about_35, rX9_about, zg_aload, zg_getfield, zg_goto, zg_iaload, zg_iand, zg_icmp, zg_iconst, zg_iload, zg_ireturn, zg_ishr, q10, q01, q00, ite_self, zLd_i, zLd_l, zLd_a, zInc_i, zGet_o, zGet2_s, zPut_o, zAld_i, zAll_j, zAst_i, zAsl_j, zLen_i, zLen_j, zRt_i, zRt_z, zRl2_l, zRv_n, List.getElem?_cons_zero, List.getElem?_cons_succ, List.length_cons, List.length_nil, z_set, z_set2, z_cut, List.set_cons_zero, List.set_cons_succ, Option.toList_some, Option.toList_none, List.cons_append, List.nil_append, zif, zW_ite, zfit_0, zfit_1, zfit_2, zfit_3, zisc_o, zRt_c, zRt_b, List.map_cons, List.map_nil, List.sum_cons, List.sum_nil, true_and, and_true, if_true, if_false, ite_true, ite_false, Nat.reduceLT, Nat.reduceLeDiff, Nat.reduceAdd, Nat.reduceEqDiff, eq_self, not_true_eq_false, not_false_eq_true, Nat.lt_irrefl, or_true, true_or, or_false, false_or, z_cell_lt, Value.category, h0, h2, h3, hb0, hb2, hb3, nI_7 hi, nI_c hi, q_bit _ (hm i) _ (show j < 8 by omega), q_bit _ (ht i) _ (show j < 8 by omega)]
  by_cases c1 : (mt i).testBit j = true <;> by_cases c2 : (nt i).testBit j = true <;> simp [c1, c2]
theorem c_openOf (hT : toldAt h b n rm mt nt fm vr) {i : Nat} (hi : i < 7) : zK (d + 2) 111 [.ref b, .int (nI i)] (h, u) Q = Q (some (.int (nI ((2 ^ n - 1) &&& (127 - (mt i ||| nt i ||| 2 ^ i))))), (h, u)) := by
  obtain ⟨hb, h0, h1, h2, h3, hn, hr, hm, ht⟩ := id hT
  have hb0 : b < 1000 := by omega
  have hb2 : b + 2 < 1000 := by omega
  have hb3 : b + 3 < 1000 := by omega
  refine zK_of (k := 2) (by omega) ?_
  refine zK_in (M := MX9_openOf) rfl (Nat.le_of_ble_eq_true rfl) ?_
  show zW 1 MX9_openOf 0 ([.ref b, .int (nI i)], [], (h, u)) _
  have e2 : 2 ^ n - 1 < 128 := (show ∀ n, n < 8 → 2 ^ n - 1 < 128 by decide) n (by omega)
  simp only [eX9_openOf_0, eX9_openOf_1, eX9_openOf_4, eX9_openOf_5, eX9_openOf_8, eX9_openOf_9, eX9_openOf_10, eX9_openOf_11, eX9_openOf_14, eX9_openOf_15, eX9_openOf_16, eX9_openOf_17, eX9_openOf_18, eX9_openOf_19, eX9_openOf_20, eX9_openOf_21, eX9_openOf_22, eX9_openOf_23, eX9_openOf_24, rX9_openOf, zg_aload, zg_getfield, zg_iaload, zg_iand, zg_iconst, zg_iload, zg_ior, zg_ireturn, zg_ishl, zg_iv0, zg_ixor, q10, q01, q00, ite_self, zLd_i, zLd_l, zLd_a, zInc_i, zGet_o, zGet2_s, zPut_o, zAld_i, zAll_j, zAst_i, zAsl_j, zLen_i, zLen_j, zRt_i, zRt_z, zRl2_l, zRv_n, List.getElem?_cons_zero, List.getElem?_cons_succ, List.length_cons, List.length_nil, z_set, z_set2, z_cut, List.set_cons_zero, List.set_cons_succ, Option.toList_some, Option.toList_none, List.cons_append, List.nil_append, zif, zW_ite, zfit_0, zfit_1, zfit_2, zfit_3, zisc_o, zRt_c, zRt_b, List.map_cons, List.map_nil, List.sum_cons, List.sum_nil, true_and, and_true, if_true, if_false, ite_true, ite_false, Nat.reduceLT, Nat.reduceLeDiff, Nat.reduceAdd, Nat.reduceEqDiff, eq_self, not_true_eq_false, not_false_eq_true, Nat.lt_irrefl, or_true, true_or, or_false, false_or, z_cell_lt, Value.category, h0, h2, h3, hb0, hb2, hb3, nI_7 hi, nI_c hi, q_shl _ (show i < 31 by omega), q_or, c_all hT, q_andn _ e2 _ (q_or_lt (q_or_lt (hm i) (ht i)) (q_pow_lt hi))]
/-- who shares a ROOM with i, of the first k -/
def matesTo (rm : Nat → Nat) (i : Nat) : Nat → Nat
  | 0 => 0
  | k + 1 => if k ≠ i ∧ rm k = rm i then matesTo rm i k ||| 2 ^ k else matesTo rm i k
theorem matesTo_lt {rm : Nat → Nat} {i : Nat} : ∀ k, k ≤ 7 → matesTo rm i k < 128 := by
  intro k
  induction k with
  | zero => intro _; exact (by decide : 0 < 128)
  | succ k ih =>
    intro hk
    unfold matesTo
    split
    · exact q_or_lt (ih (by omega)) (q_pow_lt (by omega))
    · exact ih (by omega)
def matesOf (n : Nat) (rm : Nat → Nat) (fm : Bool) (i : Nat) : Nat := if fm then matesTo rm i n else 0
theorem w_mates (hT : toldAt h b n rm mt nt fm vr) {i : Nat} (hi : i < 7) : ∀ k o, n - o = k → o ≤ n → zW d MX9_mates 11 ([.ref b, .int (nI i), .int (nI (matesTo rm i o)), .int (nI o)], [], (h, u)) (fun q => q = (some (.int (nI (matesTo rm i n))), (h, u))) := by
  obtain ⟨hb, h0, h1, h2, h3, hn, hr, hm, ht⟩ := id hT
  have hb0 : b < 1000 := by omega
  have hb1 : b + 1 < 1000 := by omega
  intro k
  induction k with
  | zero =>
    intro o ho hle
    have e : o = n := by omega
    subst e
    rw [eX9_mates_11]
    simp only [eX9_mates_0, eX9_mates_1, eX9_mates_2, eX9_mates_3, eX9_mates_6, eX9_mates_9, eX9_mates_10, eX9_mates_12, eX9_mates_13, eX9_mates_16, eX9_mates_19, eX9_mates_20, eX9_mates_21, eX9_mates_24, eX9_mates_25, eX9_mates_28, eX9_mates_29, eX9_mates_30, eX9_mates_31, eX9_mates_34, eX9_mates_35, eX9_mates_36, eX9_mates_39, eX9_mates_40, eX9_mates_41, eX9_mates_42, eX9_mates_43, eX9_mates_44, eX9_mates_45, eX9_mates_48, eX9_mates_51, eX9_mates_52, rX9_mates, zg_aload, zg_getfield, zg_goto, zg_iaload, zg_icmp, zg_iconst, zg_if, zg_iinc, zg_iload, zg_ior, zg_ireturn, zg_ishl, zg_istore, q10, q01, q00, ite_self, zLd_i, zLd_l, zLd_a, zInc_i, zGet_o, zGet2_s, zPut_o, zAld_i, zAll_j, zAst_i, zAsl_j, zLen_i, zLen_j, zRt_i, zRt_z, zRl2_l, zRv_n, List.getElem?_cons_zero, List.getElem?_cons_succ, List.length_cons, List.length_nil, z_set, z_set2, z_cut, List.set_cons_zero, List.set_cons_succ, Option.toList_some, Option.toList_none, List.cons_append, List.nil_append, zif, zW_ite, zfit_0, zfit_1, zfit_2, zfit_3, zisc_o, zRt_c, zRt_b, List.map_cons, List.map_nil, List.sum_cons, List.sum_nil, true_and, and_true, if_true, if_false, ite_true, ite_false, Nat.reduceLT, Nat.reduceLeDiff, Nat.reduceAdd, Nat.reduceEqDiff, eq_self, not_true_eq_false, not_false_eq_true, Nat.lt_irrefl, or_true, true_or, or_false, false_or, z_cell_lt, Value.category, h0, hb0, Int32.lt_irrefl]
  | succ k ih =>
    intro o ho hle
    have hlt : o < n := by omega
    have c1 : nI o < nI n := nI_lt hlt (by omega)
    have ih := ih (o + 1) (by omega) (by omega)
    have hr2 := hr o
    have hr3 := hr i
    rw [eX9_mates_11]
    simp only [eX9_mates_0, eX9_mates_1, eX9_mates_2, eX9_mates_3, eX9_mates_6, eX9_mates_9, eX9_mates_10, eX9_mates_12, eX9_mates_13, eX9_mates_16, eX9_mates_19, eX9_mates_20, eX9_mates_21, eX9_mates_24, eX9_mates_25, eX9_mates_28, eX9_mates_29, eX9_mates_30, eX9_mates_31, eX9_mates_34, eX9_mates_35, eX9_mates_36, eX9_mates_39, eX9_mates_40, eX9_mates_41, eX9_mates_42, eX9_mates_43, eX9_mates_44, eX9_mates_45, eX9_mates_48, eX9_mates_51, eX9_mates_52, rX9_mates, zg_aload, zg_getfield, zg_goto, zg_iaload, zg_icmp, zg_iconst, zg_if, zg_iinc, zg_iload, zg_ior, zg_ireturn, zg_ishl, zg_istore, q10, q01, q00, ite_self, zLd_i, zLd_l, zLd_a, zInc_i, zGet_o, zGet2_s, zPut_o, zAld_i, zAll_j, zAst_i, zAsl_j, zLen_i, zLen_j, zRt_i, zRt_z, zRl2_l, zRv_n, List.getElem?_cons_zero, List.getElem?_cons_succ, List.length_cons, List.length_nil, z_set, z_set2, z_cut, List.set_cons_zero, List.set_cons_succ, Option.toList_some, Option.toList_none, List.cons_append, List.nil_append, zif, zW_ite, zfit_0, zfit_1, zfit_2, zfit_3, zisc_o, zRt_c, zRt_b, List.map_cons, List.map_nil, List.sum_cons, List.sum_nil, true_and, and_true, if_true, if_false, ite_true, ite_false, Nat.reduceLT, Nat.reduceLeDiff, Nat.reduceAdd, Nat.reduceEqDiff, eq_self, not_true_eq_false, not_false_eq_true, Nat.lt_irrefl, or_true, true_or, or_false, false_or, z_cell_lt, Value.category, h0, h1, hb0, hb1, c1, nI_7 hi, nI_c hi, nI_7 (show o < 7 by omega), nI_c (show o < 7 by omega), q_shl _ (show o < 31 by omega), q_or, nI_1, nI_eqI (show o < 2 ^ 31 by omega) (show i < 2 ^ 31 by omega), nI_eqI (show rm o < 2 ^ 31 by omega) (show rm i < 2 ^ 31 by omega)]
    rw [show matesTo rm i (o + 1) = if o ≠ i ∧ rm o = rm i then matesTo rm i o ||| 2 ^ o else matesTo rm i o from rfl] at ih
    by_cases c2 : o = i
    · simpa [c2] using ih
    · by_cases c3 : rm o = rm i
      · simpa [c2, c3] using ih
      · simpa [c2, c3] using ih
theorem c_mates (hT : toldAt h b n rm mt nt fm vr) {i : Nat} (hi : i < 7) : zK (d + 1) 123 [.ref b, .int (nI i)] (h, u) Q = Q (some (.int (nI (matesOf n rm fm i))), (h, u)) := by
  obtain ⟨hb, h0, h1, h2, h3, hn, hr, hm, ht⟩ := id hT
  have hb0 : b < 1000 := by omega
  refine zK_of (k := 1) (by omega) ?_
  refine zK_in (M := MX9_mates) rfl (Nat.le_of_ble_eq_true rfl) ?_
  show zW 0 MX9_mates 0 ([.ref b, .int (nI i), .null, .null], [], (h, u)) _
  have w := w_mates (d := 0) (u := u) hT hi n 0 (by omega) (by omega)
  unfold matesOf
  cases fm
  · simp only [eX9_mates_0, eX9_mates_1, eX9_mates_2, eX9_mates_3, eX9_mates_6, eX9_mates_9, eX9_mates_10, eX9_mates_12, eX9_mates_13, eX9_mates_16, eX9_mates_19, eX9_mates_20, eX9_mates_21, eX9_mates_24, eX9_mates_25, eX9_mates_28, eX9_mates_29, eX9_mates_30, eX9_mates_31, eX9_mates_34, eX9_mates_35, eX9_mates_36, eX9_mates_39, eX9_mates_40, eX9_mates_41, eX9_mates_42, eX9_mates_43, eX9_mates_44, eX9_mates_45, eX9_mates_48, eX9_mates_51, eX9_mates_52, rX9_mates, zg_aload, zg_getfield, zg_goto, zg_iaload, zg_icmp, zg_iconst, zg_if, zg_iinc, zg_iload, zg_ior, zg_ireturn, zg_ishl, zg_istore, q10, q01, q00, ite_self, zLd_i, zLd_l, zLd_a, zInc_i, zGet_o, zGet2_s, zPut_o, zAld_i, zAll_j, zAst_i, zAsl_j, zLen_i, zLen_j, zRt_i, zRt_z, zRl2_l, zRv_n, List.getElem?_cons_zero, List.getElem?_cons_succ, List.length_cons, List.length_nil, z_set, z_set2, z_cut, List.set_cons_zero, List.set_cons_succ, Option.toList_some, Option.toList_none, List.cons_append, List.nil_append, zif, zW_ite, zfit_0, zfit_1, zfit_2, zfit_3, zisc_o, zRt_c, zRt_b, List.map_cons, List.map_nil, List.sum_cons, List.sum_nil, true_and, and_true, if_true, if_false, ite_true, ite_false, Nat.reduceLT, Nat.reduceLeDiff, Nat.reduceAdd, Nat.reduceEqDiff, eq_self, not_true_eq_false, not_false_eq_true, Nat.lt_irrefl, or_true, true_or, or_false, false_or, z_cell_lt, Value.category, h0, hb0, Bool.false_eq_true, nI_0]
  · simp only [eX9_mates_0, eX9_mates_1, eX9_mates_2, eX9_mates_3, eX9_mates_6, eX9_mates_9, eX9_mates_10, eX9_mates_12, eX9_mates_13, eX9_mates_16, eX9_mates_19, eX9_mates_20, eX9_mates_21, eX9_mates_24, eX9_mates_25, eX9_mates_28, eX9_mates_29, eX9_mates_30, eX9_mates_31, eX9_mates_34, eX9_mates_35, eX9_mates_36, eX9_mates_39, eX9_mates_40, eX9_mates_41, eX9_mates_42, eX9_mates_43, eX9_mates_44, eX9_mates_45, eX9_mates_48, eX9_mates_51, eX9_mates_52, rX9_mates, zg_aload, zg_getfield, zg_goto, zg_iaload, zg_icmp, zg_iconst, zg_if, zg_iinc, zg_iload, zg_ior, zg_ireturn, zg_ishl, zg_istore, q10, q01, q00, ite_self, zLd_i, zLd_l, zLd_a, zInc_i, zGet_o, zGet2_s, zPut_o, zAld_i, zAll_j, zAst_i, zAsl_j, zLen_i, zLen_j, zRt_i, zRt_z, zRl2_l, zRv_n, List.getElem?_cons_zero, List.getElem?_cons_succ, List.length_cons, List.length_nil, z_set, z_set2, z_cut, List.set_cons_zero, List.set_cons_succ, Option.toList_some, Option.toList_none, List.cons_append, List.nil_append, zif, zW_ite, zfit_0, zfit_1, zfit_2, zfit_3, zisc_o, zRt_c, zRt_b, List.map_cons, List.map_nil, List.sum_cons, List.sum_nil, true_and, and_true, if_true, if_false, ite_true, ite_false, Nat.reduceLT, Nat.reduceLeDiff, Nat.reduceAdd, Nat.reduceEqDiff, eq_self, not_true_eq_false, not_false_eq_true, Nat.lt_irrefl, or_true, true_or, or_false, false_or, z_cell_lt, Value.category, h0, hb0]
    exact w
end TOLD

