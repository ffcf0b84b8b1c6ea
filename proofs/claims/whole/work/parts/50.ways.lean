/-! ORDERS: the tally's entry, the first row, sums over sets -/
theorem eX4_leastRow_0 {d : Nat} {S : zS} {Q : zR → Prop} : zW d MX4_leastRow 0 S Q = zGo d MX4_leastRow (.iconst 0) (zv (.int 0)) 1 S Q := zW_step (I := .iconst 0) rfl S Q
theorem eX4_leastRow_1 {d : Nat} {S : zS} {Q : zR → Prop} : zW d MX4_leastRow 1 S Q = zGo d MX4_leastRow (.istore 2) z0 2 S Q := zW_step (I := .istore_n 2) rfl S Q
theorem eX4_leastRow_2 {d : Nat} {S : zS} {Q : zR → Prop} : zW d MX4_leastRow 2 S Q = zGo d MX4_leastRow (.iconst 0) (zv (.int 0)) 3 S Q := zW_step (I := .iconst 0) rfl S Q
theorem eX4_leastRow_3 {d : Nat} {S : zS} {Q : zR → Prop} : zW d MX4_leastRow 3 S Q = zGo d MX4_leastRow (.istore 3) z0 4 S Q := zW_step (I := .istore_n 3) rfl S Q
theorem eX4_leastRow_4 {d : Nat} {S : zS} {Q : zR → Prop} : zW d MX4_leastRow 4 S Q = zGo d MX4_leastRow (.iload 3) z0 5 S Q := zW_step (I := .iload_n 3) rfl S Q
theorem eX4_leastRow_5 {d : Nat} {S : zS} {Q : zR → Prop} : zW d MX4_leastRow 5 S Q = zGo d MX4_leastRow (.iconst 2) (zv (.int 2)) 6 S Q := zW_step (I := .iconst 2) rfl S Q
theorem eX4_leastRow_6 {d : Nat} {S : zS} {Q : zR → Prop} : zW d MX4_leastRow 6 S Q = zGo d MX4_leastRow (.aload 0) z0 7 S Q := zW_step (I := .aload_n 0) rfl S Q
theorem eX4_leastRow_7 {d : Nat} {S : zS} {Q : zR → Prop} : zW d MX4_leastRow 7 S Q = zGo d MX4_leastRow (.getfield 58) (zf 0 4 13) 10 S Q := zW_step (I := .getfield 58) rfl S Q
theorem eX4_leastRow_10 {d : Nat} {S : zS} {Q : zR → Prop} : zW d MX4_leastRow 10 S Q = zGo d MX4_leastRow (.imul) z0 11 S Q := zW_step (I := .imul) rfl S Q
theorem eX4_leastRow_11 {d : Nat} {S : zS} {Q : zR → Prop} : zW d MX4_leastRow 11 S Q = zGo d MX4_leastRow (.if_icmp .ge 50) (zt 61) 14 S Q := zW_step (I := .if_icmp .ge 50) rfl S Q
theorem eX4_leastRow_14 {d : Nat} {S : zS} {Q : zR → Prop} : zW d MX4_leastRow 14 S Q = zGo d MX4_leastRow (.aload 0) z0 15 S Q := zW_step (I := .aload_n 0) rfl S Q
theorem eX4_leastRow_15 {d : Nat} {S : zS} {Q : zR → Prop} : zW d MX4_leastRow 15 S Q = zGo d MX4_leastRow (.getfield 18) (zf 3 4 2) 18 S Q := zW_step (I := .getfield 18) rfl S Q
theorem eX4_leastRow_18 {d : Nat} {S : zS} {Q : zR → Prop} : zW d MX4_leastRow 18 S Q = zGo d MX4_leastRow (.iload 2) z0 19 S Q := zW_step (I := .iload_n 2) rfl S Q
theorem eX4_leastRow_19 {d : Nat} {S : zS} {Q : zR → Prop} : zW d MX4_leastRow 19 S Q = zGo d MX4_leastRow (.iaload) z0 20 S Q := zW_step (I := .iaload) rfl S Q
theorem eX4_leastRow_20 {d : Nat} {S : zS} {Q : zR → Prop} : zW d MX4_leastRow 20 S Q = zGo d MX4_leastRow (.invokestatic 103) (zc 177 1 0) 23 S Q := zW_step (I := .invokestatic 103) rfl S Q
theorem eX4_leastRow_23 {d : Nat} {S : zS} {Q : zR → Prop} : zW d MX4_leastRow 23 S Q = zGo d MX4_leastRow (.istore 4) z0 25 S Q := zW_step (I := .istore 4) rfl S Q
theorem eX4_leastRow_25 {d : Nat} {S : zS} {Q : zR → Prop} : zW d MX4_leastRow 25 S Q = zGo d MX4_leastRow (.iload 4) z0 27 S Q := zW_step (I := .iload 4) rfl S Q
theorem eX4_leastRow_27 {d : Nat} {S : zS} {Q : zR → Prop} : zW d MX4_leastRow 27 S Q = zGo d MX4_leastRow (.aload 0) z0 28 S Q := zW_step (I := .aload_n 0) rfl S Q
theorem eX4_leastRow_28 {d : Nat} {S : zS} {Q : zR → Prop} : zW d MX4_leastRow 28 S Q = zGo d MX4_leastRow (.getfield 58) (zf 0 4 13) 31 S Q := zW_step (I := .getfield 58) rfl S Q
theorem eX4_leastRow_31 {d : Nat} {S : zS} {Q : zR → Prop} : zW d MX4_leastRow 31 S Q = zGo d MX4_leastRow (.if_icmp .ge 24) (zt 55) 34 S Q := zW_step (I := .if_icmp .ge 24) rfl S Q
theorem eX4_leastRow_34 {d : Nat} {S : zS} {Q : zR → Prop} : zW d MX4_leastRow 34 S Q = zGo d MX4_leastRow (.aload 1) z0 35 S Q := zW_step (I := .aload_n 1) rfl S Q
theorem eX4_leastRow_35 {d : Nat} {S : zS} {Q : zR → Prop} : zW d MX4_leastRow 35 S Q = zGo d MX4_leastRow (.aload 0) z0 36 S Q := zW_step (I := .aload_n 0) rfl S Q
theorem eX4_leastRow_36 {d : Nat} {S : zS} {Q : zR → Prop} : zW d MX4_leastRow 36 S Q = zGo d MX4_leastRow (.iload 2) z0 37 S Q := zW_step (I := .iload_n 2) rfl S Q
theorem eX4_leastRow_37 {d : Nat} {S : zS} {Q : zR → Prop} : zW d MX4_leastRow 37 S Q = zGo d MX4_leastRow (.iload 4) z0 39 S Q := zW_step (I := .iload 4) rfl S Q
theorem eX4_leastRow_39 {d : Nat} {S : zS} {Q : zR → Prop} : zW d MX4_leastRow 39 S Q = zGo d MX4_leastRow (.invokevirtual 106) (zc 57 3 4) 42 S Q := zW_step (I := .invokevirtual 106) rfl S Q
theorem eX4_leastRow_42 {d : Nat} {S : zS} {Q : zR → Prop} : zW d MX4_leastRow 42 S Q = zGo d MX4_leastRow (.i2l) z0 43 S Q := zW_step (I := .i2l) rfl S Q
theorem eX4_leastRow_43 {d : Nat} {S : zS} {Q : zR → Prop} : zW d MX4_leastRow 43 S Q = zGo d MX4_leastRow (.invokevirtual 110) (zc 79 2 6) 46 S Q := zW_step (I := .invokevirtual 110) rfl S Q
theorem eX4_leastRow_46 {d : Nat} {S : zS} {Q : zR → Prop} : zW d MX4_leastRow 46 S Q = zGo d MX4_leastRow (.iload 2) z0 47 S Q := zW_step (I := .iload_n 2) rfl S Q
theorem eX4_leastRow_47 {d : Nat} {S : zS} {Q : zR → Prop} : zW d MX4_leastRow 47 S Q = zGo d MX4_leastRow (.getstatic 59) (zv (.ref 1000)) 50 S Q := zW_step (I := .getstatic 59) rfl S Q
theorem eX4_leastRow_50 {d : Nat} {S : zS} {Q : zR → Prop} : zW d MX4_leastRow 50 S Q = zGo d MX4_leastRow (.iload 4) z0 52 S Q := zW_step (I := .iload 4) rfl S Q
theorem eX4_leastRow_52 {d : Nat} {S : zS} {Q : zR → Prop} : zW d MX4_leastRow 52 S Q = zGo d MX4_leastRow (.iaload) z0 53 S Q := zW_step (I := .iaload) rfl S Q
theorem eX4_leastRow_53 {d : Nat} {S : zS} {Q : zR → Prop} : zW d MX4_leastRow 53 S Q = zGo d MX4_leastRow (.iadd) z0 54 S Q := zW_step (I := .iadd) rfl S Q
theorem eX4_leastRow_54 {d : Nat} {S : zS} {Q : zR → Prop} : zW d MX4_leastRow 54 S Q = zGo d MX4_leastRow (.istore 2) z0 55 S Q := zW_step (I := .istore_n 2) rfl S Q
theorem eX4_leastRow_55 {d : Nat} {S : zS} {Q : zR → Prop} : zW d MX4_leastRow 55 S Q = zGo d MX4_leastRow (.iinc 3 1) (zv (.int 1)) 58 S Q := zW_step (I := .iinc 3 1) rfl S Q
theorem eX4_leastRow_58 {d : Nat} {S : zS} {Q : zR → Prop} : zW d MX4_leastRow 58 S Q = zGo d MX4_leastRow (.goto (-54)) (zt 4) 61 S Q := zW_step (I := .goto (-54)) rfl S Q
theorem eX4_leastRow_61 {d : Nat} {S : zS} {Q : zR → Prop} : zW d MX4_leastRow 61 S Q = zGo d MX4_leastRow (.iconst 2) (zv (.int 2)) 62 S Q := zW_step (I := .iconst 2) rfl S Q
theorem eX4_leastRow_62 {d : Nat} {S : zS} {Q : zR → Prop} : zW d MX4_leastRow 62 S Q = zGo d MX4_leastRow (.aload 0) z0 63 S Q := zW_step (I := .aload_n 0) rfl S Q
theorem eX4_leastRow_63 {d : Nat} {S : zS} {Q : zR → Prop} : zW d MX4_leastRow 63 S Q = zGo d MX4_leastRow (.getfield 58) (zf 0 4 13) 66 S Q := zW_step (I := .getfield 58) rfl S Q
theorem eX4_leastRow_66 {d : Nat} {S : zS} {Q : zR → Prop} : zW d MX4_leastRow 66 S Q = zGo d MX4_leastRow (.imul) z0 67 S Q := zW_step (I := .imul) rfl S Q
theorem eX4_leastRow_67 {d : Nat} {S : zS} {Q : zR → Prop} : zW d MX4_leastRow 67 S Q = zGo d MX4_leastRow (.ireturn) z0 68 S Q := zW_step (I := .ireturn) rfl S Q
theorem rX4_leastRow : MX4_leastRow.2.2.2.2.1 = some .int := rfl
theorem eX4_waysAhead_0 {d : Nat} {S : zS} {Q : zR → Prop} : zW d MX4_waysAhead 0 S Q = zGo d MX4_waysAhead (.aload 0) z0 1 S Q := zW_step (I := .aload_n 0) rfl S Q
theorem eX4_waysAhead_1 {d : Nat} {S : zS} {Q : zR → Prop} : zW d MX4_waysAhead 1 S Q = zGo d MX4_waysAhead (.invokevirtual 116) (zc 55 1 4) 4 S Q := zW_step (I := .invokevirtual 116) rfl S Q
theorem eX4_waysAhead_4 {d : Nat} {S : zS} {Q : zR → Prop} : zW d MX4_waysAhead 4 S Q = zGo d MX4_waysAhead (.lconst 0) (zv (.long 0)) 5 S Q := zW_step (I := .lconst 0) rfl S Q
theorem eX4_waysAhead_5 {d : Nat} {S : zS} {Q : zR → Prop} : zW d MX4_waysAhead 5 S Q = zGo d MX4_waysAhead (.lstore 3) z0 6 S Q := zW_step (I := .lstore_n 3) rfl S Q
theorem eX4_waysAhead_6 {d : Nat} {S : zS} {Q : zR → Prop} : zW d MX4_waysAhead 6 S Q = zGo d MX4_waysAhead (.iconst 0) (zv (.int 0)) 7 S Q := zW_step (I := .iconst 0) rfl S Q
theorem eX4_waysAhead_7 {d : Nat} {S : zS} {Q : zR → Prop} : zW d MX4_waysAhead 7 S Q = zGo d MX4_waysAhead (.istore 5) z0 9 S Q := zW_step (I := .istore 5) rfl S Q
theorem eX4_waysAhead_9 {d : Nat} {S : zS} {Q : zR → Prop} : zW d MX4_waysAhead 9 S Q = zGo d MX4_waysAhead (.iload 5) z0 11 S Q := zW_step (I := .iload 5) rfl S Q
theorem eX4_waysAhead_11 {d : Nat} {S : zS} {Q : zR → Prop} : zW d MX4_waysAhead 11 S Q = zGo d MX4_waysAhead (.iconst 1) (zv (.int 1)) 12 S Q := zW_step (I := .iconst 1) rfl S Q
theorem eX4_waysAhead_12 {d : Nat} {S : zS} {Q : zR → Prop} : zW d MX4_waysAhead 12 S Q = zGo d MX4_waysAhead (.aload 0) z0 13 S Q := zW_step (I := .aload_n 0) rfl S Q
theorem eX4_waysAhead_13 {d : Nat} {S : zS} {Q : zR → Prop} : zW d MX4_waysAhead 13 S Q = zGo d MX4_waysAhead (.getfield 58) (zf 0 4 13) 16 S Q := zW_step (I := .getfield 58) rfl S Q
theorem eX4_waysAhead_16 {d : Nat} {S : zS} {Q : zR → Prop} : zW d MX4_waysAhead 16 S Q = zGo d MX4_waysAhead (.ishl) z0 17 S Q := zW_step (I := .ishl) rfl S Q
theorem eX4_waysAhead_17 {d : Nat} {S : zS} {Q : zR → Prop} : zW d MX4_waysAhead 17 S Q = zGo d MX4_waysAhead (.if_icmp .ge 34) (zt 51) 20 S Q := zW_step (I := .if_icmp .ge 34) rfl S Q
theorem eX4_waysAhead_20 {d : Nat} {S : zS} {Q : zR → Prop} : zW d MX4_waysAhead 20 S Q = zGo d MX4_waysAhead (.iload 5) z0 22 S Q := zW_step (I := .iload 5) rfl S Q
theorem eX4_waysAhead_22 {d : Nat} {S : zS} {Q : zR → Prop} : zW d MX4_waysAhead 22 S Q = zGo d MX4_waysAhead (.iload 2) z0 23 S Q := zW_step (I := .iload_n 2) rfl S Q
theorem eX4_waysAhead_23 {d : Nat} {S : zS} {Q : zR → Prop} : zW d MX4_waysAhead 23 S Q = zGo d MX4_waysAhead (.ishr) z0 24 S Q := zW_step (I := .ishr) rfl S Q
theorem eX4_waysAhead_24 {d : Nat} {S : zS} {Q : zR → Prop} : zW d MX4_waysAhead 24 S Q = zGo d MX4_waysAhead (.iconst 1) (zv (.int 1)) 25 S Q := zW_step (I := .iconst 1) rfl S Q
theorem eX4_waysAhead_25 {d : Nat} {S : zS} {Q : zR → Prop} : zW d MX4_waysAhead 25 S Q = zGo d MX4_waysAhead (.iand) z0 26 S Q := zW_step (I := .iand) rfl S Q
theorem eX4_waysAhead_26 {d : Nat} {S : zS} {Q : zR → Prop} : zW d MX4_waysAhead 26 S Q = zGo d MX4_waysAhead (.ifCond .ne 19) (zt 45) 29 S Q := zW_step (I := .ifCond .ne 19) rfl S Q
theorem eX4_waysAhead_29 {d : Nat} {S : zS} {Q : zR → Prop} : zW d MX4_waysAhead 29 S Q = zGo d MX4_waysAhead (.lload 3) z0 30 S Q := zW_step (I := .lload_n 3) rfl S Q
theorem eX4_waysAhead_30 {d : Nat} {S : zS} {Q : zR → Prop} : zW d MX4_waysAhead 30 S Q = zGo d MX4_waysAhead (.aload 0) z0 31 S Q := zW_step (I := .aload_n 0) rfl S Q
theorem eX4_waysAhead_31 {d : Nat} {S : zS} {Q : zR → Prop} : zW d MX4_waysAhead 31 S Q = zGo d MX4_waysAhead (.getfield 31) (zf 3 4 6) 34 S Q := zW_step (I := .getfield 31) rfl S Q
theorem eX4_waysAhead_34 {d : Nat} {S : zS} {Q : zR → Prop} : zW d MX4_waysAhead 34 S Q = zGo d MX4_waysAhead (.iload 1) z0 35 S Q := zW_step (I := .iload_n 1) rfl S Q
theorem eX4_waysAhead_35 {d : Nat} {S : zS} {Q : zR → Prop} : zW d MX4_waysAhead 35 S Q = zGo d MX4_waysAhead (.sipush 128) (zv (.int 128)) 38 S Q := zW_step (I := .sipush 128) rfl S Q
theorem eX4_waysAhead_38 {d : Nat} {S : zS} {Q : zR → Prop} : zW d MX4_waysAhead 38 S Q = zGo d MX4_waysAhead (.imul) z0 39 S Q := zW_step (I := .imul) rfl S Q
theorem eX4_waysAhead_39 {d : Nat} {S : zS} {Q : zR → Prop} : zW d MX4_waysAhead 39 S Q = zGo d MX4_waysAhead (.iload 5) z0 41 S Q := zW_step (I := .iload 5) rfl S Q
theorem eX4_waysAhead_41 {d : Nat} {S : zS} {Q : zR → Prop} : zW d MX4_waysAhead 41 S Q = zGo d MX4_waysAhead (.iadd) z0 42 S Q := zW_step (I := .iadd) rfl S Q
theorem eX4_waysAhead_42 {d : Nat} {S : zS} {Q : zR → Prop} : zW d MX4_waysAhead 42 S Q = zGo d MX4_waysAhead (.laload) z0 43 S Q := zW_step (I := .laload) rfl S Q
theorem eX4_waysAhead_43 {d : Nat} {S : zS} {Q : zR → Prop} : zW d MX4_waysAhead 43 S Q = zGo d MX4_waysAhead (.ladd) z0 44 S Q := zW_step (I := .ladd) rfl S Q
theorem eX4_waysAhead_44 {d : Nat} {S : zS} {Q : zR → Prop} : zW d MX4_waysAhead 44 S Q = zGo d MX4_waysAhead (.lstore 3) z0 45 S Q := zW_step (I := .lstore_n 3) rfl S Q
theorem eX4_waysAhead_45 {d : Nat} {S : zS} {Q : zR → Prop} : zW d MX4_waysAhead 45 S Q = zGo d MX4_waysAhead (.iinc 5 1) (zv (.int 1)) 48 S Q := zW_step (I := .iinc 5 1) rfl S Q
theorem eX4_waysAhead_48 {d : Nat} {S : zS} {Q : zR → Prop} : zW d MX4_waysAhead 48 S Q = zGo d MX4_waysAhead (.goto (-39)) (zt 9) 51 S Q := zW_step (I := .goto (-39)) rfl S Q
theorem eX4_waysAhead_51 {d : Nat} {S : zS} {Q : zR → Prop} : zW d MX4_waysAhead 51 S Q = zGo d MX4_waysAhead (.lload 3) z0 52 S Q := zW_step (I := .lload_n 3) rfl S Q
theorem eX4_waysAhead_52 {d : Nat} {S : zS} {Q : zR → Prop} : zW d MX4_waysAhead 52 S Q = zGo d MX4_waysAhead (.lreturn) z0 53 S Q := zW_step (I := .lreturn) rfl S Q
theorem rX4_waysAhead : MX4_waysAhead.2.2.2.2.1 = some .long := rfl
theorem eX4_waysMeeting_0 {d : Nat} {S : zS} {Q : zR → Prop} : zW d MX4_waysMeeting 0 S Q = zGo d MX4_waysMeeting (.aload 0) z0 1 S Q := zW_step (I := .aload_n 0) rfl S Q
theorem eX4_waysMeeting_1 {d : Nat} {S : zS} {Q : zR → Prop} : zW d MX4_waysMeeting 1 S Q = zGo d MX4_waysMeeting (.invokevirtual 116) (zc 55 1 4) 4 S Q := zW_step (I := .invokevirtual 116) rfl S Q
theorem eX4_waysMeeting_4 {d : Nat} {S : zS} {Q : zR → Prop} : zW d MX4_waysMeeting 4 S Q = zGo d MX4_waysMeeting (.lconst 0) (zv (.long 0)) 5 S Q := zW_step (I := .lconst 0) rfl S Q
theorem eX4_waysMeeting_5 {d : Nat} {S : zS} {Q : zR → Prop} : zW d MX4_waysMeeting 5 S Q = zGo d MX4_waysMeeting (.lstore 3) z0 6 S Q := zW_step (I := .lstore_n 3) rfl S Q
theorem eX4_waysMeeting_6 {d : Nat} {S : zS} {Q : zR → Prop} : zW d MX4_waysMeeting 6 S Q = zGo d MX4_waysMeeting (.iconst 0) (zv (.int 0)) 7 S Q := zW_step (I := .iconst 0) rfl S Q
theorem eX4_waysMeeting_7 {d : Nat} {S : zS} {Q : zR → Prop} : zW d MX4_waysMeeting 7 S Q = zGo d MX4_waysMeeting (.istore 5) z0 9 S Q := zW_step (I := .istore 5) rfl S Q
theorem eX4_waysMeeting_9 {d : Nat} {S : zS} {Q : zR → Prop} : zW d MX4_waysMeeting 9 S Q = zGo d MX4_waysMeeting (.iload 5) z0 11 S Q := zW_step (I := .iload 5) rfl S Q
theorem eX4_waysMeeting_11 {d : Nat} {S : zS} {Q : zR → Prop} : zW d MX4_waysMeeting 11 S Q = zGo d MX4_waysMeeting (.iconst 1) (zv (.int 1)) 12 S Q := zW_step (I := .iconst 1) rfl S Q
theorem eX4_waysMeeting_12 {d : Nat} {S : zS} {Q : zR → Prop} : zW d MX4_waysMeeting 12 S Q = zGo d MX4_waysMeeting (.aload 0) z0 13 S Q := zW_step (I := .aload_n 0) rfl S Q
theorem eX4_waysMeeting_13 {d : Nat} {S : zS} {Q : zR → Prop} : zW d MX4_waysMeeting 13 S Q = zGo d MX4_waysMeeting (.getfield 58) (zf 0 4 13) 16 S Q := zW_step (I := .getfield 58) rfl S Q
theorem eX4_waysMeeting_16 {d : Nat} {S : zS} {Q : zR → Prop} : zW d MX4_waysMeeting 16 S Q = zGo d MX4_waysMeeting (.ishl) z0 17 S Q := zW_step (I := .ishl) rfl S Q
theorem eX4_waysMeeting_17 {d : Nat} {S : zS} {Q : zR → Prop} : zW d MX4_waysMeeting 17 S Q = zGo d MX4_waysMeeting (.if_icmp .ge 61) (zt 78) 20 S Q := zW_step (I := .if_icmp .ge 61) rfl S Q
theorem eX4_waysMeeting_20 {d : Nat} {S : zS} {Q : zR → Prop} : zW d MX4_waysMeeting 20 S Q = zGo d MX4_waysMeeting (.iload 5) z0 22 S Q := zW_step (I := .iload 5) rfl S Q
theorem eX4_waysMeeting_22 {d : Nat} {S : zS} {Q : zR → Prop} : zW d MX4_waysMeeting 22 S Q = zGo d MX4_waysMeeting (.iload 2) z0 23 S Q := zW_step (I := .iload_n 2) rfl S Q
theorem eX4_waysMeeting_23 {d : Nat} {S : zS} {Q : zR → Prop} : zW d MX4_waysMeeting 23 S Q = zGo d MX4_waysMeeting (.ishr) z0 24 S Q := zW_step (I := .ishr) rfl S Q
theorem eX4_waysMeeting_24 {d : Nat} {S : zS} {Q : zR → Prop} : zW d MX4_waysMeeting 24 S Q = zGo d MX4_waysMeeting (.iconst 1) (zv (.int 1)) 25 S Q := zW_step (I := .iconst 1) rfl S Q
theorem eX4_waysMeeting_25 {d : Nat} {S : zS} {Q : zR → Prop} : zW d MX4_waysMeeting 25 S Q = zGo d MX4_waysMeeting (.iand) z0 26 S Q := zW_step (I := .iand) rfl S Q
theorem eX4_waysMeeting_26 {d : Nat} {S : zS} {Q : zR → Prop} : zW d MX4_waysMeeting 26 S Q = zGo d MX4_waysMeeting (.iconst 1) (zv (.int 1)) 27 S Q := zW_step (I := .iconst 1) rfl S Q
theorem eX4_waysMeeting_27 {d : Nat} {S : zS} {Q : zR → Prop} : zW d MX4_waysMeeting 27 S Q = zGo d MX4_waysMeeting (.if_icmp .ne 19) (zt 46) 30 S Q := zW_step (I := .if_icmp .ne 19) rfl S Q
theorem eX4_waysMeeting_30 {d : Nat} {S : zS} {Q : zR → Prop} : zW d MX4_waysMeeting 30 S Q = zGo d MX4_waysMeeting (.lload 3) z0 31 S Q := zW_step (I := .lload_n 3) rfl S Q
theorem eX4_waysMeeting_31 {d : Nat} {S : zS} {Q : zR → Prop} : zW d MX4_waysMeeting 31 S Q = zGo d MX4_waysMeeting (.aload 0) z0 32 S Q := zW_step (I := .aload_n 0) rfl S Q
theorem eX4_waysMeeting_32 {d : Nat} {S : zS} {Q : zR → Prop} : zW d MX4_waysMeeting 32 S Q = zGo d MX4_waysMeeting (.getfield 34) (zf 3 4 7) 35 S Q := zW_step (I := .getfield 34) rfl S Q
theorem eX4_waysMeeting_35 {d : Nat} {S : zS} {Q : zR → Prop} : zW d MX4_waysMeeting 35 S Q = zGo d MX4_waysMeeting (.iload 1) z0 36 S Q := zW_step (I := .iload_n 1) rfl S Q
theorem eX4_waysMeeting_36 {d : Nat} {S : zS} {Q : zR → Prop} : zW d MX4_waysMeeting 36 S Q = zGo d MX4_waysMeeting (.sipush 128) (zv (.int 128)) 39 S Q := zW_step (I := .sipush 128) rfl S Q
theorem eX4_waysMeeting_39 {d : Nat} {S : zS} {Q : zR → Prop} : zW d MX4_waysMeeting 39 S Q = zGo d MX4_waysMeeting (.imul) z0 40 S Q := zW_step (I := .imul) rfl S Q
theorem eX4_waysMeeting_40 {d : Nat} {S : zS} {Q : zR → Prop} : zW d MX4_waysMeeting 40 S Q = zGo d MX4_waysMeeting (.iload 5) z0 42 S Q := zW_step (I := .iload 5) rfl S Q
theorem eX4_waysMeeting_42 {d : Nat} {S : zS} {Q : zR → Prop} : zW d MX4_waysMeeting 42 S Q = zGo d MX4_waysMeeting (.iadd) z0 43 S Q := zW_step (I := .iadd) rfl S Q
theorem eX4_waysMeeting_43 {d : Nat} {S : zS} {Q : zR → Prop} : zW d MX4_waysMeeting 43 S Q = zGo d MX4_waysMeeting (.laload) z0 44 S Q := zW_step (I := .laload) rfl S Q
theorem eX4_waysMeeting_44 {d : Nat} {S : zS} {Q : zR → Prop} : zW d MX4_waysMeeting 44 S Q = zGo d MX4_waysMeeting (.ladd) z0 45 S Q := zW_step (I := .ladd) rfl S Q
theorem eX4_waysMeeting_45 {d : Nat} {S : zS} {Q : zR → Prop} : zW d MX4_waysMeeting 45 S Q = zGo d MX4_waysMeeting (.lstore 3) z0 46 S Q := zW_step (I := .lstore_n 3) rfl S Q
theorem eX4_waysMeeting_46 {d : Nat} {S : zS} {Q : zR → Prop} : zW d MX4_waysMeeting 46 S Q = zGo d MX4_waysMeeting (.iload 5) z0 48 S Q := zW_step (I := .iload 5) rfl S Q
theorem eX4_waysMeeting_48 {d : Nat} {S : zS} {Q : zR → Prop} : zW d MX4_waysMeeting 48 S Q = zGo d MX4_waysMeeting (.iload 1) z0 49 S Q := zW_step (I := .iload_n 1) rfl S Q
theorem eX4_waysMeeting_49 {d : Nat} {S : zS} {Q : zR → Prop} : zW d MX4_waysMeeting 49 S Q = zGo d MX4_waysMeeting (.ishr) z0 50 S Q := zW_step (I := .ishr) rfl S Q
theorem eX4_waysMeeting_50 {d : Nat} {S : zS} {Q : zR → Prop} : zW d MX4_waysMeeting 50 S Q = zGo d MX4_waysMeeting (.iconst 1) (zv (.int 1)) 51 S Q := zW_step (I := .iconst 1) rfl S Q
theorem eX4_waysMeeting_51 {d : Nat} {S : zS} {Q : zR → Prop} : zW d MX4_waysMeeting 51 S Q = zGo d MX4_waysMeeting (.iand) z0 52 S Q := zW_step (I := .iand) rfl S Q
theorem eX4_waysMeeting_52 {d : Nat} {S : zS} {Q : zR → Prop} : zW d MX4_waysMeeting 52 S Q = zGo d MX4_waysMeeting (.iconst 1) (zv (.int 1)) 53 S Q := zW_step (I := .iconst 1) rfl S Q
theorem eX4_waysMeeting_53 {d : Nat} {S : zS} {Q : zR → Prop} : zW d MX4_waysMeeting 53 S Q = zGo d MX4_waysMeeting (.if_icmp .ne 19) (zt 72) 56 S Q := zW_step (I := .if_icmp .ne 19) rfl S Q
theorem eX4_waysMeeting_56 {d : Nat} {S : zS} {Q : zR → Prop} : zW d MX4_waysMeeting 56 S Q = zGo d MX4_waysMeeting (.lload 3) z0 57 S Q := zW_step (I := .lload_n 3) rfl S Q
theorem eX4_waysMeeting_57 {d : Nat} {S : zS} {Q : zR → Prop} : zW d MX4_waysMeeting 57 S Q = zGo d MX4_waysMeeting (.aload 0) z0 58 S Q := zW_step (I := .aload_n 0) rfl S Q
theorem eX4_waysMeeting_58 {d : Nat} {S : zS} {Q : zR → Prop} : zW d MX4_waysMeeting 58 S Q = zGo d MX4_waysMeeting (.getfield 34) (zf 3 4 7) 61 S Q := zW_step (I := .getfield 34) rfl S Q
theorem eX4_waysMeeting_61 {d : Nat} {S : zS} {Q : zR → Prop} : zW d MX4_waysMeeting 61 S Q = zGo d MX4_waysMeeting (.iload 2) z0 62 S Q := zW_step (I := .iload_n 2) rfl S Q
theorem eX4_waysMeeting_62 {d : Nat} {S : zS} {Q : zR → Prop} : zW d MX4_waysMeeting 62 S Q = zGo d MX4_waysMeeting (.sipush 128) (zv (.int 128)) 65 S Q := zW_step (I := .sipush 128) rfl S Q
theorem eX4_waysMeeting_65 {d : Nat} {S : zS} {Q : zR → Prop} : zW d MX4_waysMeeting 65 S Q = zGo d MX4_waysMeeting (.imul) z0 66 S Q := zW_step (I := .imul) rfl S Q
theorem eX4_waysMeeting_66 {d : Nat} {S : zS} {Q : zR → Prop} : zW d MX4_waysMeeting 66 S Q = zGo d MX4_waysMeeting (.iload 5) z0 68 S Q := zW_step (I := .iload 5) rfl S Q
theorem eX4_waysMeeting_68 {d : Nat} {S : zS} {Q : zR → Prop} : zW d MX4_waysMeeting 68 S Q = zGo d MX4_waysMeeting (.iadd) z0 69 S Q := zW_step (I := .iadd) rfl S Q
theorem eX4_waysMeeting_69 {d : Nat} {S : zS} {Q : zR → Prop} : zW d MX4_waysMeeting 69 S Q = zGo d MX4_waysMeeting (.laload) z0 70 S Q := zW_step (I := .laload) rfl S Q
theorem eX4_waysMeeting_70 {d : Nat} {S : zS} {Q : zR → Prop} : zW d MX4_waysMeeting 70 S Q = zGo d MX4_waysMeeting (.ladd) z0 71 S Q := zW_step (I := .ladd) rfl S Q
theorem eX4_waysMeeting_71 {d : Nat} {S : zS} {Q : zR → Prop} : zW d MX4_waysMeeting 71 S Q = zGo d MX4_waysMeeting (.lstore 3) z0 72 S Q := zW_step (I := .lstore_n 3) rfl S Q
theorem eX4_waysMeeting_72 {d : Nat} {S : zS} {Q : zR → Prop} : zW d MX4_waysMeeting 72 S Q = zGo d MX4_waysMeeting (.iinc 5 1) (zv (.int 1)) 75 S Q := zW_step (I := .iinc 5 1) rfl S Q
theorem eX4_waysMeeting_75 {d : Nat} {S : zS} {Q : zR → Prop} : zW d MX4_waysMeeting 75 S Q = zGo d MX4_waysMeeting (.goto (-66)) (zt 9) 78 S Q := zW_step (I := .goto (-66)) rfl S Q
theorem eX4_waysMeeting_78 {d : Nat} {S : zS} {Q : zR → Prop} : zW d MX4_waysMeeting 78 S Q = zGo d MX4_waysMeeting (.lload 3) z0 79 S Q := zW_step (I := .lload_n 3) rfl S Q
theorem eX4_waysMeeting_79 {d : Nat} {S : zS} {Q : zR → Prop} : zW d MX4_waysMeeting 79 S Q = zGo d MX4_waysMeeting (.lreturn) z0 80 S Q := zW_step (I := .lreturn) rfl S Q
theorem rX4_waysMeeting : MX4_waysMeeting.2.2.2.2.1 = some .long := rfl
theorem eX4_waysBehind_0 {d : Nat} {S : zS} {Q : zR → Prop} : zW d MX4_waysBehind 0 S Q = zGo d MX4_waysBehind (.aload 0) z0 1 S Q := zW_step (I := .aload_n 0) rfl S Q
theorem eX4_waysBehind_1 {d : Nat} {S : zS} {Q : zR → Prop} : zW d MX4_waysBehind 1 S Q = zGo d MX4_waysBehind (.invokevirtual 116) (zc 55 1 4) 4 S Q := zW_step (I := .invokevirtual 116) rfl S Q
theorem eX4_waysBehind_4 {d : Nat} {S : zS} {Q : zR → Prop} : zW d MX4_waysBehind 4 S Q = zGo d MX4_waysBehind (.lconst 0) (zv (.long 0)) 5 S Q := zW_step (I := .lconst 0) rfl S Q
theorem eX4_waysBehind_5 {d : Nat} {S : zS} {Q : zR → Prop} : zW d MX4_waysBehind 5 S Q = zGo d MX4_waysBehind (.lstore 3) z0 6 S Q := zW_step (I := .lstore_n 3) rfl S Q
theorem eX4_waysBehind_6 {d : Nat} {S : zS} {Q : zR → Prop} : zW d MX4_waysBehind 6 S Q = zGo d MX4_waysBehind (.iconst 0) (zv (.int 0)) 7 S Q := zW_step (I := .iconst 0) rfl S Q
theorem eX4_waysBehind_7 {d : Nat} {S : zS} {Q : zR → Prop} : zW d MX4_waysBehind 7 S Q = zGo d MX4_waysBehind (.istore 5) z0 9 S Q := zW_step (I := .istore 5) rfl S Q
theorem eX4_waysBehind_9 {d : Nat} {S : zS} {Q : zR → Prop} : zW d MX4_waysBehind 9 S Q = zGo d MX4_waysBehind (.iload 5) z0 11 S Q := zW_step (I := .iload 5) rfl S Q
theorem eX4_waysBehind_11 {d : Nat} {S : zS} {Q : zR → Prop} : zW d MX4_waysBehind 11 S Q = zGo d MX4_waysBehind (.iconst 1) (zv (.int 1)) 12 S Q := zW_step (I := .iconst 1) rfl S Q
theorem eX4_waysBehind_12 {d : Nat} {S : zS} {Q : zR → Prop} : zW d MX4_waysBehind 12 S Q = zGo d MX4_waysBehind (.aload 0) z0 13 S Q := zW_step (I := .aload_n 0) rfl S Q
theorem eX4_waysBehind_13 {d : Nat} {S : zS} {Q : zR → Prop} : zW d MX4_waysBehind 13 S Q = zGo d MX4_waysBehind (.getfield 58) (zf 0 4 13) 16 S Q := zW_step (I := .getfield 58) rfl S Q
theorem eX4_waysBehind_16 {d : Nat} {S : zS} {Q : zR → Prop} : zW d MX4_waysBehind 16 S Q = zGo d MX4_waysBehind (.ishl) z0 17 S Q := zW_step (I := .ishl) rfl S Q
theorem eX4_waysBehind_17 {d : Nat} {S : zS} {Q : zR → Prop} : zW d MX4_waysBehind 17 S Q = zGo d MX4_waysBehind (.if_icmp .ge 34) (zt 51) 20 S Q := zW_step (I := .if_icmp .ge 34) rfl S Q
theorem eX4_waysBehind_20 {d : Nat} {S : zS} {Q : zR → Prop} : zW d MX4_waysBehind 20 S Q = zGo d MX4_waysBehind (.iload 5) z0 22 S Q := zW_step (I := .iload 5) rfl S Q
theorem eX4_waysBehind_22 {d : Nat} {S : zS} {Q : zR → Prop} : zW d MX4_waysBehind 22 S Q = zGo d MX4_waysBehind (.invokestatic 119) (zc 292 1 0) 25 S Q := zW_step (I := .invokestatic 119) rfl S Q
theorem eX4_waysBehind_25 {d : Nat} {S : zS} {Q : zR → Prop} : zW d MX4_waysBehind 25 S Q = zGo d MX4_waysBehind (.iload 2) z0 26 S Q := zW_step (I := .iload_n 2) rfl S Q
theorem eX4_waysBehind_26 {d : Nat} {S : zS} {Q : zR → Prop} : zW d MX4_waysBehind 26 S Q = zGo d MX4_waysBehind (.if_icmp .ne 19) (zt 45) 29 S Q := zW_step (I := .if_icmp .ne 19) rfl S Q
theorem eX4_waysBehind_29 {d : Nat} {S : zS} {Q : zR → Prop} : zW d MX4_waysBehind 29 S Q = zGo d MX4_waysBehind (.lload 3) z0 30 S Q := zW_step (I := .lload_n 3) rfl S Q
theorem eX4_waysBehind_30 {d : Nat} {S : zS} {Q : zR → Prop} : zW d MX4_waysBehind 30 S Q = zGo d MX4_waysBehind (.aload 0) z0 31 S Q := zW_step (I := .aload_n 0) rfl S Q
theorem eX4_waysBehind_31 {d : Nat} {S : zS} {Q : zR → Prop} : zW d MX4_waysBehind 31 S Q = zGo d MX4_waysBehind (.getfield 31) (zf 3 4 6) 34 S Q := zW_step (I := .getfield 31) rfl S Q
theorem eX4_waysBehind_34 {d : Nat} {S : zS} {Q : zR → Prop} : zW d MX4_waysBehind 34 S Q = zGo d MX4_waysBehind (.iload 1) z0 35 S Q := zW_step (I := .iload_n 1) rfl S Q
theorem eX4_waysBehind_35 {d : Nat} {S : zS} {Q : zR → Prop} : zW d MX4_waysBehind 35 S Q = zGo d MX4_waysBehind (.sipush 128) (zv (.int 128)) 38 S Q := zW_step (I := .sipush 128) rfl S Q
theorem eX4_waysBehind_38 {d : Nat} {S : zS} {Q : zR → Prop} : zW d MX4_waysBehind 38 S Q = zGo d MX4_waysBehind (.imul) z0 39 S Q := zW_step (I := .imul) rfl S Q
theorem eX4_waysBehind_39 {d : Nat} {S : zS} {Q : zR → Prop} : zW d MX4_waysBehind 39 S Q = zGo d MX4_waysBehind (.iload 5) z0 41 S Q := zW_step (I := .iload 5) rfl S Q
theorem eX4_waysBehind_41 {d : Nat} {S : zS} {Q : zR → Prop} : zW d MX4_waysBehind 41 S Q = zGo d MX4_waysBehind (.iadd) z0 42 S Q := zW_step (I := .iadd) rfl S Q
theorem eX4_waysBehind_42 {d : Nat} {S : zS} {Q : zR → Prop} : zW d MX4_waysBehind 42 S Q = zGo d MX4_waysBehind (.laload) z0 43 S Q := zW_step (I := .laload) rfl S Q
theorem eX4_waysBehind_43 {d : Nat} {S : zS} {Q : zR → Prop} : zW d MX4_waysBehind 43 S Q = zGo d MX4_waysBehind (.ladd) z0 44 S Q := zW_step (I := .ladd) rfl S Q
theorem eX4_waysBehind_44 {d : Nat} {S : zS} {Q : zR → Prop} : zW d MX4_waysBehind 44 S Q = zGo d MX4_waysBehind (.lstore 3) z0 45 S Q := zW_step (I := .lstore_n 3) rfl S Q
theorem eX4_waysBehind_45 {d : Nat} {S : zS} {Q : zR → Prop} : zW d MX4_waysBehind 45 S Q = zGo d MX4_waysBehind (.iinc 5 1) (zv (.int 1)) 48 S Q := zW_step (I := .iinc 5 1) rfl S Q
theorem eX4_waysBehind_48 {d : Nat} {S : zS} {Q : zR → Prop} : zW d MX4_waysBehind 48 S Q = zGo d MX4_waysBehind (.goto (-39)) (zt 9) 51 S Q := zW_step (I := .goto (-39)) rfl S Q
theorem eX4_waysBehind_51 {d : Nat} {S : zS} {Q : zR → Prop} : zW d MX4_waysBehind 51 S Q = zGo d MX4_waysBehind (.lload 3) z0 52 S Q := zW_step (I := .lload_n 3) rfl S Q
theorem eX4_waysBehind_52 {d : Nat} {S : zS} {Q : zR → Prop} : zW d MX4_waysBehind 52 S Q = zGo d MX4_waysBehind (.lreturn) z0 53 S Q := zW_step (I := .lreturn) rfl S Q
theorem rX4_waysBehind : MX4_waysBehind.2.2.2.2.1 = some .long := rfl
theorem eX4_waysWithin_0 {d : Nat} {S : zS} {Q : zR → Prop} : zW d MX4_waysWithin 0 S Q = zGo d MX4_waysWithin (.aload 0) z0 1 S Q := zW_step (I := .aload_n 0) rfl S Q
theorem eX4_waysWithin_1 {d : Nat} {S : zS} {Q : zR → Prop} : zW d MX4_waysWithin 1 S Q = zGo d MX4_waysWithin (.getfield 62) (zf 0 4 14) 4 S Q := zW_step (I := .getfield 62) rfl S Q
theorem eX4_waysWithin_4 {d : Nat} {S : zS} {Q : zR → Prop} : zW d MX4_waysWithin 4 S Q = zGo d MX4_waysWithin (.istore 3) z0 5 S Q := zW_step (I := .istore_n 3) rfl S Q
theorem eX4_waysWithin_5 {d : Nat} {S : zS} {Q : zR → Prop} : zW d MX4_waysWithin 5 S Q = zGo d MX4_waysWithin (.iload 3) z0 6 S Q := zW_step (I := .iload_n 3) rfl S Q
theorem eX4_waysWithin_6 {d : Nat} {S : zS} {Q : zR → Prop} : zW d MX4_waysWithin 6 S Q = zGo d MX4_waysWithin (.ifCond .lt 73) (zt 79) 9 S Q := zW_step (I := .ifCond .lt 73) rfl S Q
theorem eX4_waysWithin_9 {d : Nat} {S : zS} {Q : zR → Prop} : zW d MX4_waysWithin 9 S Q = zGo d MX4_waysWithin (.aload 0) z0 10 S Q := zW_step (I := .aload_n 0) rfl S Q
theorem eX4_waysWithin_10 {d : Nat} {S : zS} {Q : zR → Prop} : zW d MX4_waysWithin 10 S Q = zGo d MX4_waysWithin (.getfield 9) (zf 3 4 0) 13 S Q := zW_step (I := .getfield 9) rfl S Q
theorem eX4_waysWithin_13 {d : Nat} {S : zS} {Q : zR → Prop} : zW d MX4_waysWithin 13 S Q = zGo d MX4_waysWithin (.iload 3) z0 14 S Q := zW_step (I := .iload_n 3) rfl S Q
theorem eX4_waysWithin_14 {d : Nat} {S : zS} {Q : zR → Prop} : zW d MX4_waysWithin 14 S Q = zGo d MX4_waysWithin (.iaload) z0 15 S Q := zW_step (I := .iaload) rfl S Q
theorem eX4_waysWithin_15 {d : Nat} {S : zS} {Q : zR → Prop} : zW d MX4_waysWithin 15 S Q = zGo d MX4_waysWithin (.istore 4) z0 17 S Q := zW_step (I := .istore 4) rfl S Q
theorem eX4_waysWithin_17 {d : Nat} {S : zS} {Q : zR → Prop} : zW d MX4_waysWithin 17 S Q = zGo d MX4_waysWithin (.lconst 0) (zv (.long 0)) 18 S Q := zW_step (I := .lconst 0) rfl S Q
theorem eX4_waysWithin_18 {d : Nat} {S : zS} {Q : zR → Prop} : zW d MX4_waysWithin 18 S Q = zGo d MX4_waysWithin (.lstore 5) z0 20 S Q := zW_step (I := .lstore 5) rfl S Q
theorem eX4_waysWithin_20 {d : Nat} {S : zS} {Q : zR → Prop} : zW d MX4_waysWithin 20 S Q = zGo d MX4_waysWithin (.aload 0) z0 21 S Q := zW_step (I := .aload_n 0) rfl S Q
theorem eX4_waysWithin_21 {d : Nat} {S : zS} {Q : zR → Prop} : zW d MX4_waysWithin 21 S Q = zGo d MX4_waysWithin (.getfield 25) (zf 3 4 4) 24 S Q := zW_step (I := .getfield 25) rfl S Q
theorem eX4_waysWithin_24 {d : Nat} {S : zS} {Q : zR → Prop} : zW d MX4_waysWithin 24 S Q = zGo d MX4_waysWithin (.iload 3) z0 25 S Q := zW_step (I := .iload_n 3) rfl S Q
theorem eX4_waysWithin_25 {d : Nat} {S : zS} {Q : zR → Prop} : zW d MX4_waysWithin 25 S Q = zGo d MX4_waysWithin (.laload) z0 26 S Q := zW_step (I := .laload) rfl S Q
theorem eX4_waysWithin_26 {d : Nat} {S : zS} {Q : zR → Prop} : zW d MX4_waysWithin 26 S Q = zGo d MX4_waysWithin (.lconst 0) (zv (.long 0)) 27 S Q := zW_step (I := .lconst 0) rfl S Q
theorem eX4_waysWithin_27 {d : Nat} {S : zS} {Q : zR → Prop} : zW d MX4_waysWithin 27 S Q = zGo d MX4_waysWithin (.lcmp) z0 28 S Q := zW_step (I := .lcmp) rfl S Q
theorem eX4_waysWithin_28 {d : Nat} {S : zS} {Q : zR → Prop} : zW d MX4_waysWithin 28 S Q = zGo d MX4_waysWithin (.ifCond .le 37) (zt 65) 31 S Q := zW_step (I := .ifCond .le 37) rfl S Q
theorem eX4_waysWithin_31 {d : Nat} {S : zS} {Q : zR → Prop} : zW d MX4_waysWithin 31 S Q = zGo d MX4_waysWithin (.iload 4) z0 33 S Q := zW_step (I := .iload 4) rfl S Q
theorem eX4_waysWithin_33 {d : Nat} {S : zS} {Q : zR → Prop} : zW d MX4_waysWithin 33 S Q = zGo d MX4_waysWithin (.iload 2) z0 34 S Q := zW_step (I := .iload_n 2) rfl S Q
theorem eX4_waysWithin_34 {d : Nat} {S : zS} {Q : zR → Prop} : zW d MX4_waysWithin 34 S Q = zGo d MX4_waysWithin (.if_icmp .eq 31) (zt 65) 37 S Q := zW_step (I := .if_icmp .eq 31) rfl S Q
theorem eX4_waysWithin_37 {d : Nat} {S : zS} {Q : zR → Prop} : zW d MX4_waysWithin 37 S Q = zGo d MX4_waysWithin (.iload 4) z0 39 S Q := zW_step (I := .iload 4) rfl S Q
theorem eX4_waysWithin_39 {d : Nat} {S : zS} {Q : zR → Prop} : zW d MX4_waysWithin 39 S Q = zGo d MX4_waysWithin (.invokestatic 119) (zc 292 1 0) 42 S Q := zW_step (I := .invokestatic 119) rfl S Q
theorem eX4_waysWithin_42 {d : Nat} {S : zS} {Q : zR → Prop} : zW d MX4_waysWithin 42 S Q = zGo d MX4_waysWithin (.iload 1) z0 43 S Q := zW_step (I := .iload_n 1) rfl S Q
theorem eX4_waysWithin_43 {d : Nat} {S : zS} {Q : zR → Prop} : zW d MX4_waysWithin 43 S Q = zGo d MX4_waysWithin (.if_icmp .gt 22) (zt 65) 46 S Q := zW_step (I := .if_icmp .gt 22) rfl S Q
theorem eX4_waysWithin_46 {d : Nat} {S : zS} {Q : zR → Prop} : zW d MX4_waysWithin 46 S Q = zGo d MX4_waysWithin (.iload 3) z0 47 S Q := zW_step (I := .iload_n 3) rfl S Q
theorem eX4_waysWithin_47 {d : Nat} {S : zS} {Q : zR → Prop} : zW d MX4_waysWithin 47 S Q = zGo d MX4_waysWithin (.aload 0) z0 48 S Q := zW_step (I := .aload_n 0) rfl S Q
theorem eX4_waysWithin_48 {d : Nat} {S : zS} {Q : zR → Prop} : zW d MX4_waysWithin 48 S Q = zGo d MX4_waysWithin (.getfield 62) (zf 0 4 14) 51 S Q := zW_step (I := .getfield 62) rfl S Q
theorem eX4_waysWithin_51 {d : Nat} {S : zS} {Q : zR → Prop} : zW d MX4_waysWithin 51 S Q = zGo d MX4_waysWithin (.if_icmp .ne 7) (zt 58) 54 S Q := zW_step (I := .if_icmp .ne 7) rfl S Q
theorem eX4_waysWithin_54 {d : Nat} {S : zS} {Q : zR → Prop} : zW d MX4_waysWithin 54 S Q = zGo d MX4_waysWithin (.lconst 1) (zv (.long 1)) 55 S Q := zW_step (I := .lconst 1) rfl S Q
theorem eX4_waysWithin_55 {d : Nat} {S : zS} {Q : zR → Prop} : zW d MX4_waysWithin 55 S Q = zGo d MX4_waysWithin (.goto 8) (zt 63) 58 S Q := zW_step (I := .goto 8) rfl S Q
theorem eX4_waysWithin_58 {d : Nat} {S : zS} {Q : zR → Prop} : zW d MX4_waysWithin 58 S Q = zGo d MX4_waysWithin (.aload 0) z0 59 S Q := zW_step (I := .aload_n 0) rfl S Q
theorem eX4_waysWithin_59 {d : Nat} {S : zS} {Q : zR → Prop} : zW d MX4_waysWithin 59 S Q = zGo d MX4_waysWithin (.iload 3) z0 60 S Q := zW_step (I := .iload_n 3) rfl S Q
theorem eX4_waysWithin_60 {d : Nat} {S : zS} {Q : zR → Prop} : zW d MX4_waysWithin 60 S Q = zGo d MX4_waysWithin (.invokevirtual 124) (zc 63 2 4) 63 S Q := zW_step (I := .invokevirtual 124) rfl S Q
theorem eX4_waysWithin_63 {d : Nat} {S : zS} {Q : zR → Prop} : zW d MX4_waysWithin 63 S Q = zGo d MX4_waysWithin (.lstore 5) z0 65 S Q := zW_step (I := .lstore 5) rfl S Q
theorem eX4_waysWithin_65 {d : Nat} {S : zS} {Q : zR → Prop} : zW d MX4_waysWithin 65 S Q = zGo d MX4_waysWithin (.aload 0) z0 66 S Q := zW_step (I := .aload_n 0) rfl S Q
theorem eX4_waysWithin_66 {d : Nat} {S : zS} {Q : zR → Prop} : zW d MX4_waysWithin 66 S Q = zGo d MX4_waysWithin (.getfield 28) (zf 3 4 5) 69 S Q := zW_step (I := .getfield 28) rfl S Q
theorem eX4_waysWithin_69 {d : Nat} {S : zS} {Q : zR → Prop} : zW d MX4_waysWithin 69 S Q = zGo d MX4_waysWithin (.iload 3) z0 70 S Q := zW_step (I := .iload_n 3) rfl S Q
theorem eX4_waysWithin_70 {d : Nat} {S : zS} {Q : zR → Prop} : zW d MX4_waysWithin 70 S Q = zGo d MX4_waysWithin (.lload 5) z0 72 S Q := zW_step (I := .lload 5) rfl S Q
theorem eX4_waysWithin_72 {d : Nat} {S : zS} {Q : zR → Prop} : zW d MX4_waysWithin 72 S Q = zGo d MX4_waysWithin (.lastore) z0 73 S Q := zW_step (I := .lastore) rfl S Q
theorem eX4_waysWithin_73 {d : Nat} {S : zS} {Q : zR → Prop} : zW d MX4_waysWithin 73 S Q = zGo d MX4_waysWithin (.iinc 3 (-1)) (zv (.int (-1))) 76 S Q := zW_step (I := .iinc 3 (-1)) rfl S Q
theorem eX4_waysWithin_76 {d : Nat} {S : zS} {Q : zR → Prop} : zW d MX4_waysWithin 76 S Q = zGo d MX4_waysWithin (.goto (-71)) (zt 5) 79 S Q := zW_step (I := .goto (-71)) rfl S Q
theorem eX4_waysWithin_79 {d : Nat} {S : zS} {Q : zR → Prop} : zW d MX4_waysWithin 79 S Q = zGo d MX4_waysWithin (.aload 0) z0 80 S Q := zW_step (I := .aload_n 0) rfl S Q
theorem eX4_waysWithin_80 {d : Nat} {S : zS} {Q : zR → Prop} : zW d MX4_waysWithin 80 S Q = zGo d MX4_waysWithin (.getfield 28) (zf 3 4 5) 83 S Q := zW_step (I := .getfield 28) rfl S Q
theorem eX4_waysWithin_83 {d : Nat} {S : zS} {Q : zR → Prop} : zW d MX4_waysWithin 83 S Q = zGo d MX4_waysWithin (.iconst 0) (zv (.int 0)) 84 S Q := zW_step (I := .iconst 0) rfl S Q
theorem eX4_waysWithin_84 {d : Nat} {S : zS} {Q : zR → Prop} : zW d MX4_waysWithin 84 S Q = zGo d MX4_waysWithin (.laload) z0 85 S Q := zW_step (I := .laload) rfl S Q
theorem eX4_waysWithin_85 {d : Nat} {S : zS} {Q : zR → Prop} : zW d MX4_waysWithin 85 S Q = zGo d MX4_waysWithin (.lreturn) z0 86 S Q := zW_step (I := .lreturn) rfl S Q
theorem rX4_waysWithin : MX4_waysWithin.2.2.2.2.1 = some .long := rfl
theorem eX4_fullestSet_0 {d : Nat} {S : zS} {Q : zR → Prop} : zW d MX4_fullestSet 0 S Q = zGo d MX4_fullestSet (.aload 0) z0 1 S Q := zW_step (I := .aload_n 0) rfl S Q
theorem eX4_fullestSet_1 {d : Nat} {S : zS} {Q : zR → Prop} : zW d MX4_fullestSet 1 S Q = zGo d MX4_fullestSet (.invokevirtual 116) (zc 55 1 4) 4 S Q := zW_step (I := .invokevirtual 116) rfl S Q
theorem eX4_fullestSet_4 {d : Nat} {S : zS} {Q : zR → Prop} : zW d MX4_fullestSet 4 S Q = zGo d MX4_fullestSet (.iconst 0) (zv (.int 0)) 5 S Q := zW_step (I := .iconst 0) rfl S Q
theorem eX4_fullestSet_5 {d : Nat} {S : zS} {Q : zR → Prop} : zW d MX4_fullestSet 5 S Q = zGo d MX4_fullestSet (.istore 1) z0 6 S Q := zW_step (I := .istore_n 1) rfl S Q
theorem eX4_fullestSet_6 {d : Nat} {S : zS} {Q : zR → Prop} : zW d MX4_fullestSet 6 S Q = zGo d MX4_fullestSet (.iconst 0) (zv (.int 0)) 7 S Q := zW_step (I := .iconst 0) rfl S Q
theorem eX4_fullestSet_7 {d : Nat} {S : zS} {Q : zR → Prop} : zW d MX4_fullestSet 7 S Q = zGo d MX4_fullestSet (.istore 2) z0 8 S Q := zW_step (I := .istore_n 2) rfl S Q
theorem eX4_fullestSet_8 {d : Nat} {S : zS} {Q : zR → Prop} : zW d MX4_fullestSet 8 S Q = zGo d MX4_fullestSet (.iload 2) z0 9 S Q := zW_step (I := .iload_n 2) rfl S Q
theorem eX4_fullestSet_9 {d : Nat} {S : zS} {Q : zR → Prop} : zW d MX4_fullestSet 9 S Q = zGo d MX4_fullestSet (.aload 0) z0 10 S Q := zW_step (I := .aload_n 0) rfl S Q
theorem eX4_fullestSet_10 {d : Nat} {S : zS} {Q : zR → Prop} : zW d MX4_fullestSet 10 S Q = zGo d MX4_fullestSet (.getfield 62) (zf 0 4 14) 13 S Q := zW_step (I := .getfield 62) rfl S Q
theorem eX4_fullestSet_13 {d : Nat} {S : zS} {Q : zR → Prop} : zW d MX4_fullestSet 13 S Q = zGo d MX4_fullestSet (.if_icmp .gt 60) (zt 73) 16 S Q := zW_step (I := .if_icmp .gt 60) rfl S Q
theorem eX4_fullestSet_16 {d : Nat} {S : zS} {Q : zR → Prop} : zW d MX4_fullestSet 16 S Q = zGo d MX4_fullestSet (.aload 0) z0 17 S Q := zW_step (I := .aload_n 0) rfl S Q
theorem eX4_fullestSet_17 {d : Nat} {S : zS} {Q : zR → Prop} : zW d MX4_fullestSet 17 S Q = zGo d MX4_fullestSet (.getfield 21) (zf 3 4 3) 20 S Q := zW_step (I := .getfield 21) rfl S Q
theorem eX4_fullestSet_20 {d : Nat} {S : zS} {Q : zR → Prop} : zW d MX4_fullestSet 20 S Q = zGo d MX4_fullestSet (.iload 2) z0 21 S Q := zW_step (I := .iload_n 2) rfl S Q
theorem eX4_fullestSet_21 {d : Nat} {S : zS} {Q : zR → Prop} : zW d MX4_fullestSet 21 S Q = zGo d MX4_fullestSet (.laload) z0 22 S Q := zW_step (I := .laload) rfl S Q
theorem eX4_fullestSet_22 {d : Nat} {S : zS} {Q : zR → Prop} : zW d MX4_fullestSet 22 S Q = zGo d MX4_fullestSet (.lconst 0) (zv (.long 0)) 23 S Q := zW_step (I := .lconst 0) rfl S Q
theorem eX4_fullestSet_23 {d : Nat} {S : zS} {Q : zR → Prop} : zW d MX4_fullestSet 23 S Q = zGo d MX4_fullestSet (.lcmp) z0 24 S Q := zW_step (I := .lcmp) rfl S Q
theorem eX4_fullestSet_24 {d : Nat} {S : zS} {Q : zR → Prop} : zW d MX4_fullestSet 24 S Q = zGo d MX4_fullestSet (.ifCond .le 43) (zt 67) 27 S Q := zW_step (I := .ifCond .le 43) rfl S Q
theorem eX4_fullestSet_27 {d : Nat} {S : zS} {Q : zR → Prop} : zW d MX4_fullestSet 27 S Q = zGo d MX4_fullestSet (.aload 0) z0 28 S Q := zW_step (I := .aload_n 0) rfl S Q
theorem eX4_fullestSet_28 {d : Nat} {S : zS} {Q : zR → Prop} : zW d MX4_fullestSet 28 S Q = zGo d MX4_fullestSet (.getfield 9) (zf 3 4 0) 31 S Q := zW_step (I := .getfield 9) rfl S Q
theorem eX4_fullestSet_31 {d : Nat} {S : zS} {Q : zR → Prop} : zW d MX4_fullestSet 31 S Q = zGo d MX4_fullestSet (.iload 2) z0 32 S Q := zW_step (I := .iload_n 2) rfl S Q
theorem eX4_fullestSet_32 {d : Nat} {S : zS} {Q : zR → Prop} : zW d MX4_fullestSet 32 S Q = zGo d MX4_fullestSet (.iaload) z0 33 S Q := zW_step (I := .iaload) rfl S Q
theorem eX4_fullestSet_33 {d : Nat} {S : zS} {Q : zR → Prop} : zW d MX4_fullestSet 33 S Q = zGo d MX4_fullestSet (.invokestatic 119) (zc 292 1 0) 36 S Q := zW_step (I := .invokestatic 119) rfl S Q
theorem eX4_fullestSet_36 {d : Nat} {S : zS} {Q : zR → Prop} : zW d MX4_fullestSet 36 S Q = zGo d MX4_fullestSet (.iload 1) z0 37 S Q := zW_step (I := .iload_n 1) rfl S Q
theorem eX4_fullestSet_37 {d : Nat} {S : zS} {Q : zR → Prop} : zW d MX4_fullestSet 37 S Q = zGo d MX4_fullestSet (.invokestatic 119) (zc 292 1 0) 40 S Q := zW_step (I := .invokestatic 119) rfl S Q
theorem eX4_fullestSet_40 {d : Nat} {S : zS} {Q : zR → Prop} : zW d MX4_fullestSet 40 S Q = zGo d MX4_fullestSet (.isub) z0 41 S Q := zW_step (I := .isub) rfl S Q
theorem eX4_fullestSet_41 {d : Nat} {S : zS} {Q : zR → Prop} : zW d MX4_fullestSet 41 S Q = zGo d MX4_fullestSet (.istore 3) z0 42 S Q := zW_step (I := .istore_n 3) rfl S Q
theorem eX4_fullestSet_42 {d : Nat} {S : zS} {Q : zR → Prop} : zW d MX4_fullestSet 42 S Q = zGo d MX4_fullestSet (.iload 3) z0 43 S Q := zW_step (I := .iload_n 3) rfl S Q
theorem eX4_fullestSet_43 {d : Nat} {S : zS} {Q : zR → Prop} : zW d MX4_fullestSet 43 S Q = zGo d MX4_fullestSet (.ifCond .gt 17) (zt 60) 46 S Q := zW_step (I := .ifCond .gt 17) rfl S Q
theorem eX4_fullestSet_46 {d : Nat} {S : zS} {Q : zR → Prop} : zW d MX4_fullestSet 46 S Q = zGo d MX4_fullestSet (.iload 3) z0 47 S Q := zW_step (I := .iload_n 3) rfl S Q
theorem eX4_fullestSet_47 {d : Nat} {S : zS} {Q : zR → Prop} : zW d MX4_fullestSet 47 S Q = zGo d MX4_fullestSet (.ifCond .ne 20) (zt 67) 50 S Q := zW_step (I := .ifCond .ne 20) rfl S Q
theorem eX4_fullestSet_50 {d : Nat} {S : zS} {Q : zR → Prop} : zW d MX4_fullestSet 50 S Q = zGo d MX4_fullestSet (.aload 0) z0 51 S Q := zW_step (I := .aload_n 0) rfl S Q
theorem eX4_fullestSet_51 {d : Nat} {S : zS} {Q : zR → Prop} : zW d MX4_fullestSet 51 S Q = zGo d MX4_fullestSet (.getfield 9) (zf 3 4 0) 54 S Q := zW_step (I := .getfield 9) rfl S Q
theorem eX4_fullestSet_54 {d : Nat} {S : zS} {Q : zR → Prop} : zW d MX4_fullestSet 54 S Q = zGo d MX4_fullestSet (.iload 2) z0 55 S Q := zW_step (I := .iload_n 2) rfl S Q
theorem eX4_fullestSet_55 {d : Nat} {S : zS} {Q : zR → Prop} : zW d MX4_fullestSet 55 S Q = zGo d MX4_fullestSet (.iaload) z0 56 S Q := zW_step (I := .iaload) rfl S Q
theorem eX4_fullestSet_56 {d : Nat} {S : zS} {Q : zR → Prop} : zW d MX4_fullestSet 56 S Q = zGo d MX4_fullestSet (.iload 1) z0 57 S Q := zW_step (I := .iload_n 1) rfl S Q
theorem eX4_fullestSet_57 {d : Nat} {S : zS} {Q : zR → Prop} : zW d MX4_fullestSet 57 S Q = zGo d MX4_fullestSet (.if_icmp .ge 10) (zt 67) 60 S Q := zW_step (I := .if_icmp .ge 10) rfl S Q
theorem eX4_fullestSet_60 {d : Nat} {S : zS} {Q : zR → Prop} : zW d MX4_fullestSet 60 S Q = zGo d MX4_fullestSet (.aload 0) z0 61 S Q := zW_step (I := .aload_n 0) rfl S Q
theorem eX4_fullestSet_61 {d : Nat} {S : zS} {Q : zR → Prop} : zW d MX4_fullestSet 61 S Q = zGo d MX4_fullestSet (.getfield 9) (zf 3 4 0) 64 S Q := zW_step (I := .getfield 9) rfl S Q
theorem eX4_fullestSet_64 {d : Nat} {S : zS} {Q : zR → Prop} : zW d MX4_fullestSet 64 S Q = zGo d MX4_fullestSet (.iload 2) z0 65 S Q := zW_step (I := .iload_n 2) rfl S Q
theorem eX4_fullestSet_65 {d : Nat} {S : zS} {Q : zR → Prop} : zW d MX4_fullestSet 65 S Q = zGo d MX4_fullestSet (.iaload) z0 66 S Q := zW_step (I := .iaload) rfl S Q
theorem eX4_fullestSet_66 {d : Nat} {S : zS} {Q : zR → Prop} : zW d MX4_fullestSet 66 S Q = zGo d MX4_fullestSet (.istore 1) z0 67 S Q := zW_step (I := .istore_n 1) rfl S Q
theorem eX4_fullestSet_67 {d : Nat} {S : zS} {Q : zR → Prop} : zW d MX4_fullestSet 67 S Q = zGo d MX4_fullestSet (.iinc 2 1) (zv (.int 1)) 70 S Q := zW_step (I := .iinc 2 1) rfl S Q
theorem eX4_fullestSet_70 {d : Nat} {S : zS} {Q : zR → Prop} : zW d MX4_fullestSet 70 S Q = zGo d MX4_fullestSet (.goto (-62)) (zt 8) 73 S Q := zW_step (I := .goto (-62)) rfl S Q
theorem eX4_fullestSet_73 {d : Nat} {S : zS} {Q : zR → Prop} : zW d MX4_fullestSet 73 S Q = zGo d MX4_fullestSet (.iload 1) z0 74 S Q := zW_step (I := .iload_n 1) rfl S Q
theorem eX4_fullestSet_74 {d : Nat} {S : zS} {Q : zR → Prop} : zW d MX4_fullestSet 74 S Q = zGo d MX4_fullestSet (.ireturn) z0 75 S Q := zW_step (I := .ireturn) rfl S Q
theorem rX4_fullestSet : MX4_fullestSet.2.2.2.2.1 = some .int := rfl
section WAYS
variable {h : Nat → zE} {o k len m n la : Nat} {A : Nat → Nat → Nat} {B : Nat → Nat → Int64} {C : Nat → Nat → Nat} {op : Nat → Int32} {sn : Int32} {tl : Bool} {d : Nat} {u : zU} {Q : zR → Prop}
def waS (f : Nat → Int64) (p : Nat → Bool) (a : Nat) : Nat → Int64
  | 0 => 0
  | i + 1 => if p i = true then waS f p a i + f (a * 128 + i) else waS f p a i
theorem waS_s (f : Nat → Int64) (p : Nat → Bool) (a i : Nat) : waS f p a (i + 1) = if p i = true then waS f p a i + f (a * 128 + i) else waS f p a i := rfl
def wmS (f : Nat → Int64) (a b : Nat) : Nat → Int64
  | 0 => 0
  | i + 1 =>
    if i.testBit b = true then (if i.testBit a = true then wmS f a b i + f (a * 128 + i) + f (b * 128 + i) else wmS f a b i + f (a * 128 + i))
    else (if i.testBit a = true then wmS f a b i + f (b * 128 + i) else wmS f a b i)
theorem wmS_s (f : Nat → Int64) (a b i : Nat) : wmS f a b (i + 1) = if i.testBit b = true then (if i.testBit a = true then wmS f a b i + f (a * 128 + i) + f (b * 128 + i) else wmS f a b i + f (a * 128 + i)) else (if i.testBit a = true then wmS f a b i + f (b * 128 + i) else wmS f a b i) := rfl
/-- ways within: states from the last down -/
def wwV (A : Nat → Nat → Nat) (bh w : Nat → Int64) (n la en : Nat) (nv : Int32) (s : Nat) : Int64 := if 0 < bh s then (if nI (A 0 s) = nv then 0 else if pop (A 0 s) ≤ en then (if s = la then 1 else snx w (A 2 s) s n) else 0) else 0
theorem w_wa (hk : ordOK o k) (hn : n < 8) {a b : Nat} (ha : a < n) (hb : b < n) (hm : n * 128 ≤ m) (hm2 : m < 10000) : ∀ j i , 2 ^ n - i = j → i ≤ 2 ^ n → zW (d) MX4_waysAhead 9 ([.ref o, .int (nI a), .int (nI b), .long (waS (B 3) (fun c => !c.testBit b) a i), .null, .int (nI i)], [], (ordSet h o k len m A B C op sn tl n la, u)) Q = Q (some (.long (waS (B 3) (fun c => !c.testBit b) a (2 ^ n))), (ordSet h o k len m A B C op sn tl n la, u)) := by
  have hp := p2_le n hn
  have ⟨e1, e2, e3, e4⟩ := ok0 hk
  intro j
  induction j with
  | zero =>
    intro i  hj hle
    have e : i = 2 ^ n := by omega
    rw [eX4_waysAhead_9]
    simp (disch := first | assumption | omega | decide) only [eX4_waysAhead_0, eX4_waysAhead_1, eX4_waysAhead_4, eX4_waysAhead_5, eX4_waysAhead_6, eX4_waysAhead_7, eX4_waysAhead_11, eX4_waysAhead_12, eX4_waysAhead_13, eX4_waysAhead_16, eX4_waysAhead_17, eX4_waysAhead_20, eX4_waysAhead_22, eX4_waysAhead_23, eX4_waysAhead_24, eX4_waysAhead_25, eX4_waysAhead_26, eX4_waysAhead_29, eX4_waysAhead_30, eX4_waysAhead_31, eX4_waysAhead_34, eX4_waysAhead_35, eX4_waysAhead_38, eX4_waysAhead_39, eX4_waysAhead_41, eX4_waysAhead_42, eX4_waysAhead_43, eX4_waysAhead_44, eX4_waysAhead_45, eX4_waysAhead_48, eX4_waysAhead_51, eX4_waysAhead_52, rX4_waysAhead, zg_aload, zg_getfield, zg_goto, zg_iadd, zg_iand, zg_icmp, zg_iconst, zg_if, zg_iinc, zg_iload, zg_imul, zg_ishl, zg_ishr, zg_istore, zg_iv0, zg_ladd, zg_laload, zg_lconst, zg_lload, zg_lreturn, zg_lstore, zg_sipush, q10, q01, q00, ite_self, zLd_i, zLd_l, zLd_a, zInc_i, zGet_o, zGet2_s, zPut_o, zAld_i, zAll_j, zAst_i, zAsl_j, zLen_i, zLen_j, zRt_i, zRt_z, zRl2_l, zRv_n, List.getElem?_cons_zero, List.getElem?_cons_succ, List.length_cons, List.length_nil, z_set, z_set2, z_cut, List.set_cons_zero, List.set_cons_succ, Option.toList_some, Option.toList_none, List.cons_append, List.nil_append, zif, zW_ite, zfit_0, zfit_1, zfit_2, zfit_3, zisc_o, zRt_c, zRt_b, List.map_cons, List.map_nil, List.sum_cons, List.sum_nil, true_and, and_true, if_true, if_false, ite_true, ite_false, Nat.reduceLT, Nat.reduceLeDiff, Nat.reduceAdd, Nat.reduceEqDiff, eq_self, not_true_eq_false, not_false_eq_true, Nat.lt_irrefl, or_true, true_or, or_false, false_or, z_cell_lt, Value.category, ltT, ltF, leT, leF, natT, natF, iltT, iltF, ieqT, ieqF, vpT, cl_nI, q_bit, pow_cell, z_pw_eq, nI_add, nI_mul, nI_m1, nI_dn, nI_dn0, m1_lt, lg_pos, i32_irr, q_shT, ite01, ite00, updL_z, q_upd, Bool.false_eq_true, nI_l2i, jlT_0, jlF_0, jgT_0, jgF_0, jeT_0, jeF_0, jv_0, jc_0, jm_0, jM_0, ja_0, jA_0, jlT_1, jlF_1, jgT_1, jgF_1, jeT_1, jeF_1, jv_1, jc_1, jm_1, jM_1, ja_1, jA_1, jlT_5, jlF_5, jgT_5, jgF_5, jeT_5, jeF_5, jv_5, jc_5, jm_5, jM_5, ja_5, jA_5, jlT_128, jlF_128, jgT_128, jgF_128, jeT_128, jeF_128, jv_128, jc_128, jm_128, jM_128, ja_128, jA_128, ord_0, og6]
    try simp only [e]
  | succ j ih =>
    intro i  hj hle
    have hlt : i < 2 ^ n := by omega
    have ih := ih (i + 1) (by omega) (by omega)
    rw [eX4_waysAhead_9]
    by_cases c : i.testBit b = true <;> first | (exfalso; omega) | (
      (try simp (disch := first | assumption | omega | decide) only [waS_s,  c,  Bool.not_true,  Bool.not_false,  Bool.false_eq_true, c, natT, natF, ltT, ltF, leT, leF, Bool.false_eq_true, if_true, if_false, ite_true, ite_false, not_true_eq_false, not_false_eq_true] at ih)
      (simp (disch := first | assumption | omega | decide) only [eX4_waysAhead_0, eX4_waysAhead_1, eX4_waysAhead_4, eX4_waysAhead_5, eX4_waysAhead_6, eX4_waysAhead_7, eX4_waysAhead_11, eX4_waysAhead_12, eX4_waysAhead_13, eX4_waysAhead_16, eX4_waysAhead_17, eX4_waysAhead_20, eX4_waysAhead_22, eX4_waysAhead_23, eX4_waysAhead_24, eX4_waysAhead_25, eX4_waysAhead_26, eX4_waysAhead_29, eX4_waysAhead_30, eX4_waysAhead_31, eX4_waysAhead_34, eX4_waysAhead_35, eX4_waysAhead_38, eX4_waysAhead_39, eX4_waysAhead_41, eX4_waysAhead_42, eX4_waysAhead_43, eX4_waysAhead_44, eX4_waysAhead_45, eX4_waysAhead_48, eX4_waysAhead_51, eX4_waysAhead_52, rX4_waysAhead, zg_aload, zg_getfield, zg_goto, zg_iadd, zg_iand, zg_icmp, zg_iconst, zg_if, zg_iinc, zg_iload, zg_imul, zg_ishl, zg_ishr, zg_istore, zg_iv0, zg_ladd, zg_laload, zg_lconst, zg_lload, zg_lreturn, zg_lstore, zg_sipush, q10, q01, q00, ite_self, zLd_i, zLd_l, zLd_a, zInc_i, zGet_o, zGet2_s, zPut_o, zAld_i, zAll_j, zAst_i, zAsl_j, zLen_i, zLen_j, zRt_i, zRt_z, zRl2_l, zRv_n, List.getElem?_cons_zero, List.getElem?_cons_succ, List.length_cons, List.length_nil, z_set, z_set2, z_cut, List.set_cons_zero, List.set_cons_succ, Option.toList_some, Option.toList_none, List.cons_append, List.nil_append, zif, zW_ite, zfit_0, zfit_1, zfit_2, zfit_3, zisc_o, zRt_c, zRt_b, List.map_cons, List.map_nil, List.sum_cons, List.sum_nil, true_and, and_true, if_true, if_false, ite_true, ite_false, Nat.reduceLT, Nat.reduceLeDiff, Nat.reduceAdd, Nat.reduceEqDiff, eq_self, not_true_eq_false, not_false_eq_true, Nat.lt_irrefl, or_true, true_or, or_false, false_or, z_cell_lt, Value.category, ltT, ltF, leT, leF, natT, natF, iltT, iltF, ieqT, ieqF, vpT, cl_nI, q_bit, pow_cell, z_pw_eq, nI_add, nI_mul, nI_m1, nI_dn, nI_dn0, m1_lt, lg_pos, i32_irr, q_shT, ite01, ite00, updL_z, q_upd, Bool.false_eq_true, nI_l2i, jlT_0, jlF_0, jgT_0, jgF_0, jeT_0, jeF_0, jv_0, jc_0, jm_0, jM_0, ja_0, jA_0, jlT_1, jlF_1, jgT_1, jgF_1, jeT_1, jeF_1, jv_1, jc_1, jm_1, jM_1, ja_1, jA_1, jlT_5, jlF_5, jgT_5, jgF_5, jeT_5, jeF_5, jv_5, jc_5, jm_5, jM_5, ja_5, jA_5, jlT_128, jlF_128, jgT_128, jgF_128, jeT_128, jeF_128, jv_128, jc_128, jm_128, jM_128, ja_128, jA_128, ord_0, og6, c])
      first | done | exact ih | exact ih)
theorem w_wm (hk : ordOK o k) (hn : n < 8) {a b : Nat} (ha : a < n) (hb : b < n) (hm : n * 128 ≤ m) (hm2 : m < 10000) : ∀ j i , 2 ^ n - i = j → i ≤ 2 ^ n → zW (d) MX4_waysMeeting 9 ([.ref o, .int (nI a), .int (nI b), .long (wmS (B 4) a b i), .null, .int (nI i)], [], (ordSet h o k len m A B C op sn tl n la, u)) Q = Q (some (.long (wmS (B 4) a b (2 ^ n))), (ordSet h o k len m A B C op sn tl n la, u)) := by
  have hp := p2_le n hn
  have ⟨e1, e2, e3, e4⟩ := ok0 hk
  intro j
  induction j with
  | zero =>
    intro i  hj hle
    have e : i = 2 ^ n := by omega
    rw [eX4_waysMeeting_9]
    simp (disch := first | assumption | omega | decide) only [eX4_waysMeeting_0, eX4_waysMeeting_1, eX4_waysMeeting_4, eX4_waysMeeting_5, eX4_waysMeeting_6, eX4_waysMeeting_7, eX4_waysMeeting_11, eX4_waysMeeting_12, eX4_waysMeeting_13, eX4_waysMeeting_16, eX4_waysMeeting_17, eX4_waysMeeting_20, eX4_waysMeeting_22, eX4_waysMeeting_23, eX4_waysMeeting_24, eX4_waysMeeting_25, eX4_waysMeeting_26, eX4_waysMeeting_27, eX4_waysMeeting_30, eX4_waysMeeting_31, eX4_waysMeeting_32, eX4_waysMeeting_35, eX4_waysMeeting_36, eX4_waysMeeting_39, eX4_waysMeeting_40, eX4_waysMeeting_42, eX4_waysMeeting_43, eX4_waysMeeting_44, eX4_waysMeeting_45, eX4_waysMeeting_46, eX4_waysMeeting_48, eX4_waysMeeting_49, eX4_waysMeeting_50, eX4_waysMeeting_51, eX4_waysMeeting_52, eX4_waysMeeting_53, eX4_waysMeeting_56, eX4_waysMeeting_57, eX4_waysMeeting_58, eX4_waysMeeting_61, eX4_waysMeeting_62, eX4_waysMeeting_65, eX4_waysMeeting_66, eX4_waysMeeting_68, eX4_waysMeeting_69, eX4_waysMeeting_70, eX4_waysMeeting_71, eX4_waysMeeting_72, eX4_waysMeeting_75, eX4_waysMeeting_78, eX4_waysMeeting_79, rX4_waysMeeting, zg_aload, zg_getfield, zg_goto, zg_iadd, zg_iand, zg_icmp, zg_iconst, zg_iinc, zg_iload, zg_imul, zg_ishl, zg_ishr, zg_istore, zg_iv0, zg_ladd, zg_laload, zg_lconst, zg_lload, zg_lreturn, zg_lstore, zg_sipush, q10, q01, q00, ite_self, zLd_i, zLd_l, zLd_a, zInc_i, zGet_o, zGet2_s, zPut_o, zAld_i, zAll_j, zAst_i, zAsl_j, zLen_i, zLen_j, zRt_i, zRt_z, zRl2_l, zRv_n, List.getElem?_cons_zero, List.getElem?_cons_succ, List.length_cons, List.length_nil, z_set, z_set2, z_cut, List.set_cons_zero, List.set_cons_succ, Option.toList_some, Option.toList_none, List.cons_append, List.nil_append, zif, zW_ite, zfit_0, zfit_1, zfit_2, zfit_3, zisc_o, zRt_c, zRt_b, List.map_cons, List.map_nil, List.sum_cons, List.sum_nil, true_and, and_true, if_true, if_false, ite_true, ite_false, Nat.reduceLT, Nat.reduceLeDiff, Nat.reduceAdd, Nat.reduceEqDiff, eq_self, not_true_eq_false, not_false_eq_true, Nat.lt_irrefl, or_true, true_or, or_false, false_or, z_cell_lt, Value.category, ltT, ltF, leT, leF, natT, natF, iltT, iltF, ieqT, ieqF, vpT, cl_nI, q_bit, pow_cell, z_pw_eq, nI_add, nI_mul, nI_m1, nI_dn, nI_dn0, m1_lt, lg_pos, i32_irr, q_shT, ite01, ite00, updL_z, q_upd, Bool.false_eq_true, nI_l2i, jlT_0, jlF_0, jgT_0, jgF_0, jeT_0, jeF_0, jv_0, jc_0, jm_0, jM_0, ja_0, jA_0, jlT_1, jlF_1, jgT_1, jgF_1, jeT_1, jeF_1, jv_1, jc_1, jm_1, jM_1, ja_1, jA_1, jlT_5, jlF_5, jgT_5, jgF_5, jeT_5, jeF_5, jv_5, jc_5, jm_5, jM_5, ja_5, jA_5, jlT_128, jlF_128, jgT_128, jgF_128, jeT_128, jeF_128, jv_128, jc_128, jm_128, jM_128, ja_128, jA_128, ord_0, og7]
    try simp only [e]
  | succ j ih =>
    intro i  hj hle
    have hlt : i < 2 ^ n := by omega
    have ih := ih (i + 1) (by omega) (by omega)
    rw [eX4_waysMeeting_9]
    by_cases c : i.testBit b = true <;> by_cases c2 : i.testBit a = true <;> first | (exfalso; omega) | (
      (try simp (disch := first | assumption | omega | decide) only [wmS_s, c, c2, natT, natF, ltT, ltF, leT, leF, Bool.false_eq_true, if_true, if_false, ite_true, ite_false, not_true_eq_false, not_false_eq_true] at ih)
      (simp (disch := first | assumption | omega | decide) only [eX4_waysMeeting_0, eX4_waysMeeting_1, eX4_waysMeeting_4, eX4_waysMeeting_5, eX4_waysMeeting_6, eX4_waysMeeting_7, eX4_waysMeeting_11, eX4_waysMeeting_12, eX4_waysMeeting_13, eX4_waysMeeting_16, eX4_waysMeeting_17, eX4_waysMeeting_20, eX4_waysMeeting_22, eX4_waysMeeting_23, eX4_waysMeeting_24, eX4_waysMeeting_25, eX4_waysMeeting_26, eX4_waysMeeting_27, eX4_waysMeeting_30, eX4_waysMeeting_31, eX4_waysMeeting_32, eX4_waysMeeting_35, eX4_waysMeeting_36, eX4_waysMeeting_39, eX4_waysMeeting_40, eX4_waysMeeting_42, eX4_waysMeeting_43, eX4_waysMeeting_44, eX4_waysMeeting_45, eX4_waysMeeting_46, eX4_waysMeeting_48, eX4_waysMeeting_49, eX4_waysMeeting_50, eX4_waysMeeting_51, eX4_waysMeeting_52, eX4_waysMeeting_53, eX4_waysMeeting_56, eX4_waysMeeting_57, eX4_waysMeeting_58, eX4_waysMeeting_61, eX4_waysMeeting_62, eX4_waysMeeting_65, eX4_waysMeeting_66, eX4_waysMeeting_68, eX4_waysMeeting_69, eX4_waysMeeting_70, eX4_waysMeeting_71, eX4_waysMeeting_72, eX4_waysMeeting_75, eX4_waysMeeting_78, eX4_waysMeeting_79, rX4_waysMeeting, zg_aload, zg_getfield, zg_goto, zg_iadd, zg_iand, zg_icmp, zg_iconst, zg_iinc, zg_iload, zg_imul, zg_ishl, zg_ishr, zg_istore, zg_iv0, zg_ladd, zg_laload, zg_lconst, zg_lload, zg_lreturn, zg_lstore, zg_sipush, q10, q01, q00, ite_self, zLd_i, zLd_l, zLd_a, zInc_i, zGet_o, zGet2_s, zPut_o, zAld_i, zAll_j, zAst_i, zAsl_j, zLen_i, zLen_j, zRt_i, zRt_z, zRl2_l, zRv_n, List.getElem?_cons_zero, List.getElem?_cons_succ, List.length_cons, List.length_nil, z_set, z_set2, z_cut, List.set_cons_zero, List.set_cons_succ, Option.toList_some, Option.toList_none, List.cons_append, List.nil_append, zif, zW_ite, zfit_0, zfit_1, zfit_2, zfit_3, zisc_o, zRt_c, zRt_b, List.map_cons, List.map_nil, List.sum_cons, List.sum_nil, true_and, and_true, if_true, if_false, ite_true, ite_false, Nat.reduceLT, Nat.reduceLeDiff, Nat.reduceAdd, Nat.reduceEqDiff, eq_self, not_true_eq_false, not_false_eq_true, Nat.lt_irrefl, or_true, true_or, or_false, false_or, z_cell_lt, Value.category, ltT, ltF, leT, leF, natT, natF, iltT, iltF, ieqT, ieqF, vpT, cl_nI, q_bit, pow_cell, z_pw_eq, nI_add, nI_mul, nI_m1, nI_dn, nI_dn0, m1_lt, lg_pos, i32_irr, q_shT, ite01, ite00, updL_z, q_upd, Bool.false_eq_true, nI_l2i, jlT_0, jlF_0, jgT_0, jgF_0, jeT_0, jeF_0, jv_0, jc_0, jm_0, jM_0, ja_0, jA_0, jlT_1, jlF_1, jgT_1, jgF_1, jeT_1, jeF_1, jv_1, jc_1, jm_1, jM_1, ja_1, jA_1, jlT_5, jlF_5, jgT_5, jgF_5, jeT_5, jeF_5, jv_5, jc_5, jm_5, jM_5, ja_5, jA_5, jlT_128, jlF_128, jgT_128, jgF_128, jeT_128, jeF_128, jv_128, jc_128, jm_128, jM_128, ja_128, jA_128, ord_0, og7, c, c2])
      first | done | exact ih | exact ih)
theorem w_wb (hk : ordOK o k) (hn : n < 8) {a b : Nat} (ha : a < n) (hb : b < n) (hm : n * 128 ≤ m) (hm2 : m < 10000) : ∀ j i , 2 ^ n - i = j → i ≤ 2 ^ n → zW (d + 1) MX4_waysBehind 9 ([.ref o, .int (nI a), .int (nI b), .long (waS (B 3) (fun c => decide (pop c = b)) a i), .null, .int (nI i)], [], (ordSet h o k len m A B C op sn tl n la, u)) Q = Q (some (.long (waS (B 3) (fun c => decide (pop c = b)) a (2 ^ n))), (ordSet h o k len m A B C op sn tl n la, u)) := by
  have hp := p2_le n hn
  have ⟨e1, e2, e3, e4⟩ := ok0 hk
  intro j
  induction j with
  | zero =>
    intro i  hj hle
    have e : i = 2 ^ n := by omega
    rw [eX4_waysBehind_9]
    simp (disch := first | assumption | omega | decide) only [eX4_waysBehind_0, eX4_waysBehind_1, eX4_waysBehind_4, eX4_waysBehind_5, eX4_waysBehind_6, eX4_waysBehind_7, eX4_waysBehind_11, eX4_waysBehind_12, eX4_waysBehind_13, eX4_waysBehind_16, eX4_waysBehind_17, eX4_waysBehind_20, eX4_waysBehind_22, eX4_waysBehind_25, eX4_waysBehind_26, eX4_waysBehind_29, eX4_waysBehind_30, eX4_waysBehind_31, eX4_waysBehind_34, eX4_waysBehind_35, eX4_waysBehind_38, eX4_waysBehind_39, eX4_waysBehind_41, eX4_waysBehind_42, eX4_waysBehind_43, eX4_waysBehind_44, eX4_waysBehind_45, eX4_waysBehind_48, eX4_waysBehind_51, eX4_waysBehind_52, rX4_waysBehind, zg_aload, zg_getfield, zg_goto, zg_iadd, zg_icmp, zg_iconst, zg_iinc, zg_iload, zg_imul, zg_is1, zg_ishl, zg_istore, zg_iv0, zg_ladd, zg_laload, zg_lconst, zg_lload, zg_lreturn, zg_lstore, zg_sipush, q10, q01, q00, ite_self, zLd_i, zLd_l, zLd_a, zInc_i, zGet_o, zGet2_s, zPut_o, zAld_i, zAll_j, zAst_i, zAsl_j, zLen_i, zLen_j, zRt_i, zRt_z, zRl2_l, zRv_n, List.getElem?_cons_zero, List.getElem?_cons_succ, List.length_cons, List.length_nil, z_set, z_set2, z_cut, List.set_cons_zero, List.set_cons_succ, Option.toList_some, Option.toList_none, List.cons_append, List.nil_append, zif, zW_ite, zfit_0, zfit_1, zfit_2, zfit_3, zisc_o, zRt_c, zRt_b, List.map_cons, List.map_nil, List.sum_cons, List.sum_nil, true_and, and_true, if_true, if_false, ite_true, ite_false, Nat.reduceLT, Nat.reduceLeDiff, Nat.reduceAdd, Nat.reduceEqDiff, eq_self, not_true_eq_false, not_false_eq_true, Nat.lt_irrefl, or_true, true_or, or_false, false_or, z_cell_lt, Value.category, ltT, ltF, leT, leF, natT, natF, iltT, iltF, ieqT, ieqF, vpT, cl_nI, q_bit, pow_cell, z_pw_eq, nI_add, nI_mul, nI_m1, nI_dn, nI_dn0, m1_lt, lg_pos, i32_irr, q_shT, ite01, ite00, updL_z, q_upd, Bool.false_eq_true, nI_l2i, jlT_0, jlF_0, jgT_0, jgF_0, jeT_0, jeF_0, jv_0, jc_0, jm_0, jM_0, ja_0, jA_0, jlT_1, jlF_1, jgT_1, jgF_1, jeT_1, jeF_1, jv_1, jc_1, jm_1, jM_1, ja_1, jA_1, jlT_5, jlF_5, jgT_5, jgF_5, jeT_5, jeF_5, jv_5, jc_5, jm_5, jM_5, ja_5, jA_5, jlT_128, jlF_128, jgT_128, jgF_128, jeT_128, jeF_128, jv_128, jc_128, jm_128, jM_128, ja_128, jA_128, ord_0, og6, c_bc]
    try simp only [e]
  | succ j ih =>
    intro i  hj hle
    have hlt : i < 2 ^ n := by omega
    have ih := ih (i + 1) (by omega) (by omega)
    rw [eX4_waysBehind_9]
    have hpc := pop_le i
    by_cases c : pop i = b <;> first | (exfalso; omega) | (
      (try simp (disch := first | assumption | omega | decide) only [waS_s,  decide_eq_true_eq, c, natT, natF, ltT, ltF, leT, leF, Bool.false_eq_true, if_true, if_false, ite_true, ite_false, not_true_eq_false, not_false_eq_true] at ih)
      (simp (disch := first | assumption | omega | decide) only [eX4_waysBehind_0, eX4_waysBehind_1, eX4_waysBehind_4, eX4_waysBehind_5, eX4_waysBehind_6, eX4_waysBehind_7, eX4_waysBehind_11, eX4_waysBehind_12, eX4_waysBehind_13, eX4_waysBehind_16, eX4_waysBehind_17, eX4_waysBehind_20, eX4_waysBehind_22, eX4_waysBehind_25, eX4_waysBehind_26, eX4_waysBehind_29, eX4_waysBehind_30, eX4_waysBehind_31, eX4_waysBehind_34, eX4_waysBehind_35, eX4_waysBehind_38, eX4_waysBehind_39, eX4_waysBehind_41, eX4_waysBehind_42, eX4_waysBehind_43, eX4_waysBehind_44, eX4_waysBehind_45, eX4_waysBehind_48, eX4_waysBehind_51, eX4_waysBehind_52, rX4_waysBehind, zg_aload, zg_getfield, zg_goto, zg_iadd, zg_icmp, zg_iconst, zg_iinc, zg_iload, zg_imul, zg_is1, zg_ishl, zg_istore, zg_iv0, zg_ladd, zg_laload, zg_lconst, zg_lload, zg_lreturn, zg_lstore, zg_sipush, q10, q01, q00, ite_self, zLd_i, zLd_l, zLd_a, zInc_i, zGet_o, zGet2_s, zPut_o, zAld_i, zAll_j, zAst_i, zAsl_j, zLen_i, zLen_j, zRt_i, zRt_z, zRl2_l, zRv_n, List.getElem?_cons_zero, List.getElem?_cons_succ, List.length_cons, List.length_nil, z_set, z_set2, z_cut, List.set_cons_zero, List.set_cons_succ, Option.toList_some, Option.toList_none, List.cons_append, List.nil_append, zif, zW_ite, zfit_0, zfit_1, zfit_2, zfit_3, zisc_o, zRt_c, zRt_b, List.map_cons, List.map_nil, List.sum_cons, List.sum_nil, true_and, and_true, if_true, if_false, ite_true, ite_false, Nat.reduceLT, Nat.reduceLeDiff, Nat.reduceAdd, Nat.reduceEqDiff, eq_self, not_true_eq_false, not_false_eq_true, Nat.lt_irrefl, or_true, true_or, or_false, false_or, z_cell_lt, Value.category, ltT, ltF, leT, leF, natT, natF, iltT, iltF, ieqT, ieqF, vpT, cl_nI, q_bit, pow_cell, z_pw_eq, nI_add, nI_mul, nI_m1, nI_dn, nI_dn0, m1_lt, lg_pos, i32_irr, q_shT, ite01, ite00, updL_z, q_upd, Bool.false_eq_true, nI_l2i, jlT_0, jlF_0, jgT_0, jgF_0, jeT_0, jeF_0, jv_0, jc_0, jm_0, jM_0, ja_0, jA_0, jlT_1, jlF_1, jgT_1, jgF_1, jeT_1, jeF_1, jv_1, jc_1, jm_1, jM_1, ja_1, jA_1, jlT_5, jlF_5, jgT_5, jgF_5, jeT_5, jeF_5, jv_5, jc_5, jm_5, jM_5, ja_5, jA_5, jlT_128, jlF_128, jgT_128, jgF_128, jeT_128, jeF_128, jv_128, jc_128, jm_128, jM_128, ja_128, jA_128, ord_0, og6, c_bc, c])
      first | done | exact ih | exact ih)
def wwG (A : Nat → Nat → Nat) (bh : Nat → Int64) (n la en : Nat) (nv : Int32) : Nat → (Nat → Int64) → Nat → Int64
  | 0, w => w
  | s + 1, w => wwG A bh n la en nv s (z_up w s (wwV A bh w n la en nv s))
theorem wwG_0 (A : Nat → Nat → Nat) (bh : Nat → Int64) (n la en : Nat) (nv : Int32) (w : Nat → Int64) : wwG A bh n la en nv 0 w = w := rfl
theorem wwG_s (A : Nat → Nat → Nat) (bh : Nat → Int64) (n la en : Nat) (nv : Int32) (s : Nat) (w : Nat → Int64) : wwG A bh n la en nv (s + 1) w = wwG A bh n la en nv s (z_up w s (wwV A bh w n la en nv s)) := rfl
theorem zup_s {α : Type} (f : Nat → α) (k : Nat) (v : α) : z_up f k v k = v := z_up_s f k v
theorem zup_n {α : Type} (f : Nat → α) (k j : Nat) (v : α) (h : j ≠ k) : z_up f k v j = f j := z_up_n f v h
theorem zup_up {α : Type} (f : Nat → α) (k : Nat) (v w : α) : z_up (z_up f k v) k w = z_up f k w := by
  funext j
  unfold z_up
  split <;> rfl
theorem w_ww (hk : ordOK o k) (hn : n < 8) (hlen : len < 10000) (hla : la < len) (hA0 : ∀ s, A 0 s < 128) (hA2 : ∀ s, s ≤ la → A 2 s < 128) (hb : ∀ s, s ≤ la → ∀ i, i < n → (A 2 s).testBit i = true → s + 3 ^ i < len) {nv : Int32} {en : Nat} (hen : en < 8) : ∀ t x4 x5 w, t ≤ la + 1 → zW (d + 1) MX4_waysWithin 5 ([.ref o, .int (nI en), .int nv, .int (nI t - 1), x4, x5, .null], [], (ordSet h o k len m A (z_up B 2 w) C op sn tl n la, u)) Q = Q (some (.long (wwG A (B 1) n la en nv t w 0)), (ordSet h o k len m A (z_up B 2 (wwG A (B 1) n la en nv t w)) C op sn tl n la, u)) := by
  have ⟨e1, e2, e3, e4⟩ := ok0 hk
  intro t
  induction t with
  | zero =>
    intro x4 x5 w
    intro hc
    have q2 : (z_up B 2 w) 2 = w := z_up_s _ _ _
    rw [eX4_waysWithin_5]
    simp (disch := first | assumption | omega | decide) only [eX4_waysWithin_0, eX4_waysWithin_1, eX4_waysWithin_4, eX4_waysWithin_6, eX4_waysWithin_9, eX4_waysWithin_10, eX4_waysWithin_13, eX4_waysWithin_14, eX4_waysWithin_15, eX4_waysWithin_17, eX4_waysWithin_18, eX4_waysWithin_20, eX4_waysWithin_21, eX4_waysWithin_24, eX4_waysWithin_25, eX4_waysWithin_26, eX4_waysWithin_27, eX4_waysWithin_28, eX4_waysWithin_31, eX4_waysWithin_33, eX4_waysWithin_34, eX4_waysWithin_37, eX4_waysWithin_39, eX4_waysWithin_42, eX4_waysWithin_43, eX4_waysWithin_46, eX4_waysWithin_47, eX4_waysWithin_48, eX4_waysWithin_51, eX4_waysWithin_54, eX4_waysWithin_55, eX4_waysWithin_58, eX4_waysWithin_59, eX4_waysWithin_60, eX4_waysWithin_63, eX4_waysWithin_65, eX4_waysWithin_66, eX4_waysWithin_69, eX4_waysWithin_70, eX4_waysWithin_72, eX4_waysWithin_73, eX4_waysWithin_76, eX4_waysWithin_79, eX4_waysWithin_80, eX4_waysWithin_83, eX4_waysWithin_84, eX4_waysWithin_85, rX4_waysWithin, zg_aload, zg_getfield, zg_goto, zg_iaload, zg_icmp, zg_iconst, zg_if, zg_iinc, zg_iload, zg_is1, zg_istore, zg_iv1, zg_laload, zg_lastore, zg_lcmp, zg_lconst, zg_lload, zg_lreturn, zg_lstore, q10, q01, q00, ite_self, zLd_i, zLd_l, zLd_a, zInc_i, zGet_o, zGet2_s, zPut_o, zAld_i, zAll_j, zAst_i, zAsl_j, zLen_i, zLen_j, zRt_i, zRt_z, zRl2_l, zRv_n, List.getElem?_cons_zero, List.getElem?_cons_succ, List.length_cons, List.length_nil, z_set, z_set2, z_cut, List.set_cons_zero, List.set_cons_succ, Option.toList_some, Option.toList_none, List.cons_append, List.nil_append, zif, zW_ite, zfit_0, zfit_1, zfit_2, zfit_3, zisc_o, zRt_c, zRt_b, List.map_cons, List.map_nil, List.sum_cons, List.sum_nil, true_and, and_true, if_true, if_false, ite_true, ite_false, Nat.reduceLT, Nat.reduceLeDiff, Nat.reduceAdd, Nat.reduceEqDiff, eq_self, not_true_eq_false, not_false_eq_true, Nat.lt_irrefl, or_true, true_or, or_false, false_or, z_cell_lt, Value.category, ltT, ltF, leT, leF, natT, natF, iltT, iltF, ieqT, ieqF, vpT, cl_nI, q_bit, pow_cell, z_pw_eq, nI_add, nI_mul, nI_m1, nI_dn, nI_dn0, m1_lt, lg_pos, i32_irr, q_shT, ite01, ite00, updL_z, q_upd, Bool.false_eq_true, nI_l2i, jlT_0, jlF_0, jgT_0, jgF_0, jeT_0, jeF_0, jv_0, jc_0, jm_0, jM_0, ja_0, jA_0, jlT_1, jlF_1, jgT_1, jgF_1, jeT_1, jeF_1, jv_1, jc_1, jm_1, jM_1, ja_1, jA_1, jlT_3, jlF_3, jgT_3, jgF_3, jeT_3, jeF_3, jv_3, jc_3, jm_3, jM_3, ja_3, jA_3, ord_0, og0, og4, og5, ou5, c_bc, zup_up, wwG_0, wwG_s, wwV, q2]
  | succ t ih =>
    intro x4 x5 w
    intro hc
    have ih := fun x4 x5 w => ih x4 x5 w (by omega)
    rw [eX4_waysWithin_5]
    rw [nI_dn t]
    have h0 := hA0 t
    have h2 := hA2 t (by omega)
    have hbt := hb t (by omega)
    have hpp := pop_le (A 0 t)
    have q1 : (z_up B 2 w) 1 = B 1 := z_up_n _ _ (by decide)
    have q2 : (z_up B 2 w) 2 = w := z_up_s _ _ _
    have hsn := fun Q => c_snx (d := d) (u := u) (h := h) (m := m) (C := C) (op := op) (sn := sn) (tl := tl) (la := la) (A := A) (B := z_up B 2 w) (Q := Q) hk (show n ≤ 7 by omega) hlen (show t < len by omega) h2 hbt
    by_cases c1 : 0 < B 1 t <;> by_cases c2 : nI (A 0 t) = nv <;> by_cases c3 : pop (A 0 t) ≤ en <;> by_cases n4 : t = la <;> first | (exfalso; omega) | (
      (simp (disch := first | assumption | omega | decide) only [eX4_waysWithin_0, eX4_waysWithin_1, eX4_waysWithin_4, eX4_waysWithin_6, eX4_waysWithin_9, eX4_waysWithin_10, eX4_waysWithin_13, eX4_waysWithin_14, eX4_waysWithin_15, eX4_waysWithin_17, eX4_waysWithin_18, eX4_waysWithin_20, eX4_waysWithin_21, eX4_waysWithin_24, eX4_waysWithin_25, eX4_waysWithin_26, eX4_waysWithin_27, eX4_waysWithin_28, eX4_waysWithin_31, eX4_waysWithin_33, eX4_waysWithin_34, eX4_waysWithin_37, eX4_waysWithin_39, eX4_waysWithin_42, eX4_waysWithin_43, eX4_waysWithin_46, eX4_waysWithin_47, eX4_waysWithin_48, eX4_waysWithin_51, eX4_waysWithin_54, eX4_waysWithin_55, eX4_waysWithin_58, eX4_waysWithin_59, eX4_waysWithin_60, eX4_waysWithin_63, eX4_waysWithin_65, eX4_waysWithin_66, eX4_waysWithin_69, eX4_waysWithin_70, eX4_waysWithin_72, eX4_waysWithin_73, eX4_waysWithin_76, eX4_waysWithin_79, eX4_waysWithin_80, eX4_waysWithin_83, eX4_waysWithin_84, eX4_waysWithin_85, rX4_waysWithin, zg_aload, zg_getfield, zg_goto, zg_iaload, zg_icmp, zg_iconst, zg_if, zg_iinc, zg_iload, zg_is1, zg_istore, zg_iv1, zg_laload, zg_lastore, zg_lcmp, zg_lconst, zg_lload, zg_lreturn, zg_lstore, q10, q01, q00, ite_self, zLd_i, zLd_l, zLd_a, zInc_i, zGet_o, zGet2_s, zPut_o, zAld_i, zAll_j, zAst_i, zAsl_j, zLen_i, zLen_j, zRt_i, zRt_z, zRl2_l, zRv_n, List.getElem?_cons_zero, List.getElem?_cons_succ, List.length_cons, List.length_nil, z_set, z_set2, z_cut, List.set_cons_zero, List.set_cons_succ, Option.toList_some, Option.toList_none, List.cons_append, List.nil_append, zif, zW_ite, zfit_0, zfit_1, zfit_2, zfit_3, zisc_o, zRt_c, zRt_b, List.map_cons, List.map_nil, List.sum_cons, List.sum_nil, true_and, and_true, if_true, if_false, ite_true, ite_false, Nat.reduceLT, Nat.reduceLeDiff, Nat.reduceAdd, Nat.reduceEqDiff, eq_self, not_true_eq_false, not_false_eq_true, Nat.lt_irrefl, or_true, true_or, or_false, false_or, z_cell_lt, Value.category, ltT, ltF, leT, leF, natT, natF, iltT, iltF, ieqT, ieqF, vpT, cl_nI, q_bit, pow_cell, z_pw_eq, nI_add, nI_mul, nI_m1, nI_dn, nI_dn0, m1_lt, lg_pos, i32_irr, q_shT, ite01, ite00, updL_z, q_upd, Bool.false_eq_true, nI_l2i, jlT_0, jlF_0, jgT_0, jgF_0, jeT_0, jeF_0, jv_0, jc_0, jm_0, jM_0, ja_0, jA_0, jlT_1, jlF_1, jgT_1, jgF_1, jeT_1, jeF_1, jv_1, jc_1, jm_1, jM_1, ja_1, jA_1, jlT_3, jlF_3, jgT_3, jgF_3, jeT_3, jeF_3, jv_3, jc_3, jm_3, jM_3, ja_3, jA_3, ord_0, og0, og4, og5, ou5, c_bc, zup_up, wwG_0, wwG_s, wwV, c1, c2, c3, q1, q2, hsn])
      first | done | exact ih | exact ih _ _ _)
end WAYS

