/-! COSTS: worths of EVENTS, what may come next, what it costs -/
theorem eX1_makeRoom_0 {d : Nat} {S : zS} {Q : zR → Prop} : zW d MX1_makeRoom 0 S Q = zGo d MX1_makeRoom (.aload 0) z0 1 S Q := zW_step (I := .aload_n 0) rfl S Q
theorem eX1_makeRoom_1 {d : Nat} {S : zS} {Q : zR → Prop} : zW d MX1_makeRoom 1 S Q = zGo d MX1_makeRoom (.getfield 9) (zf 3 1 0) 4 S Q := zW_step (I := .getfield 9) rfl S Q
theorem eX1_makeRoom_4 {d : Nat} {S : zS} {Q : zR → Prop} : zW d MX1_makeRoom 4 S Q = zGo d MX1_makeRoom (.arraylength) z0 5 S Q := zW_step (I := .arraylength) rfl S Q
theorem eX1_makeRoom_5 {d : Nat} {S : zS} {Q : zR → Prop} : zW d MX1_makeRoom 5 S Q = zGo d MX1_makeRoom (.aload 1) z0 6 S Q := zW_step (I := .aload_n 1) rfl S Q
theorem eX1_makeRoom_6 {d : Nat} {S : zS} {Q : zR → Prop} : zW d MX1_makeRoom 6 S Q = zGo d MX1_makeRoom (.getfield 30) (zf 0 4 14) 9 S Q := zW_step (I := .getfield 30) rfl S Q
theorem eX1_makeRoom_9 {d : Nat} {S : zS} {Q : zR → Prop} : zW d MX1_makeRoom 9 S Q = zGo d MX1_makeRoom (.if_icmp .gt 15) (zt 24) 12 S Q := zW_step (I := .if_icmp .gt 15) rfl S Q
theorem eX1_makeRoom_12 {d : Nat} {S : zS} {Q : zR → Prop} : zW d MX1_makeRoom 12 S Q = zGo d MX1_makeRoom (.aload 0) z0 13 S Q := zW_step (I := .aload_n 0) rfl S Q
theorem eX1_makeRoom_13 {d : Nat} {S : zS} {Q : zR → Prop} : zW d MX1_makeRoom 13 S Q = zGo d MX1_makeRoom (.aload 1) z0 14 S Q := zW_step (I := .aload_n 1) rfl S Q
theorem eX1_makeRoom_14 {d : Nat} {S : zS} {Q : zR → Prop} : zW d MX1_makeRoom 14 S Q = zGo d MX1_makeRoom (.getfield 30) (zf 0 4 14) 17 S Q := zW_step (I := .getfield 30) rfl S Q
theorem eX1_makeRoom_17 {d : Nat} {S : zS} {Q : zR → Prop} : zW d MX1_makeRoom 17 S Q = zGo d MX1_makeRoom (.iconst 1) (zv (.int 1)) 18 S Q := zW_step (I := .iconst 1) rfl S Q
theorem eX1_makeRoom_18 {d : Nat} {S : zS} {Q : zR → Prop} : zW d MX1_makeRoom 18 S Q = zGo d MX1_makeRoom (.iadd) z0 19 S Q := zW_step (I := .iadd) rfl S Q
theorem eX1_makeRoom_19 {d : Nat} {S : zS} {Q : zR → Prop} : zW d MX1_makeRoom 19 S Q = zGo d MX1_makeRoom (.newarray .int) (zb 0) 21 S Q := zW_step (I := .newarray .int) rfl S Q
theorem eX1_makeRoom_21 {d : Nat} {S : zS} {Q : zR → Prop} : zW d MX1_makeRoom 21 S Q = zGo d MX1_makeRoom (.putfield 9) (zf 3 1 0) 24 S Q := zW_step (I := .putfield 9) rfl S Q
theorem eX1_makeRoom_24 {d : Nat} {S : zS} {Q : zR → Prop} : zW d MX1_makeRoom 24 S Q = zGo d MX1_makeRoom (.return_) z0 25 S Q := zW_step (I := .return_) rfl S Q
theorem rX1_makeRoom : MX1_makeRoom.2.2.2.2.1 = none := rfl
theorem eX1_worthOf_0 {d : Nat} {S : zS} {Q : zR → Prop} : zW d MX1_worthOf 0 S Q = zGo d MX1_worthOf (.aload 0) z0 1 S Q := zW_step (I := .aload_n 0) rfl S Q
theorem eX1_worthOf_1 {d : Nat} {S : zS} {Q : zR → Prop} : zW d MX1_worthOf 1 S Q = zGo d MX1_worthOf (.getfield 18) (zf 3 1 2) 4 S Q := zW_step (I := .getfield 18) rfl S Q
theorem eX1_worthOf_4 {d : Nat} {S : zS} {Q : zR → Prop} : zW d MX1_worthOf 4 S Q = zGo d MX1_worthOf (.iconst 2) (zv (.int 2)) 5 S Q := zW_step (I := .iconst 2) rfl S Q
theorem eX1_worthOf_5 {d : Nat} {S : zS} {Q : zR → Prop} : zW d MX1_worthOf 5 S Q = zGo d MX1_worthOf (.iload 2) z0 6 S Q := zW_step (I := .iload_n 2) rfl S Q
theorem eX1_worthOf_6 {d : Nat} {S : zS} {Q : zR → Prop} : zW d MX1_worthOf 6 S Q = zGo d MX1_worthOf (.iastore) z0 7 S Q := zW_step (I := .iastore) rfl S Q
theorem eX1_worthOf_7 {d : Nat} {S : zS} {Q : zR → Prop} : zW d MX1_worthOf 7 S Q = zGo d MX1_worthOf (.aload 0) z0 8 S Q := zW_step (I := .aload_n 0) rfl S Q
theorem eX1_worthOf_8 {d : Nat} {S : zS} {Q : zR → Prop} : zW d MX1_worthOf 8 S Q = zGo d MX1_worthOf (.getfield 18) (zf 3 1 2) 11 S Q := zW_step (I := .getfield 18) rfl S Q
theorem eX1_worthOf_11 {d : Nat} {S : zS} {Q : zR → Prop} : zW d MX1_worthOf 11 S Q = zGo d MX1_worthOf (.iconst 3) (zv (.int 3)) 12 S Q := zW_step (I := .iconst 3) rfl S Q
theorem eX1_worthOf_12 {d : Nat} {S : zS} {Q : zR → Prop} : zW d MX1_worthOf 12 S Q = zGo d MX1_worthOf (.iload 3) z0 13 S Q := zW_step (I := .iload_n 3) rfl S Q
theorem eX1_worthOf_13 {d : Nat} {S : zS} {Q : zR → Prop} : zW d MX1_worthOf 13 S Q = zGo d MX1_worthOf (.iastore) z0 14 S Q := zW_step (I := .iastore) rfl S Q
theorem eX1_worthOf_14 {d : Nat} {S : zS} {Q : zR → Prop} : zW d MX1_worthOf 14 S Q = zGo d MX1_worthOf (.aload 0) z0 15 S Q := zW_step (I := .aload_n 0) rfl S Q
theorem eX1_worthOf_15 {d : Nat} {S : zS} {Q : zR → Prop} : zW d MX1_worthOf 15 S Q = zGo d MX1_worthOf (.getfield 18) (zf 3 1 2) 18 S Q := zW_step (I := .getfield 18) rfl S Q
theorem eX1_worthOf_18 {d : Nat} {S : zS} {Q : zR → Prop} : zW d MX1_worthOf 18 S Q = zGo d MX1_worthOf (.iconst 4) (zv (.int 4)) 19 S Q := zW_step (I := .iconst 4) rfl S Q
theorem eX1_worthOf_19 {d : Nat} {S : zS} {Q : zR → Prop} : zW d MX1_worthOf 19 S Q = zGo d MX1_worthOf (.iload 4) z0 21 S Q := zW_step (I := .iload 4) rfl S Q
theorem eX1_worthOf_21 {d : Nat} {S : zS} {Q : zR → Prop} : zW d MX1_worthOf 21 S Q = zGo d MX1_worthOf (.iastore) z0 22 S Q := zW_step (I := .iastore) rfl S Q
theorem eX1_worthOf_22 {d : Nat} {S : zS} {Q : zR → Prop} : zW d MX1_worthOf 22 S Q = zGo d MX1_worthOf (.aload 0) z0 23 S Q := zW_step (I := .aload_n 0) rfl S Q
theorem eX1_worthOf_23 {d : Nat} {S : zS} {Q : zR → Prop} : zW d MX1_worthOf 23 S Q = zGo d MX1_worthOf (.getfield 18) (zf 3 1 2) 26 S Q := zW_step (I := .getfield 18) rfl S Q
theorem eX1_worthOf_26 {d : Nat} {S : zS} {Q : zR → Prop} : zW d MX1_worthOf 26 S Q = zGo d MX1_worthOf (.iconst 5) (zv (.int 5)) 27 S Q := zW_step (I := .iconst 5) rfl S Q
theorem eX1_worthOf_27 {d : Nat} {S : zS} {Q : zR → Prop} : zW d MX1_worthOf 27 S Q = zGo d MX1_worthOf (.iload 3) z0 28 S Q := zW_step (I := .iload_n 3) rfl S Q
theorem eX1_worthOf_28 {d : Nat} {S : zS} {Q : zR → Prop} : zW d MX1_worthOf 28 S Q = zGo d MX1_worthOf (.iconst 2) (zv (.int 2)) 29 S Q := zW_step (I := .iconst 2) rfl S Q
theorem eX1_worthOf_29 {d : Nat} {S : zS} {Q : zR → Prop} : zW d MX1_worthOf 29 S Q = zGo d MX1_worthOf (.iload 4) z0 31 S Q := zW_step (I := .iload 4) rfl S Q
theorem eX1_worthOf_31 {d : Nat} {S : zS} {Q : zR → Prop} : zW d MX1_worthOf 31 S Q = zGo d MX1_worthOf (.imul) z0 32 S Q := zW_step (I := .imul) rfl S Q
theorem eX1_worthOf_32 {d : Nat} {S : zS} {Q : zR → Prop} : zW d MX1_worthOf 32 S Q = zGo d MX1_worthOf (.iadd) z0 33 S Q := zW_step (I := .iadd) rfl S Q
theorem eX1_worthOf_33 {d : Nat} {S : zS} {Q : zR → Prop} : zW d MX1_worthOf 33 S Q = zGo d MX1_worthOf (.iastore) z0 34 S Q := zW_step (I := .iastore) rfl S Q
theorem eX1_worthOf_34 {d : Nat} {S : zS} {Q : zR → Prop} : zW d MX1_worthOf 34 S Q = zGo d MX1_worthOf (.aload 1) z0 35 S Q := zW_step (I := .aload_n 1) rfl S Q
theorem eX1_worthOf_35 {d : Nat} {S : zS} {Q : zR → Prop} : zW d MX1_worthOf 35 S Q = zGo d MX1_worthOf (.aload 0) z0 36 S Q := zW_step (I := .aload_n 0) rfl S Q
theorem eX1_worthOf_36 {d : Nat} {S : zS} {Q : zR → Prop} : zW d MX1_worthOf 36 S Q = zGo d MX1_worthOf (.getfield 18) (zf 3 1 2) 39 S Q := zW_step (I := .getfield 18) rfl S Q
theorem eX1_worthOf_39 {d : Nat} {S : zS} {Q : zR → Prop} : zW d MX1_worthOf 39 S Q = zGo d MX1_worthOf (.invokevirtual 81) (zc 91 2 7) 42 S Q := zW_step (I := .invokevirtual 81) rfl S Q
theorem eX1_worthOf_42 {d : Nat} {S : zS} {Q : zR → Prop} : zW d MX1_worthOf 42 S Q = zGo d MX1_worthOf (.ireturn) z0 43 S Q := zW_step (I := .ireturn) rfl S Q
theorem rX1_worthOf : MX1_worthOf.2.2.2.2.1 = some .int := rfl
theorem eX1_worthAt_0 {d : Nat} {S : zS} {Q : zR → Prop} : zW d MX1_worthAt 0 S Q = zGo d MX1_worthAt (.iload 0) z0 1 S Q := zW_step (I := .iload_n 0) rfl S Q
theorem eX1_worthAt_1 {d : Nat} {S : zS} {Q : zR → Prop} : zW d MX1_worthAt 1 S Q = zGo d MX1_worthAt (.sipush 128) (zv (.int 128)) 4 S Q := zW_step (I := .sipush 128) rfl S Q
theorem eX1_worthAt_4 {d : Nat} {S : zS} {Q : zR → Prop} : zW d MX1_worthAt 4 S Q = zGo d MX1_worthAt (.imul) z0 5 S Q := zW_step (I := .imul) rfl S Q
theorem eX1_worthAt_5 {d : Nat} {S : zS} {Q : zR → Prop} : zW d MX1_worthAt 5 S Q = zGo d MX1_worthAt (.iload 1) z0 6 S Q := zW_step (I := .iload_n 1) rfl S Q
theorem eX1_worthAt_6 {d : Nat} {S : zS} {Q : zR → Prop} : zW d MX1_worthAt 6 S Q = zGo d MX1_worthAt (.bipush 64) (zv (.int 64)) 8 S Q := zW_step (I := .bipush 64) rfl S Q
theorem eX1_worthAt_8 {d : Nat} {S : zS} {Q : zR → Prop} : zW d MX1_worthAt 8 S Q = zGo d MX1_worthAt (.imul) z0 9 S Q := zW_step (I := .imul) rfl S Q
theorem eX1_worthAt_9 {d : Nat} {S : zS} {Q : zR → Prop} : zW d MX1_worthAt 9 S Q = zGo d MX1_worthAt (.iadd) z0 10 S Q := zW_step (I := .iadd) rfl S Q
theorem eX1_worthAt_10 {d : Nat} {S : zS} {Q : zR → Prop} : zW d MX1_worthAt 10 S Q = zGo d MX1_worthAt (.iload 2) z0 11 S Q := zW_step (I := .iload_n 2) rfl S Q
theorem eX1_worthAt_11 {d : Nat} {S : zS} {Q : zR → Prop} : zW d MX1_worthAt 11 S Q = zGo d MX1_worthAt (.bipush 8) (zv (.int 8)) 13 S Q := zW_step (I := .bipush 8) rfl S Q
theorem eX1_worthAt_13 {d : Nat} {S : zS} {Q : zR → Prop} : zW d MX1_worthAt 13 S Q = zGo d MX1_worthAt (.imul) z0 14 S Q := zW_step (I := .imul) rfl S Q
theorem eX1_worthAt_14 {d : Nat} {S : zS} {Q : zR → Prop} : zW d MX1_worthAt 14 S Q = zGo d MX1_worthAt (.iadd) z0 15 S Q := zW_step (I := .iadd) rfl S Q
theorem eX1_worthAt_15 {d : Nat} {S : zS} {Q : zR → Prop} : zW d MX1_worthAt 15 S Q = zGo d MX1_worthAt (.iload 3) z0 16 S Q := zW_step (I := .iload_n 3) rfl S Q
theorem eX1_worthAt_16 {d : Nat} {S : zS} {Q : zR → Prop} : zW d MX1_worthAt 16 S Q = zGo d MX1_worthAt (.iadd) z0 17 S Q := zW_step (I := .iadd) rfl S Q
theorem eX1_worthAt_17 {d : Nat} {S : zS} {Q : zR → Prop} : zW d MX1_worthAt 17 S Q = zGo d MX1_worthAt (.ireturn) z0 18 S Q := zW_step (I := .ireturn) rfl S Q
theorem rX1_worthAt : MX1_worthAt.2.2.2.2.1 = some .int := rfl
theorem eX1_eventsAt_0 {d : Nat} {S : zS} {Q : zR → Prop} : zW d MX1_eventsAt 0 S Q = zGo d MX1_eventsAt (.aload 0) z0 1 S Q := zW_step (I := .aload_n 0) rfl S Q
theorem eX1_eventsAt_1 {d : Nat} {S : zS} {Q : zR → Prop} : zW d MX1_eventsAt 1 S Q = zGo d MX1_eventsAt (.getfield 36) (zf 2 1 6) 4 S Q := zW_step (I := .getfield 36) rfl S Q
theorem eX1_eventsAt_4 {d : Nat} {S : zS} {Q : zR → Prop} : zW d MX1_eventsAt 4 S Q = zGo d MX1_eventsAt (.ifCond .ne 10) (zt 14) 7 S Q := zW_step (I := .ifCond .ne 10) rfl S Q
theorem eX1_eventsAt_7 {d : Nat} {S : zS} {Q : zR → Prop} : zW d MX1_eventsAt 7 S Q = zGo d MX1_eventsAt (.aload 1) z0 8 S Q := zW_step (I := .aload_n 1) rfl S Q
theorem eX1_eventsAt_8 {d : Nat} {S : zS} {Q : zR → Prop} : zW d MX1_eventsAt 8 S Q = zGo d MX1_eventsAt (.getfield 86) (zf 3 4 2) 11 S Q := zW_step (I := .getfield 86) rfl S Q
theorem eX1_eventsAt_11 {d : Nat} {S : zS} {Q : zR → Prop} : zW d MX1_eventsAt 11 S Q = zGo d MX1_eventsAt (.iload 2) z0 12 S Q := zW_step (I := .iload_n 2) rfl S Q
theorem eX1_eventsAt_12 {d : Nat} {S : zS} {Q : zR → Prop} : zW d MX1_eventsAt 12 S Q = zGo d MX1_eventsAt (.iaload) z0 13 S Q := zW_step (I := .iaload) rfl S Q
theorem eX1_eventsAt_13 {d : Nat} {S : zS} {Q : zR → Prop} : zW d MX1_eventsAt 13 S Q = zGo d MX1_eventsAt (.ireturn) z0 14 S Q := zW_step (I := .ireturn) rfl S Q
theorem eX1_eventsAt_14 {d : Nat} {S : zS} {Q : zR → Prop} : zW d MX1_eventsAt 14 S Q = zGo d MX1_eventsAt (.aload 1) z0 15 S Q := zW_step (I := .aload_n 1) rfl S Q
theorem eX1_eventsAt_15 {d : Nat} {S : zS} {Q : zR → Prop} : zW d MX1_eventsAt 15 S Q = zGo d MX1_eventsAt (.getfield 89) (zf 3 4 0) 18 S Q := zW_step (I := .getfield 89) rfl S Q
theorem eX1_eventsAt_18 {d : Nat} {S : zS} {Q : zR → Prop} : zW d MX1_eventsAt 18 S Q = zGo d MX1_eventsAt (.iload 2) z0 19 S Q := zW_step (I := .iload_n 2) rfl S Q
theorem eX1_eventsAt_19 {d : Nat} {S : zS} {Q : zR → Prop} : zW d MX1_eventsAt 19 S Q = zGo d MX1_eventsAt (.iaload) z0 20 S Q := zW_step (I := .iaload) rfl S Q
theorem eX1_eventsAt_20 {d : Nat} {S : zS} {Q : zR → Prop} : zW d MX1_eventsAt 20 S Q = zGo d MX1_eventsAt (.istore 3) z0 21 S Q := zW_step (I := .istore_n 3) rfl S Q
theorem eX1_eventsAt_21 {d : Nat} {S : zS} {Q : zR → Prop} : zW d MX1_eventsAt 21 S Q = zGo d MX1_eventsAt (.iload 3) z0 22 S Q := zW_step (I := .iload_n 3) rfl S Q
theorem eX1_eventsAt_22 {d : Nat} {S : zS} {Q : zR → Prop} : zW d MX1_eventsAt 22 S Q = zGo d MX1_eventsAt (.istore 4) z0 24 S Q := zW_step (I := .istore 4) rfl S Q
theorem eX1_eventsAt_24 {d : Nat} {S : zS} {Q : zR → Prop} : zW d MX1_eventsAt 24 S Q = zGo d MX1_eventsAt (.iconst 0) (zv (.int 0)) 25 S Q := zW_step (I := .iconst 0) rfl S Q
theorem eX1_eventsAt_25 {d : Nat} {S : zS} {Q : zR → Prop} : zW d MX1_eventsAt 25 S Q = zGo d MX1_eventsAt (.istore 5) z0 27 S Q := zW_step (I := .istore 5) rfl S Q
theorem eX1_eventsAt_27 {d : Nat} {S : zS} {Q : zR → Prop} : zW d MX1_eventsAt 27 S Q = zGo d MX1_eventsAt (.iload 5) z0 29 S Q := zW_step (I := .iload 5) rfl S Q
theorem eX1_eventsAt_29 {d : Nat} {S : zS} {Q : zR → Prop} : zW d MX1_eventsAt 29 S Q = zGo d MX1_eventsAt (.aload 1) z0 30 S Q := zW_step (I := .aload_n 1) rfl S Q
theorem eX1_eventsAt_30 {d : Nat} {S : zS} {Q : zR → Prop} : zW d MX1_eventsAt 30 S Q = zGo d MX1_eventsAt (.getfield 92) (zf 0 4 13) 33 S Q := zW_step (I := .getfield 92) rfl S Q
theorem eX1_eventsAt_33 {d : Nat} {S : zS} {Q : zR → Prop} : zW d MX1_eventsAt 33 S Q = zGo d MX1_eventsAt (.if_icmp .ge 48) (zt 81) 36 S Q := zW_step (I := .if_icmp .ge 48) rfl S Q
theorem eX1_eventsAt_36 {d : Nat} {S : zS} {Q : zR → Prop} : zW d MX1_eventsAt 36 S Q = zGo d MX1_eventsAt (.iconst 1) (zv (.int 1)) 37 S Q := zW_step (I := .iconst 1) rfl S Q
theorem eX1_eventsAt_37 {d : Nat} {S : zS} {Q : zR → Prop} : zW d MX1_eventsAt 37 S Q = zGo d MX1_eventsAt (.iload 5) z0 39 S Q := zW_step (I := .iload 5) rfl S Q
theorem eX1_eventsAt_39 {d : Nat} {S : zS} {Q : zR → Prop} : zW d MX1_eventsAt 39 S Q = zGo d MX1_eventsAt (.ishl) z0 40 S Q := zW_step (I := .ishl) rfl S Q
theorem eX1_eventsAt_40 {d : Nat} {S : zS} {Q : zR → Prop} : zW d MX1_eventsAt 40 S Q = zGo d MX1_eventsAt (.istore 6) z0 42 S Q := zW_step (I := .istore 6) rfl S Q
theorem eX1_eventsAt_42 {d : Nat} {S : zS} {Q : zR → Prop} : zW d MX1_eventsAt 42 S Q = zGo d MX1_eventsAt (.iload 3) z0 43 S Q := zW_step (I := .iload_n 3) rfl S Q
theorem eX1_eventsAt_43 {d : Nat} {S : zS} {Q : zR → Prop} : zW d MX1_eventsAt 43 S Q = zGo d MX1_eventsAt (.aload 1) z0 44 S Q := zW_step (I := .aload_n 1) rfl S Q
theorem eX1_eventsAt_44 {d : Nat} {S : zS} {Q : zR → Prop} : zW d MX1_eventsAt 44 S Q = zGo d MX1_eventsAt (.getfield 93) (zf 3 4 1) 47 S Q := zW_step (I := .getfield 93) rfl S Q
theorem eX1_eventsAt_47 {d : Nat} {S : zS} {Q : zR → Prop} : zW d MX1_eventsAt 47 S Q = zGo d MX1_eventsAt (.iload 2) z0 48 S Q := zW_step (I := .iload_n 2) rfl S Q
theorem eX1_eventsAt_48 {d : Nat} {S : zS} {Q : zR → Prop} : zW d MX1_eventsAt 48 S Q = zGo d MX1_eventsAt (.iaload) z0 49 S Q := zW_step (I := .iaload) rfl S Q
theorem eX1_eventsAt_49 {d : Nat} {S : zS} {Q : zR → Prop} : zW d MX1_eventsAt 49 S Q = zGo d MX1_eventsAt (.ior) z0 50 S Q := zW_step (I := .ior) rfl S Q
theorem eX1_eventsAt_50 {d : Nat} {S : zS} {Q : zR → Prop} : zW d MX1_eventsAt 50 S Q = zGo d MX1_eventsAt (.iload 6) z0 52 S Q := zW_step (I := .iload 6) rfl S Q
theorem eX1_eventsAt_52 {d : Nat} {S : zS} {Q : zR → Prop} : zW d MX1_eventsAt 52 S Q = zGo d MX1_eventsAt (.iand) z0 53 S Q := zW_step (I := .iand) rfl S Q
theorem eX1_eventsAt_53 {d : Nat} {S : zS} {Q : zR → Prop} : zW d MX1_eventsAt 53 S Q = zGo d MX1_eventsAt (.ifCond .ne 22) (zt 75) 56 S Q := zW_step (I := .ifCond .ne 22) rfl S Q
theorem eX1_eventsAt_56 {d : Nat} {S : zS} {Q : zR → Prop} : zW d MX1_eventsAt 56 S Q = zGo d MX1_eventsAt (.aload 0) z0 57 S Q := zW_step (I := .aload_n 0) rfl S Q
theorem eX1_eventsAt_57 {d : Nat} {S : zS} {Q : zR → Prop} : zW d MX1_eventsAt 57 S Q = zGo d MX1_eventsAt (.getfield 21) (zf 3 1 3) 60 S Q := zW_step (I := .getfield 21) rfl S Q
theorem eX1_eventsAt_60 {d : Nat} {S : zS} {Q : zR → Prop} : zW d MX1_eventsAt 60 S Q = zGo d MX1_eventsAt (.iload 5) z0 62 S Q := zW_step (I := .iload 5) rfl S Q
theorem eX1_eventsAt_62 {d : Nat} {S : zS} {Q : zR → Prop} : zW d MX1_eventsAt 62 S Q = zGo d MX1_eventsAt (.iaload) z0 63 S Q := zW_step (I := .iaload) rfl S Q
theorem eX1_eventsAt_63 {d : Nat} {S : zS} {Q : zR → Prop} : zW d MX1_eventsAt 63 S Q = zGo d MX1_eventsAt (.iload 3) z0 64 S Q := zW_step (I := .iload_n 3) rfl S Q
theorem eX1_eventsAt_64 {d : Nat} {S : zS} {Q : zR → Prop} : zW d MX1_eventsAt 64 S Q = zGo d MX1_eventsAt (.iand) z0 65 S Q := zW_step (I := .iand) rfl S Q
theorem eX1_eventsAt_65 {d : Nat} {S : zS} {Q : zR → Prop} : zW d MX1_eventsAt 65 S Q = zGo d MX1_eventsAt (.ifCond .ne 10) (zt 75) 68 S Q := zW_step (I := .ifCond .ne 10) rfl S Q
theorem eX1_eventsAt_68 {d : Nat} {S : zS} {Q : zR → Prop} : zW d MX1_eventsAt 68 S Q = zGo d MX1_eventsAt (.iload 4) z0 70 S Q := zW_step (I := .iload 4) rfl S Q
theorem eX1_eventsAt_70 {d : Nat} {S : zS} {Q : zR → Prop} : zW d MX1_eventsAt 70 S Q = zGo d MX1_eventsAt (.iload 6) z0 72 S Q := zW_step (I := .iload 6) rfl S Q
theorem eX1_eventsAt_72 {d : Nat} {S : zS} {Q : zR → Prop} : zW d MX1_eventsAt 72 S Q = zGo d MX1_eventsAt (.ior) z0 73 S Q := zW_step (I := .ior) rfl S Q
theorem eX1_eventsAt_73 {d : Nat} {S : zS} {Q : zR → Prop} : zW d MX1_eventsAt 73 S Q = zGo d MX1_eventsAt (.istore 4) z0 75 S Q := zW_step (I := .istore 4) rfl S Q
theorem eX1_eventsAt_75 {d : Nat} {S : zS} {Q : zR → Prop} : zW d MX1_eventsAt 75 S Q = zGo d MX1_eventsAt (.iinc 5 1) (zv (.int 1)) 78 S Q := zW_step (I := .iinc 5 1) rfl S Q
theorem eX1_eventsAt_78 {d : Nat} {S : zS} {Q : zR → Prop} : zW d MX1_eventsAt 78 S Q = zGo d MX1_eventsAt (.goto (-51)) (zt 27) 81 S Q := zW_step (I := .goto (-51)) rfl S Q
theorem eX1_eventsAt_81 {d : Nat} {S : zS} {Q : zR → Prop} : zW d MX1_eventsAt 81 S Q = zGo d MX1_eventsAt (.iload 4) z0 83 S Q := zW_step (I := .iload 4) rfl S Q
theorem eX1_eventsAt_83 {d : Nat} {S : zS} {Q : zR → Prop} : zW d MX1_eventsAt 83 S Q = zGo d MX1_eventsAt (.ireturn) z0 84 S Q := zW_step (I := .ireturn) rfl S Q
theorem rX1_eventsAt : MX1_eventsAt.2.2.2.2.1 = some .int := rfl
theorem eX1_price_0 {d : Nat} {S : zS} {Q : zR → Prop} : zW d MX1_price 0 S Q = zGo d MX1_price (.aload 1) z0 1 S Q := zW_step (I := .aload_n 1) rfl S Q
theorem eX1_price_1 {d : Nat} {S : zS} {Q : zR → Prop} : zW d MX1_price 1 S Q = zGo d MX1_price (.getfield 89) (zf 3 4 0) 4 S Q := zW_step (I := .getfield 89) rfl S Q
theorem eX1_price_4 {d : Nat} {S : zS} {Q : zR → Prop} : zW d MX1_price 4 S Q = zGo d MX1_price (.iload 2) z0 5 S Q := zW_step (I := .iload_n 2) rfl S Q
theorem eX1_price_5 {d : Nat} {S : zS} {Q : zR → Prop} : zW d MX1_price 5 S Q = zGo d MX1_price (.iaload) z0 6 S Q := zW_step (I := .iaload) rfl S Q
theorem eX1_price_6 {d : Nat} {S : zS} {Q : zR → Prop} : zW d MX1_price 6 S Q = zGo d MX1_price (.istore 4) z0 8 S Q := zW_step (I := .istore 4) rfl S Q
theorem eX1_price_8 {d : Nat} {S : zS} {Q : zR → Prop} : zW d MX1_price 8 S Q = zGo d MX1_price (.aload 1) z0 9 S Q := zW_step (I := .aload_n 1) rfl S Q
theorem eX1_price_9 {d : Nat} {S : zS} {Q : zR → Prop} : zW d MX1_price 9 S Q = zGo d MX1_price (.getfield 93) (zf 3 4 1) 12 S Q := zW_step (I := .getfield 93) rfl S Q
theorem eX1_price_12 {d : Nat} {S : zS} {Q : zR → Prop} : zW d MX1_price 12 S Q = zGo d MX1_price (.iload 2) z0 13 S Q := zW_step (I := .iload_n 2) rfl S Q
theorem eX1_price_13 {d : Nat} {S : zS} {Q : zR → Prop} : zW d MX1_price 13 S Q = zGo d MX1_price (.iaload) z0 14 S Q := zW_step (I := .iaload) rfl S Q
theorem eX1_price_14 {d : Nat} {S : zS} {Q : zR → Prop} : zW d MX1_price 14 S Q = zGo d MX1_price (.istore 5) z0 16 S Q := zW_step (I := .istore 5) rfl S Q
theorem eX1_price_16 {d : Nat} {S : zS} {Q : zR → Prop} : zW d MX1_price 16 S Q = zGo d MX1_price (.iconst 1) (zv (.int 1)) 17 S Q := zW_step (I := .iconst 1) rfl S Q
theorem eX1_price_17 {d : Nat} {S : zS} {Q : zR → Prop} : zW d MX1_price 17 S Q = zGo d MX1_price (.iload 4) z0 19 S Q := zW_step (I := .iload 4) rfl S Q
theorem eX1_price_19 {d : Nat} {S : zS} {Q : zR → Prop} : zW d MX1_price 19 S Q = zGo d MX1_price (.iload 3) z0 20 S Q := zW_step (I := .iload_n 3) rfl S Q
theorem eX1_price_20 {d : Nat} {S : zS} {Q : zR → Prop} : zW d MX1_price 20 S Q = zGo d MX1_price (.ishr) z0 21 S Q := zW_step (I := .ishr) rfl S Q
theorem eX1_price_21 {d : Nat} {S : zS} {Q : zR → Prop} : zW d MX1_price 21 S Q = zGo d MX1_price (.iconst 1) (zv (.int 1)) 22 S Q := zW_step (I := .iconst 1) rfl S Q
theorem eX1_price_22 {d : Nat} {S : zS} {Q : zR → Prop} : zW d MX1_price 22 S Q = zGo d MX1_price (.iand) z0 23 S Q := zW_step (I := .iand) rfl S Q
theorem eX1_price_23 {d : Nat} {S : zS} {Q : zR → Prop} : zW d MX1_price 23 S Q = zGo d MX1_price (.isub) z0 24 S Q := zW_step (I := .isub) rfl S Q
theorem eX1_price_24 {d : Nat} {S : zS} {Q : zR → Prop} : zW d MX1_price 24 S Q = zGo d MX1_price (.istore 6) z0 26 S Q := zW_step (I := .istore 6) rfl S Q
theorem eX1_price_26 {d : Nat} {S : zS} {Q : zR → Prop} : zW d MX1_price 26 S Q = zGo d MX1_price (.aload 0) z0 27 S Q := zW_step (I := .aload_n 0) rfl S Q
theorem eX1_price_27 {d : Nat} {S : zS} {Q : zR → Prop} : zW d MX1_price 27 S Q = zGo d MX1_price (.getfield 36) (zf 2 1 6) 30 S Q := zW_step (I := .getfield 36) rfl S Q
theorem eX1_price_30 {d : Nat} {S : zS} {Q : zR → Prop} : zW d MX1_price 30 S Q = zGo d MX1_price (.ifCond .ne 25) (zt 55) 33 S Q := zW_step (I := .ifCond .ne 25) rfl S Q
theorem eX1_price_33 {d : Nat} {S : zS} {Q : zR → Prop} : zW d MX1_price 33 S Q = zGo d MX1_price (.aload 0) z0 34 S Q := zW_step (I := .aload_n 0) rfl S Q
theorem eX1_price_34 {d : Nat} {S : zS} {Q : zR → Prop} : zW d MX1_price 34 S Q = zGo d MX1_price (.getfield 15) (zf 3 1 1) 37 S Q := zW_step (I := .getfield 15) rfl S Q
theorem eX1_price_37 {d : Nat} {S : zS} {Q : zR → Prop} : zW d MX1_price 37 S Q = zGo d MX1_price (.iload 3) z0 38 S Q := zW_step (I := .iload_n 3) rfl S Q
theorem eX1_price_38 {d : Nat} {S : zS} {Q : zR → Prop} : zW d MX1_price 38 S Q = zGo d MX1_price (.iload 6) z0 40 S Q := zW_step (I := .iload 6) rfl S Q
theorem eX1_price_40 {d : Nat} {S : zS} {Q : zR → Prop} : zW d MX1_price 40 S Q = zGo d MX1_price (.iload 4) z0 42 S Q := zW_step (I := .iload 4) rfl S Q
theorem eX1_price_42 {d : Nat} {S : zS} {Q : zR → Prop} : zW d MX1_price 42 S Q = zGo d MX1_price (.invokestatic 68) (zc 292 1 0) 45 S Q := zW_step (I := .invokestatic 68) rfl S Q
theorem eX1_price_45 {d : Nat} {S : zS} {Q : zR → Prop} : zW d MX1_price 45 S Q = zGo d MX1_price (.iload 5) z0 47 S Q := zW_step (I := .iload 5) rfl S Q
theorem eX1_price_47 {d : Nat} {S : zS} {Q : zR → Prop} : zW d MX1_price 47 S Q = zGo d MX1_price (.invokestatic 68) (zc 292 1 0) 50 S Q := zW_step (I := .invokestatic 68) rfl S Q
theorem eX1_price_50 {d : Nat} {S : zS} {Q : zR → Prop} : zW d MX1_price 50 S Q = zGo d MX1_price (.invokestatic 73) (zc 23 4 0) 53 S Q := zW_step (I := .invokestatic 73) rfl S Q
theorem eX1_price_53 {d : Nat} {S : zS} {Q : zR → Prop} : zW d MX1_price 53 S Q = zGo d MX1_price (.iaload) z0 54 S Q := zW_step (I := .iaload) rfl S Q
theorem eX1_price_54 {d : Nat} {S : zS} {Q : zR → Prop} : zW d MX1_price 54 S Q = zGo d MX1_price (.ireturn) z0 55 S Q := zW_step (I := .ireturn) rfl S Q
theorem eX1_price_55 {d : Nat} {S : zS} {Q : zR → Prop} : zW d MX1_price 55 S Q = zGo d MX1_price (.iload 6) z0 57 S Q := zW_step (I := .iload 6) rfl S Q
theorem eX1_price_57 {d : Nat} {S : zS} {Q : zR → Prop} : zW d MX1_price 57 S Q = zGo d MX1_price (.aload 0) z0 58 S Q := zW_step (I := .aload_n 0) rfl S Q
theorem eX1_price_58 {d : Nat} {S : zS} {Q : zR → Prop} : zW d MX1_price 58 S Q = zGo d MX1_price (.getfield 24) (zf 3 1 4) 61 S Q := zW_step (I := .getfield 24) rfl S Q
theorem eX1_price_61 {d : Nat} {S : zS} {Q : zR → Prop} : zW d MX1_price 61 S Q = zGo d MX1_price (.iload 3) z0 62 S Q := zW_step (I := .iload_n 3) rfl S Q
theorem eX1_price_62 {d : Nat} {S : zS} {Q : zR → Prop} : zW d MX1_price 62 S Q = zGo d MX1_price (.iaload) z0 63 S Q := zW_step (I := .iaload) rfl S Q
theorem eX1_price_63 {d : Nat} {S : zS} {Q : zR → Prop} : zW d MX1_price 63 S Q = zGo d MX1_price (.iload 4) z0 65 S Q := zW_step (I := .iload 4) rfl S Q
theorem eX1_price_65 {d : Nat} {S : zS} {Q : zR → Prop} : zW d MX1_price 65 S Q = zGo d MX1_price (.iand) z0 66 S Q := zW_step (I := .iand) rfl S Q
theorem eX1_price_66 {d : Nat} {S : zS} {Q : zR → Prop} : zW d MX1_price 66 S Q = zGo d MX1_price (.aload 0) z0 67 S Q := zW_step (I := .aload_n 0) rfl S Q
theorem eX1_price_67 {d : Nat} {S : zS} {Q : zR → Prop} : zW d MX1_price 67 S Q = zGo d MX1_price (.getfield 27) (zf 3 1 5) 70 S Q := zW_step (I := .getfield 27) rfl S Q
theorem eX1_price_70 {d : Nat} {S : zS} {Q : zR → Prop} : zW d MX1_price 70 S Q = zGo d MX1_price (.iload 3) z0 71 S Q := zW_step (I := .iload_n 3) rfl S Q
theorem eX1_price_71 {d : Nat} {S : zS} {Q : zR → Prop} : zW d MX1_price 71 S Q = zGo d MX1_price (.iaload) z0 72 S Q := zW_step (I := .iaload) rfl S Q
theorem eX1_price_72 {d : Nat} {S : zS} {Q : zR → Prop} : zW d MX1_price 72 S Q = zGo d MX1_price (.iload 5) z0 74 S Q := zW_step (I := .iload 5) rfl S Q
theorem eX1_price_74 {d : Nat} {S : zS} {Q : zR → Prop} : zW d MX1_price 74 S Q = zGo d MX1_price (.iand) z0 75 S Q := zW_step (I := .iand) rfl S Q
theorem eX1_price_75 {d : Nat} {S : zS} {Q : zR → Prop} : zW d MX1_price 75 S Q = zGo d MX1_price (.ior) z0 76 S Q := zW_step (I := .ior) rfl S Q
theorem eX1_price_76 {d : Nat} {S : zS} {Q : zR → Prop} : zW d MX1_price 76 S Q = zGo d MX1_price (.invokestatic 68) (zc 292 1 0) 79 S Q := zW_step (I := .invokestatic 68) rfl S Q
theorem eX1_price_79 {d : Nat} {S : zS} {Q : zR → Prop} : zW d MX1_price 79 S Q = zGo d MX1_price (.imul) z0 80 S Q := zW_step (I := .imul) rfl S Q
theorem eX1_price_80 {d : Nat} {S : zS} {Q : zR → Prop} : zW d MX1_price 80 S Q = zGo d MX1_price (.ireturn) z0 81 S Q := zW_step (I := .ireturn) rfl S Q
theorem rX1_price : MX1_price.2.2.2.2.1 = some .int := rfl
theorem eX1_findLeast_0 {d : Nat} {S : zS} {Q : zR → Prop} : zW d MX1_findLeast 0 S Q = zGo d MX1_findLeast (.aload 0) z0 1 S Q := zW_step (I := .aload_n 0) rfl S Q
theorem eX1_findLeast_1 {d : Nat} {S : zS} {Q : zR → Prop} : zW d MX1_findLeast 1 S Q = zGo d MX1_findLeast (.getfield 9) (zf 3 1 0) 4 S Q := zW_step (I := .getfield 9) rfl S Q
theorem eX1_findLeast_4 {d : Nat} {S : zS} {Q : zR → Prop} : zW d MX1_findLeast 4 S Q = zGo d MX1_findLeast (.aload 1) z0 5 S Q := zW_step (I := .aload_n 1) rfl S Q
theorem eX1_findLeast_5 {d : Nat} {S : zS} {Q : zR → Prop} : zW d MX1_findLeast 5 S Q = zGo d MX1_findLeast (.getfield 30) (zf 0 4 14) 8 S Q := zW_step (I := .getfield 30) rfl S Q
theorem eX1_findLeast_8 {d : Nat} {S : zS} {Q : zR → Prop} : zW d MX1_findLeast 8 S Q = zGo d MX1_findLeast (.iconst 0) (zv (.int 0)) 9 S Q := zW_step (I := .iconst 0) rfl S Q
theorem eX1_findLeast_9 {d : Nat} {S : zS} {Q : zR → Prop} : zW d MX1_findLeast 9 S Q = zGo d MX1_findLeast (.iastore) z0 10 S Q := zW_step (I := .iastore) rfl S Q
theorem eX1_findLeast_10 {d : Nat} {S : zS} {Q : zR → Prop} : zW d MX1_findLeast 10 S Q = zGo d MX1_findLeast (.aload 1) z0 11 S Q := zW_step (I := .aload_n 1) rfl S Q
theorem eX1_findLeast_11 {d : Nat} {S : zS} {Q : zR → Prop} : zW d MX1_findLeast 11 S Q = zGo d MX1_findLeast (.getfield 30) (zf 0 4 14) 14 S Q := zW_step (I := .getfield 30) rfl S Q
theorem eX1_findLeast_14 {d : Nat} {S : zS} {Q : zR → Prop} : zW d MX1_findLeast 14 S Q = zGo d MX1_findLeast (.iconst 1) (zv (.int 1)) 15 S Q := zW_step (I := .iconst 1) rfl S Q
theorem eX1_findLeast_15 {d : Nat} {S : zS} {Q : zR → Prop} : zW d MX1_findLeast 15 S Q = zGo d MX1_findLeast (.isub) z0 16 S Q := zW_step (I := .isub) rfl S Q
theorem eX1_findLeast_16 {d : Nat} {S : zS} {Q : zR → Prop} : zW d MX1_findLeast 16 S Q = zGo d MX1_findLeast (.istore 2) z0 17 S Q := zW_step (I := .istore_n 2) rfl S Q
theorem eX1_findLeast_17 {d : Nat} {S : zS} {Q : zR → Prop} : zW d MX1_findLeast 17 S Q = zGo d MX1_findLeast (.iload 2) z0 18 S Q := zW_step (I := .iload_n 2) rfl S Q
theorem eX1_findLeast_18 {d : Nat} {S : zS} {Q : zR → Prop} : zW d MX1_findLeast 18 S Q = zGo d MX1_findLeast (.ifCond .lt 101) (zt 119) 21 S Q := zW_step (I := .ifCond .lt 101) rfl S Q
theorem eX1_findLeast_21 {d : Nat} {S : zS} {Q : zR → Prop} : zW d MX1_findLeast 21 S Q = zGo d MX1_findLeast (.aload 0) z0 22 S Q := zW_step (I := .aload_n 0) rfl S Q
theorem eX1_findLeast_22 {d : Nat} {S : zS} {Q : zR → Prop} : zW d MX1_findLeast 22 S Q = zGo d MX1_findLeast (.aload 1) z0 23 S Q := zW_step (I := .aload_n 1) rfl S Q
theorem eX1_findLeast_23 {d : Nat} {S : zS} {Q : zR → Prop} : zW d MX1_findLeast 23 S Q = zGo d MX1_findLeast (.iload 2) z0 24 S Q := zW_step (I := .iload_n 2) rfl S Q
theorem eX1_findLeast_24 {d : Nat} {S : zS} {Q : zR → Prop} : zW d MX1_findLeast 24 S Q = zGo d MX1_findLeast (.invokevirtual 96) (zc 24 3 1) 27 S Q := zW_step (I := .invokevirtual 96) rfl S Q
theorem eX1_findLeast_27 {d : Nat} {S : zS} {Q : zR → Prop} : zW d MX1_findLeast 27 S Q = zGo d MX1_findLeast (.istore 3) z0 28 S Q := zW_step (I := .istore_n 3) rfl S Q
theorem eX1_findLeast_28 {d : Nat} {S : zS} {Q : zR → Prop} : zW d MX1_findLeast 28 S Q = zGo d MX1_findLeast (.iconst 0) (zv (.int 0)) 29 S Q := zW_step (I := .iconst 0) rfl S Q
theorem eX1_findLeast_29 {d : Nat} {S : zS} {Q : zR → Prop} : zW d MX1_findLeast 29 S Q = zGo d MX1_findLeast (.istore 4) z0 31 S Q := zW_step (I := .istore 4) rfl S Q
theorem eX1_findLeast_31 {d : Nat} {S : zS} {Q : zR → Prop} : zW d MX1_findLeast 31 S Q = zGo d MX1_findLeast (.iconst 0) (zv (.int 0)) 32 S Q := zW_step (I := .iconst 0) rfl S Q
theorem eX1_findLeast_32 {d : Nat} {S : zS} {Q : zR → Prop} : zW d MX1_findLeast 32 S Q = zGo d MX1_findLeast (.istore 5) z0 34 S Q := zW_step (I := .istore 5) rfl S Q
theorem eX1_findLeast_34 {d : Nat} {S : zS} {Q : zR → Prop} : zW d MX1_findLeast 34 S Q = zGo d MX1_findLeast (.iconst 0) (zv (.int 0)) 35 S Q := zW_step (I := .iconst 0) rfl S Q
theorem eX1_findLeast_35 {d : Nat} {S : zS} {Q : zR → Prop} : zW d MX1_findLeast 35 S Q = zGo d MX1_findLeast (.istore 6) z0 37 S Q := zW_step (I := .istore 6) rfl S Q
theorem eX1_findLeast_37 {d : Nat} {S : zS} {Q : zR → Prop} : zW d MX1_findLeast 37 S Q = zGo d MX1_findLeast (.iload 6) z0 39 S Q := zW_step (I := .iload 6) rfl S Q
theorem eX1_findLeast_39 {d : Nat} {S : zS} {Q : zR → Prop} : zW d MX1_findLeast 39 S Q = zGo d MX1_findLeast (.aload 1) z0 40 S Q := zW_step (I := .aload_n 1) rfl S Q
theorem eX1_findLeast_40 {d : Nat} {S : zS} {Q : zR → Prop} : zW d MX1_findLeast 40 S Q = zGo d MX1_findLeast (.getfield 92) (zf 0 4 13) 43 S Q := zW_step (I := .getfield 92) rfl S Q
theorem eX1_findLeast_43 {d : Nat} {S : zS} {Q : zR → Prop} : zW d MX1_findLeast 43 S Q = zGo d MX1_findLeast (.if_icmp .ge 62) (zt 105) 46 S Q := zW_step (I := .if_icmp .ge 62) rfl S Q
theorem eX1_findLeast_46 {d : Nat} {S : zS} {Q : zR → Prop} : zW d MX1_findLeast 46 S Q = zGo d MX1_findLeast (.iload 3) z0 47 S Q := zW_step (I := .iload_n 3) rfl S Q
theorem eX1_findLeast_47 {d : Nat} {S : zS} {Q : zR → Prop} : zW d MX1_findLeast 47 S Q = zGo d MX1_findLeast (.iload 6) z0 49 S Q := zW_step (I := .iload 6) rfl S Q
theorem eX1_findLeast_49 {d : Nat} {S : zS} {Q : zR → Prop} : zW d MX1_findLeast 49 S Q = zGo d MX1_findLeast (.ishr) z0 50 S Q := zW_step (I := .ishr) rfl S Q
theorem eX1_findLeast_50 {d : Nat} {S : zS} {Q : zR → Prop} : zW d MX1_findLeast 50 S Q = zGo d MX1_findLeast (.iconst 1) (zv (.int 1)) 51 S Q := zW_step (I := .iconst 1) rfl S Q
theorem eX1_findLeast_51 {d : Nat} {S : zS} {Q : zR → Prop} : zW d MX1_findLeast 51 S Q = zGo d MX1_findLeast (.iand) z0 52 S Q := zW_step (I := .iand) rfl S Q
theorem eX1_findLeast_52 {d : Nat} {S : zS} {Q : zR → Prop} : zW d MX1_findLeast 52 S Q = zGo d MX1_findLeast (.iconst 1) (zv (.int 1)) 53 S Q := zW_step (I := .iconst 1) rfl S Q
theorem eX1_findLeast_53 {d : Nat} {S : zS} {Q : zR → Prop} : zW d MX1_findLeast 53 S Q = zGo d MX1_findLeast (.if_icmp .ne 46) (zt 99) 56 S Q := zW_step (I := .if_icmp .ne 46) rfl S Q
theorem eX1_findLeast_56 {d : Nat} {S : zS} {Q : zR → Prop} : zW d MX1_findLeast 56 S Q = zGo d MX1_findLeast (.aload 0) z0 57 S Q := zW_step (I := .aload_n 0) rfl S Q
theorem eX1_findLeast_57 {d : Nat} {S : zS} {Q : zR → Prop} : zW d MX1_findLeast 57 S Q = zGo d MX1_findLeast (.aload 1) z0 58 S Q := zW_step (I := .aload_n 1) rfl S Q
theorem eX1_findLeast_58 {d : Nat} {S : zS} {Q : zR → Prop} : zW d MX1_findLeast 58 S Q = zGo d MX1_findLeast (.iload 2) z0 59 S Q := zW_step (I := .iload_n 2) rfl S Q
theorem eX1_findLeast_59 {d : Nat} {S : zS} {Q : zR → Prop} : zW d MX1_findLeast 59 S Q = zGo d MX1_findLeast (.iload 6) z0 61 S Q := zW_step (I := .iload 6) rfl S Q
theorem eX1_findLeast_61 {d : Nat} {S : zS} {Q : zR → Prop} : zW d MX1_findLeast 61 S Q = zGo d MX1_findLeast (.invokevirtual 100) (zc 25 4 1) 64 S Q := zW_step (I := .invokevirtual 100) rfl S Q
theorem eX1_findLeast_64 {d : Nat} {S : zS} {Q : zR → Prop} : zW d MX1_findLeast 64 S Q = zGo d MX1_findLeast (.aload 0) z0 65 S Q := zW_step (I := .aload_n 0) rfl S Q
theorem eX1_findLeast_65 {d : Nat} {S : zS} {Q : zR → Prop} : zW d MX1_findLeast 65 S Q = zGo d MX1_findLeast (.getfield 9) (zf 3 1 0) 68 S Q := zW_step (I := .getfield 9) rfl S Q
theorem eX1_findLeast_68 {d : Nat} {S : zS} {Q : zR → Prop} : zW d MX1_findLeast 68 S Q = zGo d MX1_findLeast (.iload 2) z0 69 S Q := zW_step (I := .iload_n 2) rfl S Q
theorem eX1_findLeast_69 {d : Nat} {S : zS} {Q : zR → Prop} : zW d MX1_findLeast 69 S Q = zGo d MX1_findLeast (.getstatic 104) (zv (.ref 1000)) 72 S Q := zW_step (I := .getstatic 104) rfl S Q
theorem eX1_findLeast_72 {d : Nat} {S : zS} {Q : zR → Prop} : zW d MX1_findLeast 72 S Q = zGo d MX1_findLeast (.iload 6) z0 74 S Q := zW_step (I := .iload 6) rfl S Q
theorem eX1_findLeast_74 {d : Nat} {S : zS} {Q : zR → Prop} : zW d MX1_findLeast 74 S Q = zGo d MX1_findLeast (.iaload) z0 75 S Q := zW_step (I := .iaload) rfl S Q
theorem eX1_findLeast_75 {d : Nat} {S : zS} {Q : zR → Prop} : zW d MX1_findLeast 75 S Q = zGo d MX1_findLeast (.iadd) z0 76 S Q := zW_step (I := .iadd) rfl S Q
theorem eX1_findLeast_76 {d : Nat} {S : zS} {Q : zR → Prop} : zW d MX1_findLeast 76 S Q = zGo d MX1_findLeast (.iaload) z0 77 S Q := zW_step (I := .iaload) rfl S Q
theorem eX1_findLeast_77 {d : Nat} {S : zS} {Q : zR → Prop} : zW d MX1_findLeast 77 S Q = zGo d MX1_findLeast (.iadd) z0 78 S Q := zW_step (I := .iadd) rfl S Q
theorem eX1_findLeast_78 {d : Nat} {S : zS} {Q : zR → Prop} : zW d MX1_findLeast 78 S Q = zGo d MX1_findLeast (.istore 7) z0 80 S Q := zW_step (I := .istore 7) rfl S Q
theorem eX1_findLeast_80 {d : Nat} {S : zS} {Q : zR → Prop} : zW d MX1_findLeast 80 S Q = zGo d MX1_findLeast (.iload 5) z0 82 S Q := zW_step (I := .iload 5) rfl S Q
theorem eX1_findLeast_82 {d : Nat} {S : zS} {Q : zR → Prop} : zW d MX1_findLeast 82 S Q = zGo d MX1_findLeast (.ifCond .eq 10) (zt 92) 85 S Q := zW_step (I := .ifCond .eq 10) rfl S Q
theorem eX1_findLeast_85 {d : Nat} {S : zS} {Q : zR → Prop} : zW d MX1_findLeast 85 S Q = zGo d MX1_findLeast (.iload 7) z0 87 S Q := zW_step (I := .iload 7) rfl S Q
theorem eX1_findLeast_87 {d : Nat} {S : zS} {Q : zR → Prop} : zW d MX1_findLeast 87 S Q = zGo d MX1_findLeast (.iload 4) z0 89 S Q := zW_step (I := .iload 4) rfl S Q
theorem eX1_findLeast_89 {d : Nat} {S : zS} {Q : zR → Prop} : zW d MX1_findLeast 89 S Q = zGo d MX1_findLeast (.if_icmp .ge 10) (zt 99) 92 S Q := zW_step (I := .if_icmp .ge 10) rfl S Q
theorem eX1_findLeast_92 {d : Nat} {S : zS} {Q : zR → Prop} : zW d MX1_findLeast 92 S Q = zGo d MX1_findLeast (.iload 7) z0 94 S Q := zW_step (I := .iload 7) rfl S Q
theorem eX1_findLeast_94 {d : Nat} {S : zS} {Q : zR → Prop} : zW d MX1_findLeast 94 S Q = zGo d MX1_findLeast (.istore 4) z0 96 S Q := zW_step (I := .istore 4) rfl S Q
theorem eX1_findLeast_96 {d : Nat} {S : zS} {Q : zR → Prop} : zW d MX1_findLeast 96 S Q = zGo d MX1_findLeast (.iconst 1) (zv (.int 1)) 97 S Q := zW_step (I := .iconst 1) rfl S Q
theorem eX1_findLeast_97 {d : Nat} {S : zS} {Q : zR → Prop} : zW d MX1_findLeast 97 S Q = zGo d MX1_findLeast (.istore 5) z0 99 S Q := zW_step (I := .istore 5) rfl S Q
theorem eX1_findLeast_99 {d : Nat} {S : zS} {Q : zR → Prop} : zW d MX1_findLeast 99 S Q = zGo d MX1_findLeast (.iinc 6 1) (zv (.int 1)) 102 S Q := zW_step (I := .iinc 6 1) rfl S Q
theorem eX1_findLeast_102 {d : Nat} {S : zS} {Q : zR → Prop} : zW d MX1_findLeast 102 S Q = zGo d MX1_findLeast (.goto (-65)) (zt 37) 105 S Q := zW_step (I := .goto (-65)) rfl S Q
theorem eX1_findLeast_105 {d : Nat} {S : zS} {Q : zR → Prop} : zW d MX1_findLeast 105 S Q = zGo d MX1_findLeast (.aload 0) z0 106 S Q := zW_step (I := .aload_n 0) rfl S Q
theorem eX1_findLeast_106 {d : Nat} {S : zS} {Q : zR → Prop} : zW d MX1_findLeast 106 S Q = zGo d MX1_findLeast (.getfield 9) (zf 3 1 0) 109 S Q := zW_step (I := .getfield 9) rfl S Q
theorem eX1_findLeast_109 {d : Nat} {S : zS} {Q : zR → Prop} : zW d MX1_findLeast 109 S Q = zGo d MX1_findLeast (.iload 2) z0 110 S Q := zW_step (I := .iload_n 2) rfl S Q
theorem eX1_findLeast_110 {d : Nat} {S : zS} {Q : zR → Prop} : zW d MX1_findLeast 110 S Q = zGo d MX1_findLeast (.iload 4) z0 112 S Q := zW_step (I := .iload 4) rfl S Q
theorem eX1_findLeast_112 {d : Nat} {S : zS} {Q : zR → Prop} : zW d MX1_findLeast 112 S Q = zGo d MX1_findLeast (.iastore) z0 113 S Q := zW_step (I := .iastore) rfl S Q
theorem eX1_findLeast_113 {d : Nat} {S : zS} {Q : zR → Prop} : zW d MX1_findLeast 113 S Q = zGo d MX1_findLeast (.iinc 2 (-1)) (zv (.int (-1))) 116 S Q := zW_step (I := .iinc 2 (-1)) rfl S Q
theorem eX1_findLeast_116 {d : Nat} {S : zS} {Q : zR → Prop} : zW d MX1_findLeast 116 S Q = zGo d MX1_findLeast (.goto (-99)) (zt 17) 119 S Q := zW_step (I := .goto (-99)) rfl S Q
theorem eX1_findLeast_119 {d : Nat} {S : zS} {Q : zR → Prop} : zW d MX1_findLeast 119 S Q = zGo d MX1_findLeast (.return_) z0 120 S Q := zW_step (I := .return_) rfl S Q
theorem rX1_findLeast : MX1_findLeast.2.2.2.2.1 = none := rfl
theorem eX1_findWorths_0 {d : Nat} {S : zS} {Q : zR → Prop} : zW d MX1_findWorths 0 S Q = zGo d MX1_findWorths (.iconst 0) (zv (.int 0)) 1 S Q := zW_step (I := .iconst 0) rfl S Q
theorem eX1_findWorths_1 {d : Nat} {S : zS} {Q : zR → Prop} : zW d MX1_findWorths 1 S Q = zGo d MX1_findWorths (.istore 3) z0 2 S Q := zW_step (I := .istore_n 3) rfl S Q
theorem eX1_findWorths_2 {d : Nat} {S : zS} {Q : zR → Prop} : zW d MX1_findWorths 2 S Q = zGo d MX1_findWorths (.iload 3) z0 3 S Q := zW_step (I := .iload_n 3) rfl S Q
theorem eX1_findWorths_3 {d : Nat} {S : zS} {Q : zR → Prop} : zW d MX1_findWorths 3 S Q = zGo d MX1_findWorths (.aload 1) z0 4 S Q := zW_step (I := .aload_n 1) rfl S Q
theorem eX1_findWorths_4 {d : Nat} {S : zS} {Q : zR → Prop} : zW d MX1_findWorths 4 S Q = zGo d MX1_findWorths (.getfield 51) (zf 0 9 3) 7 S Q := zW_step (I := .getfield 51) rfl S Q
theorem eX1_findWorths_7 {d : Nat} {S : zS} {Q : zR → Prop} : zW d MX1_findWorths 7 S Q = zGo d MX1_findWorths (.if_icmp .ge 135) (zt 142) 10 S Q := zW_step (I := .if_icmp .ge 135) rfl S Q
theorem eX1_findWorths_10 {d : Nat} {S : zS} {Q : zR → Prop} : zW d MX1_findWorths 10 S Q = zGo d MX1_findWorths (.aload 0) z0 11 S Q := zW_step (I := .aload_n 0) rfl S Q
theorem eX1_findWorths_11 {d : Nat} {S : zS} {Q : zR → Prop} : zW d MX1_findWorths 11 S Q = zGo d MX1_findWorths (.getfield 18) (zf 3 1 2) 14 S Q := zW_step (I := .getfield 18) rfl S Q
theorem eX1_findWorths_14 {d : Nat} {S : zS} {Q : zR → Prop} : zW d MX1_findWorths 14 S Q = zGo d MX1_findWorths (.iconst 0) (zv (.int 0)) 15 S Q := zW_step (I := .iconst 0) rfl S Q
theorem eX1_findWorths_15 {d : Nat} {S : zS} {Q : zR → Prop} : zW d MX1_findWorths 15 S Q = zGo d MX1_findWorths (.iload 3) z0 16 S Q := zW_step (I := .iload_n 3) rfl S Q
theorem eX1_findWorths_16 {d : Nat} {S : zS} {Q : zR → Prop} : zW d MX1_findWorths 16 S Q = zGo d MX1_findWorths (.iastore) z0 17 S Q := zW_step (I := .iastore) rfl S Q
theorem eX1_findWorths_17 {d : Nat} {S : zS} {Q : zR → Prop} : zW d MX1_findWorths 17 S Q = zGo d MX1_findWorths (.aload 0) z0 18 S Q := zW_step (I := .aload_n 0) rfl S Q
theorem eX1_findWorths_18 {d : Nat} {S : zS} {Q : zR → Prop} : zW d MX1_findWorths 18 S Q = zGo d MX1_findWorths (.getfield 18) (zf 3 1 2) 21 S Q := zW_step (I := .getfield 18) rfl S Q
theorem eX1_findWorths_21 {d : Nat} {S : zS} {Q : zR → Prop} : zW d MX1_findWorths 21 S Q = zGo d MX1_findWorths (.iconst 1) (zv (.int 1)) 22 S Q := zW_step (I := .iconst 1) rfl S Q
theorem eX1_findWorths_22 {d : Nat} {S : zS} {Q : zR → Prop} : zW d MX1_findWorths 22 S Q = zGo d MX1_findWorths (.aload 1) z0 23 S Q := zW_step (I := .aload_n 1) rfl S Q
theorem eX1_findWorths_23 {d : Nat} {S : zS} {Q : zR → Prop} : zW d MX1_findWorths 23 S Q = zGo d MX1_findWorths (.getfield 65) (zf 3 9 0) 26 S Q := zW_step (I := .getfield 65) rfl S Q
theorem eX1_findWorths_26 {d : Nat} {S : zS} {Q : zR → Prop} : zW d MX1_findWorths 26 S Q = zGo d MX1_findWorths (.iload 3) z0 27 S Q := zW_step (I := .iload_n 3) rfl S Q
theorem eX1_findWorths_27 {d : Nat} {S : zS} {Q : zR → Prop} : zW d MX1_findWorths 27 S Q = zGo d MX1_findWorths (.iaload) z0 28 S Q := zW_step (I := .iaload) rfl S Q
theorem eX1_findWorths_28 {d : Nat} {S : zS} {Q : zR → Prop} : zW d MX1_findWorths 28 S Q = zGo d MX1_findWorths (.iastore) z0 29 S Q := zW_step (I := .iastore) rfl S Q
theorem eX1_findWorths_29 {d : Nat} {S : zS} {Q : zR → Prop} : zW d MX1_findWorths 29 S Q = zGo d MX1_findWorths (.aload 0) z0 30 S Q := zW_step (I := .aload_n 0) rfl S Q
theorem eX1_findWorths_30 {d : Nat} {S : zS} {Q : zR → Prop} : zW d MX1_findWorths 30 S Q = zGo d MX1_findWorths (.getfield 18) (zf 3 1 2) 33 S Q := zW_step (I := .getfield 18) rfl S Q
theorem eX1_findWorths_33 {d : Nat} {S : zS} {Q : zR → Prop} : zW d MX1_findWorths 33 S Q = zGo d MX1_findWorths (.bipush 6) (zv (.int 6)) 35 S Q := zW_step (I := .bipush 6) rfl S Q
theorem eX1_findWorths_35 {d : Nat} {S : zS} {Q : zR → Prop} : zW d MX1_findWorths 35 S Q = zGo d MX1_findWorths (.aload 1) z0 36 S Q := zW_step (I := .aload_n 1) rfl S Q
theorem eX1_findWorths_36 {d : Nat} {S : zS} {Q : zR → Prop} : zW d MX1_findWorths 36 S Q = zGo d MX1_findWorths (.getfield 62) (zf 3 9 1) 39 S Q := zW_step (I := .getfield 62) rfl S Q
theorem eX1_findWorths_39 {d : Nat} {S : zS} {Q : zR → Prop} : zW d MX1_findWorths 39 S Q = zGo d MX1_findWorths (.iload 3) z0 40 S Q := zW_step (I := .iload_n 3) rfl S Q
theorem eX1_findWorths_40 {d : Nat} {S : zS} {Q : zR → Prop} : zW d MX1_findWorths 40 S Q = zGo d MX1_findWorths (.iaload) z0 41 S Q := zW_step (I := .iaload) rfl S Q
theorem eX1_findWorths_41 {d : Nat} {S : zS} {Q : zR → Prop} : zW d MX1_findWorths 41 S Q = zGo d MX1_findWorths (.invokestatic 68) (zc 292 1 0) 44 S Q := zW_step (I := .invokestatic 68) rfl S Q
theorem eX1_findWorths_44 {d : Nat} {S : zS} {Q : zR → Prop} : zW d MX1_findWorths 44 S Q = zGo d MX1_findWorths (.iastore) z0 45 S Q := zW_step (I := .iastore) rfl S Q
theorem eX1_findWorths_45 {d : Nat} {S : zS} {Q : zR → Prop} : zW d MX1_findWorths 45 S Q = zGo d MX1_findWorths (.iconst 0) (zv (.int 0)) 46 S Q := zW_step (I := .iconst 0) rfl S Q
theorem eX1_findWorths_46 {d : Nat} {S : zS} {Q : zR → Prop} : zW d MX1_findWorths 46 S Q = zGo d MX1_findWorths (.istore 4) z0 48 S Q := zW_step (I := .istore 4) rfl S Q
theorem eX1_findWorths_48 {d : Nat} {S : zS} {Q : zR → Prop} : zW d MX1_findWorths 48 S Q = zGo d MX1_findWorths (.iload 4) z0 50 S Q := zW_step (I := .iload 4) rfl S Q
theorem eX1_findWorths_50 {d : Nat} {S : zS} {Q : zR → Prop} : zW d MX1_findWorths 50 S Q = zGo d MX1_findWorths (.aload 1) z0 51 S Q := zW_step (I := .aload_n 1) rfl S Q
theorem eX1_findWorths_51 {d : Nat} {S : zS} {Q : zR → Prop} : zW d MX1_findWorths 51 S Q = zGo d MX1_findWorths (.getfield 51) (zf 0 9 3) 54 S Q := zW_step (I := .getfield 51) rfl S Q
theorem eX1_findWorths_54 {d : Nat} {S : zS} {Q : zR → Prop} : zW d MX1_findWorths 54 S Q = zGo d MX1_findWorths (.if_icmp .ge 82) (zt 136) 57 S Q := zW_step (I := .if_icmp .ge 82) rfl S Q
theorem eX1_findWorths_57 {d : Nat} {S : zS} {Q : zR → Prop} : zW d MX1_findWorths 57 S Q = zGo d MX1_findWorths (.iconst 0) (zv (.int 0)) 58 S Q := zW_step (I := .iconst 0) rfl S Q
theorem eX1_findWorths_58 {d : Nat} {S : zS} {Q : zR → Prop} : zW d MX1_findWorths 58 S Q = zGo d MX1_findWorths (.istore 5) z0 60 S Q := zW_step (I := .istore 5) rfl S Q
theorem eX1_findWorths_60 {d : Nat} {S : zS} {Q : zR → Prop} : zW d MX1_findWorths 60 S Q = zGo d MX1_findWorths (.iload 5) z0 62 S Q := zW_step (I := .iload 5) rfl S Q
theorem eX1_findWorths_62 {d : Nat} {S : zS} {Q : zR → Prop} : zW d MX1_findWorths 62 S Q = zGo d MX1_findWorths (.iload 4) z0 64 S Q := zW_step (I := .iload 4) rfl S Q
theorem eX1_findWorths_64 {d : Nat} {S : zS} {Q : zR → Prop} : zW d MX1_findWorths 64 S Q = zGo d MX1_findWorths (.iadd) z0 65 S Q := zW_step (I := .iadd) rfl S Q
theorem eX1_findWorths_65 {d : Nat} {S : zS} {Q : zR → Prop} : zW d MX1_findWorths 65 S Q = zGo d MX1_findWorths (.aload 1) z0 66 S Q := zW_step (I := .aload_n 1) rfl S Q
theorem eX1_findWorths_66 {d : Nat} {S : zS} {Q : zR → Prop} : zW d MX1_findWorths 66 S Q = zGo d MX1_findWorths (.getfield 51) (zf 0 9 3) 69 S Q := zW_step (I := .getfield 51) rfl S Q
theorem eX1_findWorths_69 {d : Nat} {S : zS} {Q : zR → Prop} : zW d MX1_findWorths 69 S Q = zGo d MX1_findWorths (.if_icmp .ge 61) (zt 130) 72 S Q := zW_step (I := .if_icmp .ge 61) rfl S Q
theorem eX1_findWorths_72 {d : Nat} {S : zS} {Q : zR → Prop} : zW d MX1_findWorths 72 S Q = zGo d MX1_findWorths (.aload 0) z0 73 S Q := zW_step (I := .aload_n 0) rfl S Q
theorem eX1_findWorths_73 {d : Nat} {S : zS} {Q : zR → Prop} : zW d MX1_findWorths 73 S Q = zGo d MX1_findWorths (.getfield 15) (zf 3 1 1) 76 S Q := zW_step (I := .getfield 15) rfl S Q
theorem eX1_findWorths_76 {d : Nat} {S : zS} {Q : zR → Prop} : zW d MX1_findWorths 76 S Q = zGo d MX1_findWorths (.iload 3) z0 77 S Q := zW_step (I := .iload_n 3) rfl S Q
theorem eX1_findWorths_77 {d : Nat} {S : zS} {Q : zR → Prop} : zW d MX1_findWorths 77 S Q = zGo d MX1_findWorths (.iconst 1) (zv (.int 1)) 78 S Q := zW_step (I := .iconst 1) rfl S Q
theorem eX1_findWorths_78 {d : Nat} {S : zS} {Q : zR → Prop} : zW d MX1_findWorths 78 S Q = zGo d MX1_findWorths (.iload 4) z0 80 S Q := zW_step (I := .iload 4) rfl S Q
theorem eX1_findWorths_80 {d : Nat} {S : zS} {Q : zR → Prop} : zW d MX1_findWorths 80 S Q = zGo d MX1_findWorths (.iload 5) z0 82 S Q := zW_step (I := .iload 5) rfl S Q
theorem eX1_findWorths_82 {d : Nat} {S : zS} {Q : zR → Prop} : zW d MX1_findWorths 82 S Q = zGo d MX1_findWorths (.invokestatic 73) (zc 23 4 0) 85 S Q := zW_step (I := .invokestatic 73) rfl S Q
theorem eX1_findWorths_85 {d : Nat} {S : zS} {Q : zR → Prop} : zW d MX1_findWorths 85 S Q = zGo d MX1_findWorths (.aload 0) z0 86 S Q := zW_step (I := .aload_n 0) rfl S Q
theorem eX1_findWorths_86 {d : Nat} {S : zS} {Q : zR → Prop} : zW d MX1_findWorths 86 S Q = zGo d MX1_findWorths (.aload 2) z0 87 S Q := zW_step (I := .aload_n 2) rfl S Q
theorem eX1_findWorths_87 {d : Nat} {S : zS} {Q : zR → Prop} : zW d MX1_findWorths 87 S Q = zGo d MX1_findWorths (.iconst 1) (zv (.int 1)) 88 S Q := zW_step (I := .iconst 1) rfl S Q
theorem eX1_findWorths_88 {d : Nat} {S : zS} {Q : zR → Prop} : zW d MX1_findWorths 88 S Q = zGo d MX1_findWorths (.iload 4) z0 90 S Q := zW_step (I := .iload 4) rfl S Q
theorem eX1_findWorths_90 {d : Nat} {S : zS} {Q : zR → Prop} : zW d MX1_findWorths 90 S Q = zGo d MX1_findWorths (.iload 5) z0 92 S Q := zW_step (I := .iload 5) rfl S Q
theorem eX1_findWorths_92 {d : Nat} {S : zS} {Q : zR → Prop} : zW d MX1_findWorths 92 S Q = zGo d MX1_findWorths (.invokevirtual 77) (zc 22 5 1) 95 S Q := zW_step (I := .invokevirtual 77) rfl S Q
theorem eX1_findWorths_95 {d : Nat} {S : zS} {Q : zR → Prop} : zW d MX1_findWorths 95 S Q = zGo d MX1_findWorths (.iastore) z0 96 S Q := zW_step (I := .iastore) rfl S Q
theorem eX1_findWorths_96 {d : Nat} {S : zS} {Q : zR → Prop} : zW d MX1_findWorths 96 S Q = zGo d MX1_findWorths (.aload 0) z0 97 S Q := zW_step (I := .aload_n 0) rfl S Q
theorem eX1_findWorths_97 {d : Nat} {S : zS} {Q : zR → Prop} : zW d MX1_findWorths 97 S Q = zGo d MX1_findWorths (.getfield 15) (zf 3 1 1) 100 S Q := zW_step (I := .getfield 15) rfl S Q
theorem eX1_findWorths_100 {d : Nat} {S : zS} {Q : zR → Prop} : zW d MX1_findWorths 100 S Q = zGo d MX1_findWorths (.iload 3) z0 101 S Q := zW_step (I := .iload_n 3) rfl S Q
theorem eX1_findWorths_101 {d : Nat} {S : zS} {Q : zR → Prop} : zW d MX1_findWorths 101 S Q = zGo d MX1_findWorths (.iconst 0) (zv (.int 0)) 102 S Q := zW_step (I := .iconst 0) rfl S Q
theorem eX1_findWorths_102 {d : Nat} {S : zS} {Q : zR → Prop} : zW d MX1_findWorths 102 S Q = zGo d MX1_findWorths (.iload 4) z0 104 S Q := zW_step (I := .iload 4) rfl S Q
theorem eX1_findWorths_104 {d : Nat} {S : zS} {Q : zR → Prop} : zW d MX1_findWorths 104 S Q = zGo d MX1_findWorths (.iconst 1) (zv (.int 1)) 105 S Q := zW_step (I := .iconst 1) rfl S Q
theorem eX1_findWorths_105 {d : Nat} {S : zS} {Q : zR → Prop} : zW d MX1_findWorths 105 S Q = zGo d MX1_findWorths (.iadd) z0 106 S Q := zW_step (I := .iadd) rfl S Q
theorem eX1_findWorths_106 {d : Nat} {S : zS} {Q : zR → Prop} : zW d MX1_findWorths 106 S Q = zGo d MX1_findWorths (.iload 5) z0 108 S Q := zW_step (I := .iload 5) rfl S Q
theorem eX1_findWorths_108 {d : Nat} {S : zS} {Q : zR → Prop} : zW d MX1_findWorths 108 S Q = zGo d MX1_findWorths (.invokestatic 73) (zc 23 4 0) 111 S Q := zW_step (I := .invokestatic 73) rfl S Q
theorem eX1_findWorths_111 {d : Nat} {S : zS} {Q : zR → Prop} : zW d MX1_findWorths 111 S Q = zGo d MX1_findWorths (.aload 0) z0 112 S Q := zW_step (I := .aload_n 0) rfl S Q
theorem eX1_findWorths_112 {d : Nat} {S : zS} {Q : zR → Prop} : zW d MX1_findWorths 112 S Q = zGo d MX1_findWorths (.aload 2) z0 113 S Q := zW_step (I := .aload_n 2) rfl S Q
theorem eX1_findWorths_113 {d : Nat} {S : zS} {Q : zR → Prop} : zW d MX1_findWorths 113 S Q = zGo d MX1_findWorths (.iconst 0) (zv (.int 0)) 114 S Q := zW_step (I := .iconst 0) rfl S Q
theorem eX1_findWorths_114 {d : Nat} {S : zS} {Q : zR → Prop} : zW d MX1_findWorths 114 S Q = zGo d MX1_findWorths (.iload 4) z0 116 S Q := zW_step (I := .iload 4) rfl S Q
theorem eX1_findWorths_116 {d : Nat} {S : zS} {Q : zR → Prop} : zW d MX1_findWorths 116 S Q = zGo d MX1_findWorths (.iconst 1) (zv (.int 1)) 117 S Q := zW_step (I := .iconst 1) rfl S Q
theorem eX1_findWorths_117 {d : Nat} {S : zS} {Q : zR → Prop} : zW d MX1_findWorths 117 S Q = zGo d MX1_findWorths (.iadd) z0 118 S Q := zW_step (I := .iadd) rfl S Q
theorem eX1_findWorths_118 {d : Nat} {S : zS} {Q : zR → Prop} : zW d MX1_findWorths 118 S Q = zGo d MX1_findWorths (.iload 5) z0 120 S Q := zW_step (I := .iload 5) rfl S Q
theorem eX1_findWorths_120 {d : Nat} {S : zS} {Q : zR → Prop} : zW d MX1_findWorths 120 S Q = zGo d MX1_findWorths (.invokevirtual 77) (zc 22 5 1) 123 S Q := zW_step (I := .invokevirtual 77) rfl S Q
theorem eX1_findWorths_123 {d : Nat} {S : zS} {Q : zR → Prop} : zW d MX1_findWorths 123 S Q = zGo d MX1_findWorths (.iastore) z0 124 S Q := zW_step (I := .iastore) rfl S Q
theorem eX1_findWorths_124 {d : Nat} {S : zS} {Q : zR → Prop} : zW d MX1_findWorths 124 S Q = zGo d MX1_findWorths (.iinc 5 1) (zv (.int 1)) 127 S Q := zW_step (I := .iinc 5 1) rfl S Q
theorem eX1_findWorths_127 {d : Nat} {S : zS} {Q : zR → Prop} : zW d MX1_findWorths 127 S Q = zGo d MX1_findWorths (.goto (-67)) (zt 60) 130 S Q := zW_step (I := .goto (-67)) rfl S Q
theorem eX1_findWorths_130 {d : Nat} {S : zS} {Q : zR → Prop} : zW d MX1_findWorths 130 S Q = zGo d MX1_findWorths (.iinc 4 1) (zv (.int 1)) 133 S Q := zW_step (I := .iinc 4 1) rfl S Q
theorem eX1_findWorths_133 {d : Nat} {S : zS} {Q : zR → Prop} : zW d MX1_findWorths 133 S Q = zGo d MX1_findWorths (.goto (-85)) (zt 48) 136 S Q := zW_step (I := .goto (-85)) rfl S Q
theorem eX1_findWorths_136 {d : Nat} {S : zS} {Q : zR → Prop} : zW d MX1_findWorths 136 S Q = zGo d MX1_findWorths (.iinc 3 1) (zv (.int 1)) 139 S Q := zW_step (I := .iinc 3 1) rfl S Q
theorem eX1_findWorths_139 {d : Nat} {S : zS} {Q : zR → Prop} : zW d MX1_findWorths 139 S Q = zGo d MX1_findWorths (.goto (-137)) (zt 2) 142 S Q := zW_step (I := .goto (-137)) rfl S Q
theorem eX1_findWorths_142 {d : Nat} {S : zS} {Q : zR → Prop} : zW d MX1_findWorths 142 S Q = zGo d MX1_findWorths (.return_) z0 143 S Q := zW_step (I := .return_) rfl S Q
theorem rX1_findWorths : MX1_findWorths.2.2.2.2.1 = none := rfl
theorem eX1_fewestLies_0 {d : Nat} {S : zS} {Q : zR → Prop} : zW d MX1_fewestLies 0 S Q = zGo d MX1_fewestLies (.aload 0) z0 1 S Q := zW_step (I := .aload_n 0) rfl S Q
theorem eX1_fewestLies_1 {d : Nat} {S : zS} {Q : zR → Prop} : zW d MX1_fewestLies 1 S Q = zGo d MX1_fewestLies (.iconst 1) (zv (.int 1)) 2 S Q := zW_step (I := .iconst 1) rfl S Q
theorem eX1_fewestLies_2 {d : Nat} {S : zS} {Q : zR → Prop} : zW d MX1_fewestLies 2 S Q = zGo d MX1_fewestLies (.putfield 36) (zf 2 1 6) 5 S Q := zW_step (I := .putfield 36) rfl S Q
theorem eX1_fewestLies_5 {d : Nat} {S : zS} {Q : zR → Prop} : zW d MX1_fewestLies 5 S Q = zGo d MX1_fewestLies (.aload 0) z0 6 S Q := zW_step (I := .aload_n 0) rfl S Q
theorem eX1_fewestLies_6 {d : Nat} {S : zS} {Q : zR → Prop} : zW d MX1_fewestLies 6 S Q = zGo d MX1_fewestLies (.aload 1) z0 7 S Q := zW_step (I := .aload_n 1) rfl S Q
theorem eX1_fewestLies_7 {d : Nat} {S : zS} {Q : zR → Prop} : zW d MX1_fewestLies 7 S Q = zGo d MX1_fewestLies (.invokevirtual 40) (zc 18 2 1) 10 S Q := zW_step (I := .invokevirtual 40) rfl S Q
theorem eX1_fewestLies_10 {d : Nat} {S : zS} {Q : zR → Prop} : zW d MX1_fewestLies 10 S Q = zGo d MX1_fewestLies (.iconst 0) (zv (.int 0)) 11 S Q := zW_step (I := .iconst 0) rfl S Q
theorem eX1_fewestLies_11 {d : Nat} {S : zS} {Q : zR → Prop} : zW d MX1_fewestLies 11 S Q = zGo d MX1_fewestLies (.istore 3) z0 12 S Q := zW_step (I := .istore_n 3) rfl S Q
theorem eX1_fewestLies_12 {d : Nat} {S : zS} {Q : zR → Prop} : zW d MX1_fewestLies 12 S Q = zGo d MX1_fewestLies (.iload 3) z0 13 S Q := zW_step (I := .iload_n 3) rfl S Q
theorem eX1_fewestLies_13 {d : Nat} {S : zS} {Q : zR → Prop} : zW d MX1_fewestLies 13 S Q = zGo d MX1_fewestLies (.aload 2) z0 14 S Q := zW_step (I := .aload_n 2) rfl S Q
theorem eX1_fewestLies_14 {d : Nat} {S : zS} {Q : zR → Prop} : zW d MX1_fewestLies 14 S Q = zGo d MX1_fewestLies (.getfield 51) (zf 0 9 3) 17 S Q := zW_step (I := .getfield 51) rfl S Q
theorem eX1_fewestLies_17 {d : Nat} {S : zS} {Q : zR → Prop} : zW d MX1_fewestLies 17 S Q = zGo d MX1_fewestLies (.if_icmp .ge 44) (zt 61) 20 S Q := zW_step (I := .if_icmp .ge 44) rfl S Q
theorem eX1_fewestLies_20 {d : Nat} {S : zS} {Q : zR → Prop} : zW d MX1_fewestLies 20 S Q = zGo d MX1_fewestLies (.aload 0) z0 21 S Q := zW_step (I := .aload_n 0) rfl S Q
theorem eX1_fewestLies_21 {d : Nat} {S : zS} {Q : zR → Prop} : zW d MX1_fewestLies 21 S Q = zGo d MX1_fewestLies (.getfield 21) (zf 3 1 3) 24 S Q := zW_step (I := .getfield 21) rfl S Q
theorem eX1_fewestLies_24 {d : Nat} {S : zS} {Q : zR → Prop} : zW d MX1_fewestLies 24 S Q = zGo d MX1_fewestLies (.iload 3) z0 25 S Q := zW_step (I := .iload_n 3) rfl S Q
theorem eX1_fewestLies_25 {d : Nat} {S : zS} {Q : zR → Prop} : zW d MX1_fewestLies 25 S Q = zGo d MX1_fewestLies (.aload 2) z0 26 S Q := zW_step (I := .aload_n 2) rfl S Q
theorem eX1_fewestLies_26 {d : Nat} {S : zS} {Q : zR → Prop} : zW d MX1_fewestLies 26 S Q = zGo d MX1_fewestLies (.iload 3) z0 27 S Q := zW_step (I := .iload_n 3) rfl S Q
theorem eX1_fewestLies_27 {d : Nat} {S : zS} {Q : zR → Prop} : zW d MX1_fewestLies 27 S Q = zGo d MX1_fewestLies (.invokevirtual 56) (zc 123 2 9) 30 S Q := zW_step (I := .invokevirtual 56) rfl S Q
theorem eX1_fewestLies_30 {d : Nat} {S : zS} {Q : zR → Prop} : zW d MX1_fewestLies 30 S Q = zGo d MX1_fewestLies (.iastore) z0 31 S Q := zW_step (I := .iastore) rfl S Q
theorem eX1_fewestLies_31 {d : Nat} {S : zS} {Q : zR → Prop} : zW d MX1_fewestLies 31 S Q = zGo d MX1_fewestLies (.aload 0) z0 32 S Q := zW_step (I := .aload_n 0) rfl S Q
theorem eX1_fewestLies_32 {d : Nat} {S : zS} {Q : zR → Prop} : zW d MX1_fewestLies 32 S Q = zGo d MX1_fewestLies (.getfield 24) (zf 3 1 4) 35 S Q := zW_step (I := .getfield 24) rfl S Q
theorem eX1_fewestLies_35 {d : Nat} {S : zS} {Q : zR → Prop} : zW d MX1_fewestLies 35 S Q = zGo d MX1_fewestLies (.iload 3) z0 36 S Q := zW_step (I := .iload_n 3) rfl S Q
theorem eX1_fewestLies_36 {d : Nat} {S : zS} {Q : zR → Prop} : zW d MX1_fewestLies 36 S Q = zGo d MX1_fewestLies (.aload 2) z0 37 S Q := zW_step (I := .aload_n 2) rfl S Q
theorem eX1_fewestLies_37 {d : Nat} {S : zS} {Q : zR → Prop} : zW d MX1_fewestLies 37 S Q = zGo d MX1_fewestLies (.getfield 59) (zf 3 9 2) 40 S Q := zW_step (I := .getfield 59) rfl S Q
theorem eX1_fewestLies_40 {d : Nat} {S : zS} {Q : zR → Prop} : zW d MX1_fewestLies 40 S Q = zGo d MX1_fewestLies (.iload 3) z0 41 S Q := zW_step (I := .iload_n 3) rfl S Q
theorem eX1_fewestLies_41 {d : Nat} {S : zS} {Q : zR → Prop} : zW d MX1_fewestLies 41 S Q = zGo d MX1_fewestLies (.iaload) z0 42 S Q := zW_step (I := .iaload) rfl S Q
theorem eX1_fewestLies_42 {d : Nat} {S : zS} {Q : zR → Prop} : zW d MX1_fewestLies 42 S Q = zGo d MX1_fewestLies (.iastore) z0 43 S Q := zW_step (I := .iastore) rfl S Q
theorem eX1_fewestLies_43 {d : Nat} {S : zS} {Q : zR → Prop} : zW d MX1_fewestLies 43 S Q = zGo d MX1_fewestLies (.aload 0) z0 44 S Q := zW_step (I := .aload_n 0) rfl S Q
theorem eX1_fewestLies_44 {d : Nat} {S : zS} {Q : zR → Prop} : zW d MX1_fewestLies 44 S Q = zGo d MX1_fewestLies (.getfield 27) (zf 3 1 5) 47 S Q := zW_step (I := .getfield 27) rfl S Q
theorem eX1_fewestLies_47 {d : Nat} {S : zS} {Q : zR → Prop} : zW d MX1_fewestLies 47 S Q = zGo d MX1_fewestLies (.iload 3) z0 48 S Q := zW_step (I := .iload_n 3) rfl S Q
theorem eX1_fewestLies_48 {d : Nat} {S : zS} {Q : zR → Prop} : zW d MX1_fewestLies 48 S Q = zGo d MX1_fewestLies (.aload 2) z0 49 S Q := zW_step (I := .aload_n 2) rfl S Q
theorem eX1_fewestLies_49 {d : Nat} {S : zS} {Q : zR → Prop} : zW d MX1_fewestLies 49 S Q = zGo d MX1_fewestLies (.getfield 62) (zf 3 9 1) 52 S Q := zW_step (I := .getfield 62) rfl S Q
theorem eX1_fewestLies_52 {d : Nat} {S : zS} {Q : zR → Prop} : zW d MX1_fewestLies 52 S Q = zGo d MX1_fewestLies (.iload 3) z0 53 S Q := zW_step (I := .iload_n 3) rfl S Q
theorem eX1_fewestLies_53 {d : Nat} {S : zS} {Q : zR → Prop} : zW d MX1_fewestLies 53 S Q = zGo d MX1_fewestLies (.iaload) z0 54 S Q := zW_step (I := .iaload) rfl S Q
theorem eX1_fewestLies_54 {d : Nat} {S : zS} {Q : zR → Prop} : zW d MX1_fewestLies 54 S Q = zGo d MX1_fewestLies (.iastore) z0 55 S Q := zW_step (I := .iastore) rfl S Q
theorem eX1_fewestLies_55 {d : Nat} {S : zS} {Q : zR → Prop} : zW d MX1_fewestLies 55 S Q = zGo d MX1_fewestLies (.iinc 3 1) (zv (.int 1)) 58 S Q := zW_step (I := .iinc 3 1) rfl S Q
theorem eX1_fewestLies_58 {d : Nat} {S : zS} {Q : zR → Prop} : zW d MX1_fewestLies 58 S Q = zGo d MX1_fewestLies (.goto (-46)) (zt 12) 61 S Q := zW_step (I := .goto (-46)) rfl S Q
theorem eX1_fewestLies_61 {d : Nat} {S : zS} {Q : zR → Prop} : zW d MX1_fewestLies 61 S Q = zGo d MX1_fewestLies (.aload 0) z0 62 S Q := zW_step (I := .aload_n 0) rfl S Q
theorem eX1_fewestLies_62 {d : Nat} {S : zS} {Q : zR → Prop} : zW d MX1_fewestLies 62 S Q = zGo d MX1_fewestLies (.aload 1) z0 63 S Q := zW_step (I := .aload_n 1) rfl S Q
theorem eX1_fewestLies_63 {d : Nat} {S : zS} {Q : zR → Prop} : zW d MX1_fewestLies 63 S Q = zGo d MX1_fewestLies (.invokevirtual 48) (zc 26 2 1) 66 S Q := zW_step (I := .invokevirtual 48) rfl S Q
theorem eX1_fewestLies_66 {d : Nat} {S : zS} {Q : zR → Prop} : zW d MX1_fewestLies 66 S Q = zGo d MX1_fewestLies (.aload 0) z0 67 S Q := zW_step (I := .aload_n 0) rfl S Q
theorem eX1_fewestLies_67 {d : Nat} {S : zS} {Q : zR → Prop} : zW d MX1_fewestLies 67 S Q = zGo d MX1_fewestLies (.getfield 9) (zf 3 1 0) 70 S Q := zW_step (I := .getfield 9) rfl S Q
theorem eX1_fewestLies_70 {d : Nat} {S : zS} {Q : zR → Prop} : zW d MX1_fewestLies 70 S Q = zGo d MX1_fewestLies (.iconst 0) (zv (.int 0)) 71 S Q := zW_step (I := .iconst 0) rfl S Q
theorem eX1_fewestLies_71 {d : Nat} {S : zS} {Q : zR → Prop} : zW d MX1_fewestLies 71 S Q = zGo d MX1_fewestLies (.iaload) z0 72 S Q := zW_step (I := .iaload) rfl S Q
theorem eX1_fewestLies_72 {d : Nat} {S : zS} {Q : zR → Prop} : zW d MX1_fewestLies 72 S Q = zGo d MX1_fewestLies (.ireturn) z0 73 S Q := zW_step (I := .ireturn) rfl S Q
theorem rX1_fewestLies : MX1_fewestLies.2.2.2.2.1 = some .int := rfl
theorem eX1_leastWorth_0 {d : Nat} {S : zS} {Q : zR → Prop} : zW d MX1_leastWorth 0 S Q = zGo d MX1_leastWorth (.aload 0) z0 1 S Q := zW_step (I := .aload_n 0) rfl S Q
theorem eX1_leastWorth_1 {d : Nat} {S : zS} {Q : zR → Prop} : zW d MX1_leastWorth 1 S Q = zGo d MX1_leastWorth (.iconst 0) (zv (.int 0)) 2 S Q := zW_step (I := .iconst 0) rfl S Q
theorem eX1_leastWorth_2 {d : Nat} {S : zS} {Q : zR → Prop} : zW d MX1_leastWorth 2 S Q = zGo d MX1_leastWorth (.putfield 36) (zf 2 1 6) 5 S Q := zW_step (I := .putfield 36) rfl S Q
theorem eX1_leastWorth_5 {d : Nat} {S : zS} {Q : zR → Prop} : zW d MX1_leastWorth 5 S Q = zGo d MX1_leastWorth (.aload 0) z0 6 S Q := zW_step (I := .aload_n 0) rfl S Q
theorem eX1_leastWorth_6 {d : Nat} {S : zS} {Q : zR → Prop} : zW d MX1_leastWorth 6 S Q = zGo d MX1_leastWorth (.aload 1) z0 7 S Q := zW_step (I := .aload_n 1) rfl S Q
theorem eX1_leastWorth_7 {d : Nat} {S : zS} {Q : zR → Prop} : zW d MX1_leastWorth 7 S Q = zGo d MX1_leastWorth (.invokevirtual 40) (zc 18 2 1) 10 S Q := zW_step (I := .invokevirtual 40) rfl S Q
theorem eX1_leastWorth_10 {d : Nat} {S : zS} {Q : zR → Prop} : zW d MX1_leastWorth 10 S Q = zGo d MX1_leastWorth (.aload 0) z0 11 S Q := zW_step (I := .aload_n 0) rfl S Q
theorem eX1_leastWorth_11 {d : Nat} {S : zS} {Q : zR → Prop} : zW d MX1_leastWorth 11 S Q = zGo d MX1_leastWorth (.aload 2) z0 12 S Q := zW_step (I := .aload_n 2) rfl S Q
theorem eX1_leastWorth_12 {d : Nat} {S : zS} {Q : zR → Prop} : zW d MX1_leastWorth 12 S Q = zGo d MX1_leastWorth (.aload 3) z0 13 S Q := zW_step (I := .aload_n 3) rfl S Q
theorem eX1_leastWorth_13 {d : Nat} {S : zS} {Q : zR → Prop} : zW d MX1_leastWorth 13 S Q = zGo d MX1_leastWorth (.invokevirtual 44) (zc 21 3 1) 16 S Q := zW_step (I := .invokevirtual 44) rfl S Q
theorem eX1_leastWorth_16 {d : Nat} {S : zS} {Q : zR → Prop} : zW d MX1_leastWorth 16 S Q = zGo d MX1_leastWorth (.aload 0) z0 17 S Q := zW_step (I := .aload_n 0) rfl S Q
theorem eX1_leastWorth_17 {d : Nat} {S : zS} {Q : zR → Prop} : zW d MX1_leastWorth 17 S Q = zGo d MX1_leastWorth (.aload 1) z0 18 S Q := zW_step (I := .aload_n 1) rfl S Q
theorem eX1_leastWorth_18 {d : Nat} {S : zS} {Q : zR → Prop} : zW d MX1_leastWorth 18 S Q = zGo d MX1_leastWorth (.invokevirtual 48) (zc 26 2 1) 21 S Q := zW_step (I := .invokevirtual 48) rfl S Q
theorem eX1_leastWorth_21 {d : Nat} {S : zS} {Q : zR → Prop} : zW d MX1_leastWorth 21 S Q = zGo d MX1_leastWorth (.aload 0) z0 22 S Q := zW_step (I := .aload_n 0) rfl S Q
theorem eX1_leastWorth_22 {d : Nat} {S : zS} {Q : zR → Prop} : zW d MX1_leastWorth 22 S Q = zGo d MX1_leastWorth (.getfield 9) (zf 3 1 0) 25 S Q := zW_step (I := .getfield 9) rfl S Q
theorem eX1_leastWorth_25 {d : Nat} {S : zS} {Q : zR → Prop} : zW d MX1_leastWorth 25 S Q = zGo d MX1_leastWorth (.iconst 0) (zv (.int 0)) 26 S Q := zW_step (I := .iconst 0) rfl S Q
theorem eX1_leastWorth_26 {d : Nat} {S : zS} {Q : zR → Prop} : zW d MX1_leastWorth 26 S Q = zGo d MX1_leastWorth (.iaload) z0 27 S Q := zW_step (I := .iaload) rfl S Q
theorem eX1_leastWorth_27 {d : Nat} {S : zS} {Q : zR → Prop} : zW d MX1_leastWorth 27 S Q = zGo d MX1_leastWorth (.ireturn) z0 28 S Q := zW_step (I := .ireturn) rfl S Q
theorem rX1_leastWorth : MX1_leastWorth.2.2.2.2.1 = some .int := rfl
theorem eX1_tellOrder_0 {d : Nat} {S : zS} {Q : zR → Prop} : zW d MX1_tellOrder 0 S Q = zGo d MX1_tellOrder (.iconst 0) (zv (.int 0)) 1 S Q := zW_step (I := .iconst 0) rfl S Q
theorem eX1_tellOrder_1 {d : Nat} {S : zS} {Q : zR → Prop} : zW d MX1_tellOrder 1 S Q = zGo d MX1_tellOrder (.istore 3) z0 2 S Q := zW_step (I := .istore_n 3) rfl S Q
theorem eX1_tellOrder_2 {d : Nat} {S : zS} {Q : zR → Prop} : zW d MX1_tellOrder 2 S Q = zGo d MX1_tellOrder (.iconst 0) (zv (.int 0)) 3 S Q := zW_step (I := .iconst 0) rfl S Q
theorem eX1_tellOrder_3 {d : Nat} {S : zS} {Q : zR → Prop} : zW d MX1_tellOrder 3 S Q = zGo d MX1_tellOrder (.istore 4) z0 5 S Q := zW_step (I := .istore 4) rfl S Q
theorem eX1_tellOrder_5 {d : Nat} {S : zS} {Q : zR → Prop} : zW d MX1_tellOrder 5 S Q = zGo d MX1_tellOrder (.iload 4) z0 7 S Q := zW_step (I := .iload 4) rfl S Q
theorem eX1_tellOrder_7 {d : Nat} {S : zS} {Q : zR → Prop} : zW d MX1_tellOrder 7 S Q = zGo d MX1_tellOrder (.iconst 2) (zv (.int 2)) 8 S Q := zW_step (I := .iconst 2) rfl S Q
theorem eX1_tellOrder_8 {d : Nat} {S : zS} {Q : zR → Prop} : zW d MX1_tellOrder 8 S Q = zGo d MX1_tellOrder (.aload 1) z0 9 S Q := zW_step (I := .aload_n 1) rfl S Q
theorem eX1_tellOrder_9 {d : Nat} {S : zS} {Q : zR → Prop} : zW d MX1_tellOrder 9 S Q = zGo d MX1_tellOrder (.getfield 92) (zf 0 4 13) 12 S Q := zW_step (I := .getfield 92) rfl S Q
theorem eX1_tellOrder_12 {d : Nat} {S : zS} {Q : zR → Prop} : zW d MX1_tellOrder 12 S Q = zGo d MX1_tellOrder (.imul) z0 13 S Q := zW_step (I := .imul) rfl S Q
theorem eX1_tellOrder_13 {d : Nat} {S : zS} {Q : zR → Prop} : zW d MX1_tellOrder 13 S Q = zGo d MX1_tellOrder (.if_icmp .ge 47) (zt 60) 16 S Q := zW_step (I := .if_icmp .ge 47) rfl S Q
theorem eX1_tellOrder_16 {d : Nat} {S : zS} {Q : zR → Prop} : zW d MX1_tellOrder 16 S Q = zGo d MX1_tellOrder (.aload 0) z0 17 S Q := zW_step (I := .aload_n 0) rfl S Q
theorem eX1_tellOrder_17 {d : Nat} {S : zS} {Q : zR → Prop} : zW d MX1_tellOrder 17 S Q = zGo d MX1_tellOrder (.aload 1) z0 18 S Q := zW_step (I := .aload_n 1) rfl S Q
theorem eX1_tellOrder_18 {d : Nat} {S : zS} {Q : zR → Prop} : zW d MX1_tellOrder 18 S Q = zGo d MX1_tellOrder (.iload 3) z0 19 S Q := zW_step (I := .iload_n 3) rfl S Q
theorem eX1_tellOrder_19 {d : Nat} {S : zS} {Q : zR → Prop} : zW d MX1_tellOrder 19 S Q = zGo d MX1_tellOrder (.invokevirtual 107) (zc 28 3 1) 22 S Q := zW_step (I := .invokevirtual 107) rfl S Q
theorem eX1_tellOrder_22 {d : Nat} {S : zS} {Q : zR → Prop} : zW d MX1_tellOrder 22 S Q = zGo d MX1_tellOrder (.istore 5) z0 24 S Q := zW_step (I := .istore 5) rfl S Q
theorem eX1_tellOrder_24 {d : Nat} {S : zS} {Q : zR → Prop} : zW d MX1_tellOrder 24 S Q = zGo d MX1_tellOrder (.iload 5) z0 26 S Q := zW_step (I := .iload 5) rfl S Q
theorem eX1_tellOrder_26 {d : Nat} {S : zS} {Q : zR → Prop} : zW d MX1_tellOrder 26 S Q = zGo d MX1_tellOrder (.aload 1) z0 27 S Q := zW_step (I := .aload_n 1) rfl S Q
theorem eX1_tellOrder_27 {d : Nat} {S : zS} {Q : zR → Prop} : zW d MX1_tellOrder 27 S Q = zGo d MX1_tellOrder (.getfield 92) (zf 0 4 13) 30 S Q := zW_step (I := .getfield 92) rfl S Q
theorem eX1_tellOrder_30 {d : Nat} {S : zS} {Q : zR → Prop} : zW d MX1_tellOrder 30 S Q = zGo d MX1_tellOrder (.if_icmp .ge 24) (zt 54) 33 S Q := zW_step (I := .if_icmp .ge 24) rfl S Q
theorem eX1_tellOrder_33 {d : Nat} {S : zS} {Q : zR → Prop} : zW d MX1_tellOrder 33 S Q = zGo d MX1_tellOrder (.aload 2) z0 34 S Q := zW_step (I := .aload_n 2) rfl S Q
theorem eX1_tellOrder_34 {d : Nat} {S : zS} {Q : zR → Prop} : zW d MX1_tellOrder 34 S Q = zGo d MX1_tellOrder (.aload 1) z0 35 S Q := zW_step (I := .aload_n 1) rfl S Q
theorem eX1_tellOrder_35 {d : Nat} {S : zS} {Q : zR → Prop} : zW d MX1_tellOrder 35 S Q = zGo d MX1_tellOrder (.iload 3) z0 36 S Q := zW_step (I := .iload_n 3) rfl S Q
theorem eX1_tellOrder_36 {d : Nat} {S : zS} {Q : zR → Prop} : zW d MX1_tellOrder 36 S Q = zGo d MX1_tellOrder (.iload 5) z0 38 S Q := zW_step (I := .iload 5) rfl S Q
theorem eX1_tellOrder_38 {d : Nat} {S : zS} {Q : zR → Prop} : zW d MX1_tellOrder 38 S Q = zGo d MX1_tellOrder (.invokevirtual 110) (zc 57 3 4) 41 S Q := zW_step (I := .invokevirtual 110) rfl S Q
theorem eX1_tellOrder_41 {d : Nat} {S : zS} {Q : zR → Prop} : zW d MX1_tellOrder 41 S Q = zGo d MX1_tellOrder (.i2l) z0 42 S Q := zW_step (I := .i2l) rfl S Q
theorem eX1_tellOrder_42 {d : Nat} {S : zS} {Q : zR → Prop} : zW d MX1_tellOrder 42 S Q = zGo d MX1_tellOrder (.invokevirtual 114) (zc 79 2 6) 45 S Q := zW_step (I := .invokevirtual 114) rfl S Q
theorem eX1_tellOrder_45 {d : Nat} {S : zS} {Q : zR → Prop} : zW d MX1_tellOrder 45 S Q = zGo d MX1_tellOrder (.iload 3) z0 46 S Q := zW_step (I := .iload_n 3) rfl S Q
theorem eX1_tellOrder_46 {d : Nat} {S : zS} {Q : zR → Prop} : zW d MX1_tellOrder 46 S Q = zGo d MX1_tellOrder (.getstatic 104) (zv (.ref 1000)) 49 S Q := zW_step (I := .getstatic 104) rfl S Q
theorem eX1_tellOrder_49 {d : Nat} {S : zS} {Q : zR → Prop} : zW d MX1_tellOrder 49 S Q = zGo d MX1_tellOrder (.iload 5) z0 51 S Q := zW_step (I := .iload 5) rfl S Q
theorem eX1_tellOrder_51 {d : Nat} {S : zS} {Q : zR → Prop} : zW d MX1_tellOrder 51 S Q = zGo d MX1_tellOrder (.iaload) z0 52 S Q := zW_step (I := .iaload) rfl S Q
theorem eX1_tellOrder_52 {d : Nat} {S : zS} {Q : zR → Prop} : zW d MX1_tellOrder 52 S Q = zGo d MX1_tellOrder (.iadd) z0 53 S Q := zW_step (I := .iadd) rfl S Q
theorem eX1_tellOrder_53 {d : Nat} {S : zS} {Q : zR → Prop} : zW d MX1_tellOrder 53 S Q = zGo d MX1_tellOrder (.istore 3) z0 54 S Q := zW_step (I := .istore_n 3) rfl S Q
theorem eX1_tellOrder_54 {d : Nat} {S : zS} {Q : zR → Prop} : zW d MX1_tellOrder 54 S Q = zGo d MX1_tellOrder (.iinc 4 1) (zv (.int 1)) 57 S Q := zW_step (I := .iinc 4 1) rfl S Q
theorem eX1_tellOrder_57 {d : Nat} {S : zS} {Q : zR → Prop} : zW d MX1_tellOrder 57 S Q = zGo d MX1_tellOrder (.goto (-52)) (zt 5) 60 S Q := zW_step (I := .goto (-52)) rfl S Q
theorem eX1_tellOrder_60 {d : Nat} {S : zS} {Q : zR → Prop} : zW d MX1_tellOrder 60 S Q = zGo d MX1_tellOrder (.return_) z0 61 S Q := zW_step (I := .return_) rfl S Q
theorem rX1_tellOrder : MX1_tellOrder.2.2.2.2.1 = none := rfl
theorem eX1_cheapestGuest_0 {d : Nat} {S : zS} {Q : zR → Prop} : zW d MX1_cheapestGuest 0 S Q = zGo d MX1_cheapestGuest (.aload 0) z0 1 S Q := zW_step (I := .aload_n 0) rfl S Q
theorem eX1_cheapestGuest_1 {d : Nat} {S : zS} {Q : zR → Prop} : zW d MX1_cheapestGuest 1 S Q = zGo d MX1_cheapestGuest (.aload 1) z0 2 S Q := zW_step (I := .aload_n 1) rfl S Q
theorem eX1_cheapestGuest_2 {d : Nat} {S : zS} {Q : zR → Prop} : zW d MX1_cheapestGuest 2 S Q = zGo d MX1_cheapestGuest (.iload 2) z0 3 S Q := zW_step (I := .iload_n 2) rfl S Q
theorem eX1_cheapestGuest_3 {d : Nat} {S : zS} {Q : zR → Prop} : zW d MX1_cheapestGuest 3 S Q = zGo d MX1_cheapestGuest (.invokevirtual 96) (zc 24 3 1) 6 S Q := zW_step (I := .invokevirtual 96) rfl S Q
theorem eX1_cheapestGuest_6 {d : Nat} {S : zS} {Q : zR → Prop} : zW d MX1_cheapestGuest 6 S Q = zGo d MX1_cheapestGuest (.istore 3) z0 7 S Q := zW_step (I := .istore_n 3) rfl S Q
theorem eX1_cheapestGuest_7 {d : Nat} {S : zS} {Q : zR → Prop} : zW d MX1_cheapestGuest 7 S Q = zGo d MX1_cheapestGuest (.iconst 0) (zv (.int 0)) 8 S Q := zW_step (I := .iconst 0) rfl S Q
theorem eX1_cheapestGuest_8 {d : Nat} {S : zS} {Q : zR → Prop} : zW d MX1_cheapestGuest 8 S Q = zGo d MX1_cheapestGuest (.istore 4) z0 10 S Q := zW_step (I := .istore 4) rfl S Q
theorem eX1_cheapestGuest_10 {d : Nat} {S : zS} {Q : zR → Prop} : zW d MX1_cheapestGuest 10 S Q = zGo d MX1_cheapestGuest (.iload 4) z0 12 S Q := zW_step (I := .iload 4) rfl S Q
theorem eX1_cheapestGuest_12 {d : Nat} {S : zS} {Q : zR → Prop} : zW d MX1_cheapestGuest 12 S Q = zGo d MX1_cheapestGuest (.aload 1) z0 13 S Q := zW_step (I := .aload_n 1) rfl S Q
theorem eX1_cheapestGuest_13 {d : Nat} {S : zS} {Q : zR → Prop} : zW d MX1_cheapestGuest 13 S Q = zGo d MX1_cheapestGuest (.getfield 92) (zf 0 4 13) 16 S Q := zW_step (I := .getfield 92) rfl S Q
theorem eX1_cheapestGuest_16 {d : Nat} {S : zS} {Q : zR → Prop} : zW d MX1_cheapestGuest 16 S Q = zGo d MX1_cheapestGuest (.if_icmp .ge 53) (zt 69) 19 S Q := zW_step (I := .if_icmp .ge 53) rfl S Q
theorem eX1_cheapestGuest_19 {d : Nat} {S : zS} {Q : zR → Prop} : zW d MX1_cheapestGuest 19 S Q = zGo d MX1_cheapestGuest (.iload 3) z0 20 S Q := zW_step (I := .iload_n 3) rfl S Q
theorem eX1_cheapestGuest_20 {d : Nat} {S : zS} {Q : zR → Prop} : zW d MX1_cheapestGuest 20 S Q = zGo d MX1_cheapestGuest (.iload 4) z0 22 S Q := zW_step (I := .iload 4) rfl S Q
theorem eX1_cheapestGuest_22 {d : Nat} {S : zS} {Q : zR → Prop} : zW d MX1_cheapestGuest 22 S Q = zGo d MX1_cheapestGuest (.ishr) z0 23 S Q := zW_step (I := .ishr) rfl S Q
theorem eX1_cheapestGuest_23 {d : Nat} {S : zS} {Q : zR → Prop} : zW d MX1_cheapestGuest 23 S Q = zGo d MX1_cheapestGuest (.iconst 1) (zv (.int 1)) 24 S Q := zW_step (I := .iconst 1) rfl S Q
theorem eX1_cheapestGuest_24 {d : Nat} {S : zS} {Q : zR → Prop} : zW d MX1_cheapestGuest 24 S Q = zGo d MX1_cheapestGuest (.iand) z0 25 S Q := zW_step (I := .iand) rfl S Q
theorem eX1_cheapestGuest_25 {d : Nat} {S : zS} {Q : zR → Prop} : zW d MX1_cheapestGuest 25 S Q = zGo d MX1_cheapestGuest (.iconst 1) (zv (.int 1)) 26 S Q := zW_step (I := .iconst 1) rfl S Q
theorem eX1_cheapestGuest_26 {d : Nat} {S : zS} {Q : zR → Prop} : zW d MX1_cheapestGuest 26 S Q = zGo d MX1_cheapestGuest (.if_icmp .ne 37) (zt 63) 29 S Q := zW_step (I := .if_icmp .ne 37) rfl S Q
theorem eX1_cheapestGuest_29 {d : Nat} {S : zS} {Q : zR → Prop} : zW d MX1_cheapestGuest 29 S Q = zGo d MX1_cheapestGuest (.aload 0) z0 30 S Q := zW_step (I := .aload_n 0) rfl S Q
theorem eX1_cheapestGuest_30 {d : Nat} {S : zS} {Q : zR → Prop} : zW d MX1_cheapestGuest 30 S Q = zGo d MX1_cheapestGuest (.aload 1) z0 31 S Q := zW_step (I := .aload_n 1) rfl S Q
theorem eX1_cheapestGuest_31 {d : Nat} {S : zS} {Q : zR → Prop} : zW d MX1_cheapestGuest 31 S Q = zGo d MX1_cheapestGuest (.iload 2) z0 32 S Q := zW_step (I := .iload_n 2) rfl S Q
theorem eX1_cheapestGuest_32 {d : Nat} {S : zS} {Q : zR → Prop} : zW d MX1_cheapestGuest 32 S Q = zGo d MX1_cheapestGuest (.iload 4) z0 34 S Q := zW_step (I := .iload 4) rfl S Q
theorem eX1_cheapestGuest_34 {d : Nat} {S : zS} {Q : zR → Prop} : zW d MX1_cheapestGuest 34 S Q = zGo d MX1_cheapestGuest (.invokevirtual 100) (zc 25 4 1) 37 S Q := zW_step (I := .invokevirtual 100) rfl S Q
theorem eX1_cheapestGuest_37 {d : Nat} {S : zS} {Q : zR → Prop} : zW d MX1_cheapestGuest 37 S Q = zGo d MX1_cheapestGuest (.aload 0) z0 38 S Q := zW_step (I := .aload_n 0) rfl S Q
theorem eX1_cheapestGuest_38 {d : Nat} {S : zS} {Q : zR → Prop} : zW d MX1_cheapestGuest 38 S Q = zGo d MX1_cheapestGuest (.getfield 9) (zf 3 1 0) 41 S Q := zW_step (I := .getfield 9) rfl S Q
theorem eX1_cheapestGuest_41 {d : Nat} {S : zS} {Q : zR → Prop} : zW d MX1_cheapestGuest 41 S Q = zGo d MX1_cheapestGuest (.iload 2) z0 42 S Q := zW_step (I := .iload_n 2) rfl S Q
theorem eX1_cheapestGuest_42 {d : Nat} {S : zS} {Q : zR → Prop} : zW d MX1_cheapestGuest 42 S Q = zGo d MX1_cheapestGuest (.getstatic 104) (zv (.ref 1000)) 45 S Q := zW_step (I := .getstatic 104) rfl S Q
theorem eX1_cheapestGuest_45 {d : Nat} {S : zS} {Q : zR → Prop} : zW d MX1_cheapestGuest 45 S Q = zGo d MX1_cheapestGuest (.iload 4) z0 47 S Q := zW_step (I := .iload 4) rfl S Q
theorem eX1_cheapestGuest_47 {d : Nat} {S : zS} {Q : zR → Prop} : zW d MX1_cheapestGuest 47 S Q = zGo d MX1_cheapestGuest (.iaload) z0 48 S Q := zW_step (I := .iaload) rfl S Q
theorem eX1_cheapestGuest_48 {d : Nat} {S : zS} {Q : zR → Prop} : zW d MX1_cheapestGuest 48 S Q = zGo d MX1_cheapestGuest (.iadd) z0 49 S Q := zW_step (I := .iadd) rfl S Q
theorem eX1_cheapestGuest_49 {d : Nat} {S : zS} {Q : zR → Prop} : zW d MX1_cheapestGuest 49 S Q = zGo d MX1_cheapestGuest (.iaload) z0 50 S Q := zW_step (I := .iaload) rfl S Q
theorem eX1_cheapestGuest_50 {d : Nat} {S : zS} {Q : zR → Prop} : zW d MX1_cheapestGuest 50 S Q = zGo d MX1_cheapestGuest (.iadd) z0 51 S Q := zW_step (I := .iadd) rfl S Q
theorem eX1_cheapestGuest_51 {d : Nat} {S : zS} {Q : zR → Prop} : zW d MX1_cheapestGuest 51 S Q = zGo d MX1_cheapestGuest (.aload 0) z0 52 S Q := zW_step (I := .aload_n 0) rfl S Q
theorem eX1_cheapestGuest_52 {d : Nat} {S : zS} {Q : zR → Prop} : zW d MX1_cheapestGuest 52 S Q = zGo d MX1_cheapestGuest (.getfield 9) (zf 3 1 0) 55 S Q := zW_step (I := .getfield 9) rfl S Q
theorem eX1_cheapestGuest_55 {d : Nat} {S : zS} {Q : zR → Prop} : zW d MX1_cheapestGuest 55 S Q = zGo d MX1_cheapestGuest (.iload 2) z0 56 S Q := zW_step (I := .iload_n 2) rfl S Q
theorem eX1_cheapestGuest_56 {d : Nat} {S : zS} {Q : zR → Prop} : zW d MX1_cheapestGuest 56 S Q = zGo d MX1_cheapestGuest (.iaload) z0 57 S Q := zW_step (I := .iaload) rfl S Q
theorem eX1_cheapestGuest_57 {d : Nat} {S : zS} {Q : zR → Prop} : zW d MX1_cheapestGuest 57 S Q = zGo d MX1_cheapestGuest (.if_icmp .ne 6) (zt 63) 60 S Q := zW_step (I := .if_icmp .ne 6) rfl S Q
theorem eX1_cheapestGuest_60 {d : Nat} {S : zS} {Q : zR → Prop} : zW d MX1_cheapestGuest 60 S Q = zGo d MX1_cheapestGuest (.iload 4) z0 62 S Q := zW_step (I := .iload 4) rfl S Q
theorem eX1_cheapestGuest_62 {d : Nat} {S : zS} {Q : zR → Prop} : zW d MX1_cheapestGuest 62 S Q = zGo d MX1_cheapestGuest (.ireturn) z0 63 S Q := zW_step (I := .ireturn) rfl S Q
theorem eX1_cheapestGuest_63 {d : Nat} {S : zS} {Q : zR → Prop} : zW d MX1_cheapestGuest 63 S Q = zGo d MX1_cheapestGuest (.iinc 4 1) (zv (.int 1)) 66 S Q := zW_step (I := .iinc 4 1) rfl S Q
theorem eX1_cheapestGuest_66 {d : Nat} {S : zS} {Q : zR → Prop} : zW d MX1_cheapestGuest 66 S Q = zGo d MX1_cheapestGuest (.goto (-56)) (zt 10) 69 S Q := zW_step (I := .goto (-56)) rfl S Q
theorem eX1_cheapestGuest_69 {d : Nat} {S : zS} {Q : zR → Prop} : zW d MX1_cheapestGuest 69 S Q = zGo d MX1_cheapestGuest (.aload 1) z0 70 S Q := zW_step (I := .aload_n 1) rfl S Q
theorem eX1_cheapestGuest_70 {d : Nat} {S : zS} {Q : zR → Prop} : zW d MX1_cheapestGuest 70 S Q = zGo d MX1_cheapestGuest (.getfield 92) (zf 0 4 13) 73 S Q := zW_step (I := .getfield 92) rfl S Q
theorem eX1_cheapestGuest_73 {d : Nat} {S : zS} {Q : zR → Prop} : zW d MX1_cheapestGuest 73 S Q = zGo d MX1_cheapestGuest (.ireturn) z0 74 S Q := zW_step (I := .ireturn) rfl S Q
theorem rX1_cheapestGuest : MX1_cheapestGuest.2.2.2.2.1 = some .int := rfl
theorem eX1_greatestWorth_0 {d : Nat} {S : zS} {Q : zR → Prop} : zW d MX1_greatestWorth 0 S Q = zGo d MX1_greatestWorth (.aload 0) z0 1 S Q := zW_step (I := .aload_n 0) rfl S Q
theorem eX1_greatestWorth_1 {d : Nat} {S : zS} {Q : zR → Prop} : zW d MX1_greatestWorth 1 S Q = zGo d MX1_greatestWorth (.iconst 0) (zv (.int 0)) 2 S Q := zW_step (I := .iconst 0) rfl S Q
theorem eX1_greatestWorth_2 {d : Nat} {S : zS} {Q : zR → Prop} : zW d MX1_greatestWorth 2 S Q = zGo d MX1_greatestWorth (.putfield 36) (zf 2 1 6) 5 S Q := zW_step (I := .putfield 36) rfl S Q
theorem eX1_greatestWorth_5 {d : Nat} {S : zS} {Q : zR → Prop} : zW d MX1_greatestWorth 5 S Q = zGo d MX1_greatestWorth (.aload 0) z0 6 S Q := zW_step (I := .aload_n 0) rfl S Q
theorem eX1_greatestWorth_6 {d : Nat} {S : zS} {Q : zR → Prop} : zW d MX1_greatestWorth 6 S Q = zGo d MX1_greatestWorth (.aload 1) z0 7 S Q := zW_step (I := .aload_n 1) rfl S Q
theorem eX1_greatestWorth_7 {d : Nat} {S : zS} {Q : zR → Prop} : zW d MX1_greatestWorth 7 S Q = zGo d MX1_greatestWorth (.invokevirtual 40) (zc 18 2 1) 10 S Q := zW_step (I := .invokevirtual 40) rfl S Q
theorem eX1_greatestWorth_10 {d : Nat} {S : zS} {Q : zR → Prop} : zW d MX1_greatestWorth 10 S Q = zGo d MX1_greatestWorth (.aload 0) z0 11 S Q := zW_step (I := .aload_n 0) rfl S Q
theorem eX1_greatestWorth_11 {d : Nat} {S : zS} {Q : zR → Prop} : zW d MX1_greatestWorth 11 S Q = zGo d MX1_greatestWorth (.aload 2) z0 12 S Q := zW_step (I := .aload_n 2) rfl S Q
theorem eX1_greatestWorth_12 {d : Nat} {S : zS} {Q : zR → Prop} : zW d MX1_greatestWorth 12 S Q = zGo d MX1_greatestWorth (.aload 3) z0 13 S Q := zW_step (I := .aload_n 3) rfl S Q
theorem eX1_greatestWorth_13 {d : Nat} {S : zS} {Q : zR → Prop} : zW d MX1_greatestWorth 13 S Q = zGo d MX1_greatestWorth (.invokevirtual 44) (zc 21 3 1) 16 S Q := zW_step (I := .invokevirtual 44) rfl S Q
theorem eX1_greatestWorth_16 {d : Nat} {S : zS} {Q : zR → Prop} : zW d MX1_greatestWorth 16 S Q = zGo d MX1_greatestWorth (.aload 0) z0 17 S Q := zW_step (I := .aload_n 0) rfl S Q
theorem eX1_greatestWorth_17 {d : Nat} {S : zS} {Q : zR → Prop} : zW d MX1_greatestWorth 17 S Q = zGo d MX1_greatestWorth (.getfield 9) (zf 3 1 0) 20 S Q := zW_step (I := .getfield 9) rfl S Q
theorem eX1_greatestWorth_20 {d : Nat} {S : zS} {Q : zR → Prop} : zW d MX1_greatestWorth 20 S Q = zGo d MX1_greatestWorth (.aload 1) z0 21 S Q := zW_step (I := .aload_n 1) rfl S Q
theorem eX1_greatestWorth_21 {d : Nat} {S : zS} {Q : zR → Prop} : zW d MX1_greatestWorth 21 S Q = zGo d MX1_greatestWorth (.getfield 30) (zf 0 4 14) 24 S Q := zW_step (I := .getfield 30) rfl S Q
theorem eX1_greatestWorth_24 {d : Nat} {S : zS} {Q : zR → Prop} : zW d MX1_greatestWorth 24 S Q = zGo d MX1_greatestWorth (.iconst 0) (zv (.int 0)) 25 S Q := zW_step (I := .iconst 0) rfl S Q
theorem eX1_greatestWorth_25 {d : Nat} {S : zS} {Q : zR → Prop} : zW d MX1_greatestWorth 25 S Q = zGo d MX1_greatestWorth (.iastore) z0 26 S Q := zW_step (I := .iastore) rfl S Q
theorem eX1_greatestWorth_26 {d : Nat} {S : zS} {Q : zR → Prop} : zW d MX1_greatestWorth 26 S Q = zGo d MX1_greatestWorth (.aload 1) z0 27 S Q := zW_step (I := .aload_n 1) rfl S Q
theorem eX1_greatestWorth_27 {d : Nat} {S : zS} {Q : zR → Prop} : zW d MX1_greatestWorth 27 S Q = zGo d MX1_greatestWorth (.getfield 120) (zf 3 4 5) 30 S Q := zW_step (I := .getfield 120) rfl S Q
theorem eX1_greatestWorth_30 {d : Nat} {S : zS} {Q : zR → Prop} : zW d MX1_greatestWorth 30 S Q = zGo d MX1_greatestWorth (.aload 1) z0 31 S Q := zW_step (I := .aload_n 1) rfl S Q
theorem eX1_greatestWorth_31 {d : Nat} {S : zS} {Q : zR → Prop} : zW d MX1_greatestWorth 31 S Q = zGo d MX1_greatestWorth (.getfield 30) (zf 0 4 14) 34 S Q := zW_step (I := .getfield 30) rfl S Q
theorem eX1_greatestWorth_34 {d : Nat} {S : zS} {Q : zR → Prop} : zW d MX1_greatestWorth 34 S Q = zGo d MX1_greatestWorth (.lconst 1) (zv (.long 1)) 35 S Q := zW_step (I := .lconst 1) rfl S Q
theorem eX1_greatestWorth_35 {d : Nat} {S : zS} {Q : zR → Prop} : zW d MX1_greatestWorth 35 S Q = zGo d MX1_greatestWorth (.lastore) z0 36 S Q := zW_step (I := .lastore) rfl S Q
theorem eX1_greatestWorth_36 {d : Nat} {S : zS} {Q : zR → Prop} : zW d MX1_greatestWorth 36 S Q = zGo d MX1_greatestWorth (.aload 1) z0 37 S Q := zW_step (I := .aload_n 1) rfl S Q
theorem eX1_greatestWorth_37 {d : Nat} {S : zS} {Q : zR → Prop} : zW d MX1_greatestWorth 37 S Q = zGo d MX1_greatestWorth (.getfield 30) (zf 0 4 14) 40 S Q := zW_step (I := .getfield 30) rfl S Q
theorem eX1_greatestWorth_40 {d : Nat} {S : zS} {Q : zR → Prop} : zW d MX1_greatestWorth 40 S Q = zGo d MX1_greatestWorth (.iconst 1) (zv (.int 1)) 41 S Q := zW_step (I := .iconst 1) rfl S Q
theorem eX1_greatestWorth_41 {d : Nat} {S : zS} {Q : zR → Prop} : zW d MX1_greatestWorth 41 S Q = zGo d MX1_greatestWorth (.isub) z0 42 S Q := zW_step (I := .isub) rfl S Q
theorem eX1_greatestWorth_42 {d : Nat} {S : zS} {Q : zR → Prop} : zW d MX1_greatestWorth 42 S Q = zGo d MX1_greatestWorth (.istore 4) z0 44 S Q := zW_step (I := .istore 4) rfl S Q
theorem eX1_greatestWorth_44 {d : Nat} {S : zS} {Q : zR → Prop} : zW d MX1_greatestWorth 44 S Q = zGo d MX1_greatestWorth (.iload 4) z0 46 S Q := zW_step (I := .iload 4) rfl S Q
theorem eX1_greatestWorth_46 {d : Nat} {S : zS} {Q : zR → Prop} : zW d MX1_greatestWorth 46 S Q = zGo d MX1_greatestWorth (.ifCond .lt 16) (zt 62) 49 S Q := zW_step (I := .ifCond .lt 16) rfl S Q
theorem eX1_greatestWorth_49 {d : Nat} {S : zS} {Q : zR → Prop} : zW d MX1_greatestWorth 49 S Q = zGo d MX1_greatestWorth (.aload 0) z0 50 S Q := zW_step (I := .aload_n 0) rfl S Q
theorem eX1_greatestWorth_50 {d : Nat} {S : zS} {Q : zR → Prop} : zW d MX1_greatestWorth 50 S Q = zGo d MX1_greatestWorth (.aload 1) z0 51 S Q := zW_step (I := .aload_n 1) rfl S Q
theorem eX1_greatestWorth_51 {d : Nat} {S : zS} {Q : zR → Prop} : zW d MX1_greatestWorth 51 S Q = zGo d MX1_greatestWorth (.iload 4) z0 53 S Q := zW_step (I := .iload 4) rfl S Q
theorem eX1_greatestWorth_53 {d : Nat} {S : zS} {Q : zR → Prop} : zW d MX1_greatestWorth 53 S Q = zGo d MX1_greatestWorth (.invokevirtual 124) (zc 30 3 1) 56 S Q := zW_step (I := .invokevirtual 124) rfl S Q
theorem eX1_greatestWorth_56 {d : Nat} {S : zS} {Q : zR → Prop} : zW d MX1_greatestWorth 56 S Q = zGo d MX1_greatestWorth (.iinc 4 (-1)) (zv (.int (-1))) 59 S Q := zW_step (I := .iinc 4 (-1)) rfl S Q
theorem eX1_greatestWorth_59 {d : Nat} {S : zS} {Q : zR → Prop} : zW d MX1_greatestWorth 59 S Q = zGo d MX1_greatestWorth (.goto (-15)) (zt 44) 62 S Q := zW_step (I := .goto (-15)) rfl S Q
theorem eX1_greatestWorth_62 {d : Nat} {S : zS} {Q : zR → Prop} : zW d MX1_greatestWorth 62 S Q = zGo d MX1_greatestWorth (.aload 0) z0 63 S Q := zW_step (I := .aload_n 0) rfl S Q
theorem eX1_greatestWorth_63 {d : Nat} {S : zS} {Q : zR → Prop} : zW d MX1_greatestWorth 63 S Q = zGo d MX1_greatestWorth (.getfield 9) (zf 3 1 0) 66 S Q := zW_step (I := .getfield 9) rfl S Q
theorem eX1_greatestWorth_66 {d : Nat} {S : zS} {Q : zR → Prop} : zW d MX1_greatestWorth 66 S Q = zGo d MX1_greatestWorth (.iconst 0) (zv (.int 0)) 67 S Q := zW_step (I := .iconst 0) rfl S Q
theorem eX1_greatestWorth_67 {d : Nat} {S : zS} {Q : zR → Prop} : zW d MX1_greatestWorth 67 S Q = zGo d MX1_greatestWorth (.iaload) z0 68 S Q := zW_step (I := .iaload) rfl S Q
theorem eX1_greatestWorth_68 {d : Nat} {S : zS} {Q : zR → Prop} : zW d MX1_greatestWorth 68 S Q = zGo d MX1_greatestWorth (.ireturn) z0 69 S Q := zW_step (I := .ireturn) rfl S Q
theorem rX1_greatestWorth : MX1_greatestWorth.2.2.2.2.1 = some .int := rfl
theorem eX1_findGreatest_0 {d : Nat} {S : zS} {Q : zR → Prop} : zW d MX1_findGreatest 0 S Q = zGo d MX1_findGreatest (.aload 1) z0 1 S Q := zW_step (I := .aload_n 1) rfl S Q
theorem eX1_findGreatest_1 {d : Nat} {S : zS} {Q : zR → Prop} : zW d MX1_findGreatest 1 S Q = zGo d MX1_findGreatest (.getfield 86) (zf 3 4 2) 4 S Q := zW_step (I := .getfield 86) rfl S Q
theorem eX1_findGreatest_4 {d : Nat} {S : zS} {Q : zR → Prop} : zW d MX1_findGreatest 4 S Q = zGo d MX1_findGreatest (.iload 2) z0 5 S Q := zW_step (I := .iload_n 2) rfl S Q
theorem eX1_findGreatest_5 {d : Nat} {S : zS} {Q : zR → Prop} : zW d MX1_findGreatest 5 S Q = zGo d MX1_findGreatest (.iaload) z0 6 S Q := zW_step (I := .iaload) rfl S Q
theorem eX1_findGreatest_6 {d : Nat} {S : zS} {Q : zR → Prop} : zW d MX1_findGreatest 6 S Q = zGo d MX1_findGreatest (.istore 3) z0 7 S Q := zW_step (I := .istore_n 3) rfl S Q
theorem eX1_findGreatest_7 {d : Nat} {S : zS} {Q : zR → Prop} : zW d MX1_findGreatest 7 S Q = zGo d MX1_findGreatest (.iconst 0) (zv (.int 0)) 8 S Q := zW_step (I := .iconst 0) rfl S Q
theorem eX1_findGreatest_8 {d : Nat} {S : zS} {Q : zR → Prop} : zW d MX1_findGreatest 8 S Q = zGo d MX1_findGreatest (.istore 4) z0 10 S Q := zW_step (I := .istore 4) rfl S Q
theorem eX1_findGreatest_10 {d : Nat} {S : zS} {Q : zR → Prop} : zW d MX1_findGreatest 10 S Q = zGo d MX1_findGreatest (.lconst 0) (zv (.long 0)) 11 S Q := zW_step (I := .lconst 0) rfl S Q
theorem eX1_findGreatest_11 {d : Nat} {S : zS} {Q : zR → Prop} : zW d MX1_findGreatest 11 S Q = zGo d MX1_findGreatest (.lstore 5) z0 13 S Q := zW_step (I := .lstore 5) rfl S Q
theorem eX1_findGreatest_13 {d : Nat} {S : zS} {Q : zR → Prop} : zW d MX1_findGreatest 13 S Q = zGo d MX1_findGreatest (.iconst 0) (zv (.int 0)) 14 S Q := zW_step (I := .iconst 0) rfl S Q
theorem eX1_findGreatest_14 {d : Nat} {S : zS} {Q : zR → Prop} : zW d MX1_findGreatest 14 S Q = zGo d MX1_findGreatest (.istore 7) z0 16 S Q := zW_step (I := .istore 7) rfl S Q
theorem eX1_findGreatest_16 {d : Nat} {S : zS} {Q : zR → Prop} : zW d MX1_findGreatest 16 S Q = zGo d MX1_findGreatest (.iload 7) z0 18 S Q := zW_step (I := .iload 7) rfl S Q
theorem eX1_findGreatest_18 {d : Nat} {S : zS} {Q : zR → Prop} : zW d MX1_findGreatest 18 S Q = zGo d MX1_findGreatest (.aload 1) z0 19 S Q := zW_step (I := .aload_n 1) rfl S Q
theorem eX1_findGreatest_19 {d : Nat} {S : zS} {Q : zR → Prop} : zW d MX1_findGreatest 19 S Q = zGo d MX1_findGreatest (.getfield 92) (zf 0 4 13) 22 S Q := zW_step (I := .getfield 92) rfl S Q
theorem eX1_findGreatest_22 {d : Nat} {S : zS} {Q : zR → Prop} : zW d MX1_findGreatest 22 S Q = zGo d MX1_findGreatest (.if_icmp .ge 87) (zt 109) 25 S Q := zW_step (I := .if_icmp .ge 87) rfl S Q
theorem eX1_findGreatest_25 {d : Nat} {S : zS} {Q : zR → Prop} : zW d MX1_findGreatest 25 S Q = zGo d MX1_findGreatest (.iload 3) z0 26 S Q := zW_step (I := .iload_n 3) rfl S Q
theorem eX1_findGreatest_26 {d : Nat} {S : zS} {Q : zR → Prop} : zW d MX1_findGreatest 26 S Q = zGo d MX1_findGreatest (.iload 7) z0 28 S Q := zW_step (I := .iload 7) rfl S Q
theorem eX1_findGreatest_28 {d : Nat} {S : zS} {Q : zR → Prop} : zW d MX1_findGreatest 28 S Q = zGo d MX1_findGreatest (.ishr) z0 29 S Q := zW_step (I := .ishr) rfl S Q
theorem eX1_findGreatest_29 {d : Nat} {S : zS} {Q : zR → Prop} : zW d MX1_findGreatest 29 S Q = zGo d MX1_findGreatest (.iconst 1) (zv (.int 1)) 30 S Q := zW_step (I := .iconst 1) rfl S Q
theorem eX1_findGreatest_30 {d : Nat} {S : zS} {Q : zR → Prop} : zW d MX1_findGreatest 30 S Q = zGo d MX1_findGreatest (.iand) z0 31 S Q := zW_step (I := .iand) rfl S Q
theorem eX1_findGreatest_31 {d : Nat} {S : zS} {Q : zR → Prop} : zW d MX1_findGreatest 31 S Q = zGo d MX1_findGreatest (.iconst 1) (zv (.int 1)) 32 S Q := zW_step (I := .iconst 1) rfl S Q
theorem eX1_findGreatest_32 {d : Nat} {S : zS} {Q : zR → Prop} : zW d MX1_findGreatest 32 S Q = zGo d MX1_findGreatest (.if_icmp .ne 71) (zt 103) 35 S Q := zW_step (I := .if_icmp .ne 71) rfl S Q
theorem eX1_findGreatest_35 {d : Nat} {S : zS} {Q : zR → Prop} : zW d MX1_findGreatest 35 S Q = zGo d MX1_findGreatest (.iload 2) z0 36 S Q := zW_step (I := .iload_n 2) rfl S Q
theorem eX1_findGreatest_36 {d : Nat} {S : zS} {Q : zR → Prop} : zW d MX1_findGreatest 36 S Q = zGo d MX1_findGreatest (.getstatic 104) (zv (.ref 1000)) 39 S Q := zW_step (I := .getstatic 104) rfl S Q
theorem eX1_findGreatest_39 {d : Nat} {S : zS} {Q : zR → Prop} : zW d MX1_findGreatest 39 S Q = zGo d MX1_findGreatest (.iload 7) z0 41 S Q := zW_step (I := .iload 7) rfl S Q
theorem eX1_findGreatest_41 {d : Nat} {S : zS} {Q : zR → Prop} : zW d MX1_findGreatest 41 S Q = zGo d MX1_findGreatest (.iaload) z0 42 S Q := zW_step (I := .iaload) rfl S Q
theorem eX1_findGreatest_42 {d : Nat} {S : zS} {Q : zR → Prop} : zW d MX1_findGreatest 42 S Q = zGo d MX1_findGreatest (.iadd) z0 43 S Q := zW_step (I := .iadd) rfl S Q
theorem eX1_findGreatest_43 {d : Nat} {S : zS} {Q : zR → Prop} : zW d MX1_findGreatest 43 S Q = zGo d MX1_findGreatest (.istore 8) z0 45 S Q := zW_step (I := .istore 8) rfl S Q
theorem eX1_findGreatest_45 {d : Nat} {S : zS} {Q : zR → Prop} : zW d MX1_findGreatest 45 S Q = zGo d MX1_findGreatest (.aload 0) z0 46 S Q := zW_step (I := .aload_n 0) rfl S Q
theorem eX1_findGreatest_46 {d : Nat} {S : zS} {Q : zR → Prop} : zW d MX1_findGreatest 46 S Q = zGo d MX1_findGreatest (.aload 1) z0 47 S Q := zW_step (I := .aload_n 1) rfl S Q
theorem eX1_findGreatest_47 {d : Nat} {S : zS} {Q : zR → Prop} : zW d MX1_findGreatest 47 S Q = zGo d MX1_findGreatest (.iload 2) z0 48 S Q := zW_step (I := .iload_n 2) rfl S Q
theorem eX1_findGreatest_48 {d : Nat} {S : zS} {Q : zR → Prop} : zW d MX1_findGreatest 48 S Q = zGo d MX1_findGreatest (.iload 7) z0 50 S Q := zW_step (I := .iload 7) rfl S Q
theorem eX1_findGreatest_50 {d : Nat} {S : zS} {Q : zR → Prop} : zW d MX1_findGreatest 50 S Q = zGo d MX1_findGreatest (.invokevirtual 100) (zc 25 4 1) 53 S Q := zW_step (I := .invokevirtual 100) rfl S Q
theorem eX1_findGreatest_53 {d : Nat} {S : zS} {Q : zR → Prop} : zW d MX1_findGreatest 53 S Q = zGo d MX1_findGreatest (.aload 0) z0 54 S Q := zW_step (I := .aload_n 0) rfl S Q
theorem eX1_findGreatest_54 {d : Nat} {S : zS} {Q : zR → Prop} : zW d MX1_findGreatest 54 S Q = zGo d MX1_findGreatest (.getfield 9) (zf 3 1 0) 57 S Q := zW_step (I := .getfield 9) rfl S Q
theorem eX1_findGreatest_57 {d : Nat} {S : zS} {Q : zR → Prop} : zW d MX1_findGreatest 57 S Q = zGo d MX1_findGreatest (.iload 8) z0 59 S Q := zW_step (I := .iload 8) rfl S Q
theorem eX1_findGreatest_59 {d : Nat} {S : zS} {Q : zR → Prop} : zW d MX1_findGreatest 59 S Q = zGo d MX1_findGreatest (.iaload) z0 60 S Q := zW_step (I := .iaload) rfl S Q
theorem eX1_findGreatest_60 {d : Nat} {S : zS} {Q : zR → Prop} : zW d MX1_findGreatest 60 S Q = zGo d MX1_findGreatest (.iadd) z0 61 S Q := zW_step (I := .iadd) rfl S Q
theorem eX1_findGreatest_61 {d : Nat} {S : zS} {Q : zR → Prop} : zW d MX1_findGreatest 61 S Q = zGo d MX1_findGreatest (.istore 9) z0 63 S Q := zW_step (I := .istore 9) rfl S Q
theorem eX1_findGreatest_63 {d : Nat} {S : zS} {Q : zR → Prop} : zW d MX1_findGreatest 63 S Q = zGo d MX1_findGreatest (.lload 5) z0 65 S Q := zW_step (I := .lload 5) rfl S Q
theorem eX1_findGreatest_65 {d : Nat} {S : zS} {Q : zR → Prop} : zW d MX1_findGreatest 65 S Q = zGo d MX1_findGreatest (.lconst 0) (zv (.long 0)) 66 S Q := zW_step (I := .lconst 0) rfl S Q
theorem eX1_findGreatest_66 {d : Nat} {S : zS} {Q : zR → Prop} : zW d MX1_findGreatest 66 S Q = zGo d MX1_findGreatest (.lcmp) z0 67 S Q := zW_step (I := .lcmp) rfl S Q
theorem eX1_findGreatest_67 {d : Nat} {S : zS} {Q : zR → Prop} : zW d MX1_findGreatest 67 S Q = zGo d MX1_findGreatest (.ifCond .eq 10) (zt 77) 70 S Q := zW_step (I := .ifCond .eq 10) rfl S Q
theorem eX1_findGreatest_70 {d : Nat} {S : zS} {Q : zR → Prop} : zW d MX1_findGreatest 70 S Q = zGo d MX1_findGreatest (.iload 9) z0 72 S Q := zW_step (I := .iload 9) rfl S Q
theorem eX1_findGreatest_72 {d : Nat} {S : zS} {Q : zR → Prop} : zW d MX1_findGreatest 72 S Q = zGo d MX1_findGreatest (.iload 4) z0 74 S Q := zW_step (I := .iload 4) rfl S Q
theorem eX1_findGreatest_74 {d : Nat} {S : zS} {Q : zR → Prop} : zW d MX1_findGreatest 74 S Q = zGo d MX1_findGreatest (.if_icmp .le 10) (zt 84) 77 S Q := zW_step (I := .if_icmp .le 10) rfl S Q
theorem eX1_findGreatest_77 {d : Nat} {S : zS} {Q : zR → Prop} : zW d MX1_findGreatest 77 S Q = zGo d MX1_findGreatest (.iload 9) z0 79 S Q := zW_step (I := .iload 9) rfl S Q
theorem eX1_findGreatest_79 {d : Nat} {S : zS} {Q : zR → Prop} : zW d MX1_findGreatest 79 S Q = zGo d MX1_findGreatest (.istore 4) z0 81 S Q := zW_step (I := .istore 4) rfl S Q
theorem eX1_findGreatest_81 {d : Nat} {S : zS} {Q : zR → Prop} : zW d MX1_findGreatest 81 S Q = zGo d MX1_findGreatest (.lconst 0) (zv (.long 0)) 82 S Q := zW_step (I := .lconst 0) rfl S Q
theorem eX1_findGreatest_82 {d : Nat} {S : zS} {Q : zR → Prop} : zW d MX1_findGreatest 82 S Q = zGo d MX1_findGreatest (.lstore 5) z0 84 S Q := zW_step (I := .lstore 5) rfl S Q
theorem eX1_findGreatest_84 {d : Nat} {S : zS} {Q : zR → Prop} : zW d MX1_findGreatest 84 S Q = zGo d MX1_findGreatest (.iload 9) z0 86 S Q := zW_step (I := .iload 9) rfl S Q
theorem eX1_findGreatest_86 {d : Nat} {S : zS} {Q : zR → Prop} : zW d MX1_findGreatest 86 S Q = zGo d MX1_findGreatest (.iload 4) z0 88 S Q := zW_step (I := .iload 4) rfl S Q
theorem eX1_findGreatest_88 {d : Nat} {S : zS} {Q : zR → Prop} : zW d MX1_findGreatest 88 S Q = zGo d MX1_findGreatest (.if_icmp .ne 15) (zt 103) 91 S Q := zW_step (I := .if_icmp .ne 15) rfl S Q
theorem eX1_findGreatest_91 {d : Nat} {S : zS} {Q : zR → Prop} : zW d MX1_findGreatest 91 S Q = zGo d MX1_findGreatest (.lload 5) z0 93 S Q := zW_step (I := .lload 5) rfl S Q
theorem eX1_findGreatest_93 {d : Nat} {S : zS} {Q : zR → Prop} : zW d MX1_findGreatest 93 S Q = zGo d MX1_findGreatest (.aload 1) z0 94 S Q := zW_step (I := .aload_n 1) rfl S Q
theorem eX1_findGreatest_94 {d : Nat} {S : zS} {Q : zR → Prop} : zW d MX1_findGreatest 94 S Q = zGo d MX1_findGreatest (.getfield 120) (zf 3 4 5) 97 S Q := zW_step (I := .getfield 120) rfl S Q
theorem eX1_findGreatest_97 {d : Nat} {S : zS} {Q : zR → Prop} : zW d MX1_findGreatest 97 S Q = zGo d MX1_findGreatest (.iload 8) z0 99 S Q := zW_step (I := .iload 8) rfl S Q
theorem eX1_findGreatest_99 {d : Nat} {S : zS} {Q : zR → Prop} : zW d MX1_findGreatest 99 S Q = zGo d MX1_findGreatest (.laload) z0 100 S Q := zW_step (I := .laload) rfl S Q
theorem eX1_findGreatest_100 {d : Nat} {S : zS} {Q : zR → Prop} : zW d MX1_findGreatest 100 S Q = zGo d MX1_findGreatest (.ladd) z0 101 S Q := zW_step (I := .ladd) rfl S Q
theorem eX1_findGreatest_101 {d : Nat} {S : zS} {Q : zR → Prop} : zW d MX1_findGreatest 101 S Q = zGo d MX1_findGreatest (.lstore 5) z0 103 S Q := zW_step (I := .lstore 5) rfl S Q
theorem eX1_findGreatest_103 {d : Nat} {S : zS} {Q : zR → Prop} : zW d MX1_findGreatest 103 S Q = zGo d MX1_findGreatest (.iinc 7 1) (zv (.int 1)) 106 S Q := zW_step (I := .iinc 7 1) rfl S Q
theorem eX1_findGreatest_106 {d : Nat} {S : zS} {Q : zR → Prop} : zW d MX1_findGreatest 106 S Q = zGo d MX1_findGreatest (.goto (-90)) (zt 16) 109 S Q := zW_step (I := .goto (-90)) rfl S Q
theorem eX1_findGreatest_109 {d : Nat} {S : zS} {Q : zR → Prop} : zW d MX1_findGreatest 109 S Q = zGo d MX1_findGreatest (.aload 0) z0 110 S Q := zW_step (I := .aload_n 0) rfl S Q
theorem eX1_findGreatest_110 {d : Nat} {S : zS} {Q : zR → Prop} : zW d MX1_findGreatest 110 S Q = zGo d MX1_findGreatest (.getfield 9) (zf 3 1 0) 113 S Q := zW_step (I := .getfield 9) rfl S Q
theorem eX1_findGreatest_113 {d : Nat} {S : zS} {Q : zR → Prop} : zW d MX1_findGreatest 113 S Q = zGo d MX1_findGreatest (.iload 2) z0 114 S Q := zW_step (I := .iload_n 2) rfl S Q
theorem eX1_findGreatest_114 {d : Nat} {S : zS} {Q : zR → Prop} : zW d MX1_findGreatest 114 S Q = zGo d MX1_findGreatest (.iload 4) z0 116 S Q := zW_step (I := .iload 4) rfl S Q
theorem eX1_findGreatest_116 {d : Nat} {S : zS} {Q : zR → Prop} : zW d MX1_findGreatest 116 S Q = zGo d MX1_findGreatest (.iastore) z0 117 S Q := zW_step (I := .iastore) rfl S Q
theorem eX1_findGreatest_117 {d : Nat} {S : zS} {Q : zR → Prop} : zW d MX1_findGreatest 117 S Q = zGo d MX1_findGreatest (.aload 1) z0 118 S Q := zW_step (I := .aload_n 1) rfl S Q
theorem eX1_findGreatest_118 {d : Nat} {S : zS} {Q : zR → Prop} : zW d MX1_findGreatest 118 S Q = zGo d MX1_findGreatest (.getfield 120) (zf 3 4 5) 121 S Q := zW_step (I := .getfield 120) rfl S Q
theorem eX1_findGreatest_121 {d : Nat} {S : zS} {Q : zR → Prop} : zW d MX1_findGreatest 121 S Q = zGo d MX1_findGreatest (.iload 2) z0 122 S Q := zW_step (I := .iload_n 2) rfl S Q
theorem eX1_findGreatest_122 {d : Nat} {S : zS} {Q : zR → Prop} : zW d MX1_findGreatest 122 S Q = zGo d MX1_findGreatest (.lload 5) z0 124 S Q := zW_step (I := .lload 5) rfl S Q
theorem eX1_findGreatest_124 {d : Nat} {S : zS} {Q : zR → Prop} : zW d MX1_findGreatest 124 S Q = zGo d MX1_findGreatest (.lastore) z0 125 S Q := zW_step (I := .lastore) rfl S Q
theorem eX1_findGreatest_125 {d : Nat} {S : zS} {Q : zR → Prop} : zW d MX1_findGreatest 125 S Q = zGo d MX1_findGreatest (.return_) z0 126 S Q := zW_step (I := .return_) rfl S Q
theorem rX1_findGreatest : MX1_findGreatest.2.2.2.2.1 = none := rfl
theorem eX1_longestStay_0 {d : Nat} {S : zS} {Q : zR → Prop} : zW d MX1_longestStay 0 S Q = zGo d MX1_longestStay (.aload 0) z0 1 S Q := zW_step (I := .aload_n 0) rfl S Q
theorem eX1_longestStay_1 {d : Nat} {S : zS} {Q : zR → Prop} : zW d MX1_longestStay 1 S Q = zGo d MX1_longestStay (.aload 1) z0 2 S Q := zW_step (I := .aload_n 1) rfl S Q
theorem eX1_longestStay_2 {d : Nat} {S : zS} {Q : zR → Prop} : zW d MX1_longestStay 2 S Q = zGo d MX1_longestStay (.iload 2) z0 3 S Q := zW_step (I := .iload_n 2) rfl S Q
theorem eX1_longestStay_3 {d : Nat} {S : zS} {Q : zR → Prop} : zW d MX1_longestStay 3 S Q = zGo d MX1_longestStay (.iconst (-1)) (zv (.int (-1))) 4 S Q := zW_step (I := .iconst (-1)) rfl S Q
theorem eX1_longestStay_4 {d : Nat} {S : zS} {Q : zR → Prop} : zW d MX1_longestStay 4 S Q = zGo d MX1_longestStay (.invokevirtual 128) (zc 33 4 1) 7 S Q := zW_step (I := .invokevirtual 128) rfl S Q
theorem eX1_longestStay_7 {d : Nat} {S : zS} {Q : zR → Prop} : zW d MX1_longestStay 7 S Q = zGo d MX1_longestStay (.ineg) z0 8 S Q := zW_step (I := .ineg) rfl S Q
theorem eX1_longestStay_8 {d : Nat} {S : zS} {Q : zR → Prop} : zW d MX1_longestStay 8 S Q = zGo d MX1_longestStay (.ireturn) z0 9 S Q := zW_step (I := .ireturn) rfl S Q
theorem rX1_longestStay : MX1_longestStay.2.2.2.2.1 = some .int := rfl
theorem eX1_shortestStay_0 {d : Nat} {S : zS} {Q : zR → Prop} : zW d MX1_shortestStay 0 S Q = zGo d MX1_shortestStay (.aload 0) z0 1 S Q := zW_step (I := .aload_n 0) rfl S Q
theorem eX1_shortestStay_1 {d : Nat} {S : zS} {Q : zR → Prop} : zW d MX1_shortestStay 1 S Q = zGo d MX1_shortestStay (.aload 1) z0 2 S Q := zW_step (I := .aload_n 1) rfl S Q
theorem eX1_shortestStay_2 {d : Nat} {S : zS} {Q : zR → Prop} : zW d MX1_shortestStay 2 S Q = zGo d MX1_shortestStay (.iload 2) z0 3 S Q := zW_step (I := .iload_n 2) rfl S Q
theorem eX1_shortestStay_3 {d : Nat} {S : zS} {Q : zR → Prop} : zW d MX1_shortestStay 3 S Q = zGo d MX1_shortestStay (.iconst 1) (zv (.int 1)) 4 S Q := zW_step (I := .iconst 1) rfl S Q
theorem eX1_shortestStay_4 {d : Nat} {S : zS} {Q : zR → Prop} : zW d MX1_shortestStay 4 S Q = zGo d MX1_shortestStay (.invokevirtual 128) (zc 33 4 1) 7 S Q := zW_step (I := .invokevirtual 128) rfl S Q
theorem eX1_shortestStay_7 {d : Nat} {S : zS} {Q : zR → Prop} : zW d MX1_shortestStay 7 S Q = zGo d MX1_shortestStay (.ireturn) z0 8 S Q := zW_step (I := .ireturn) rfl S Q
theorem rX1_shortestStay : MX1_shortestStay.2.2.2.2.1 = some .int := rfl
theorem eX1_leastStay_0 {d : Nat} {S : zS} {Q : zR → Prop} : zW d MX1_leastStay 0 S Q = zGo d MX1_leastStay (.getstatic 104) (zv (.ref 1000)) 3 S Q := zW_step (I := .getstatic 104) rfl S Q
theorem eX1_leastStay_3 {d : Nat} {S : zS} {Q : zR → Prop} : zW d MX1_leastStay 3 S Q = zGo d MX1_leastStay (.iload 2) z0 4 S Q := zW_step (I := .iload_n 2) rfl S Q
theorem eX1_leastStay_4 {d : Nat} {S : zS} {Q : zR → Prop} : zW d MX1_leastStay 4 S Q = zGo d MX1_leastStay (.iaload) z0 5 S Q := zW_step (I := .iaload) rfl S Q
theorem eX1_leastStay_5 {d : Nat} {S : zS} {Q : zR → Prop} : zW d MX1_leastStay 5 S Q = zGo d MX1_leastStay (.istore 4) z0 7 S Q := zW_step (I := .istore 4) rfl S Q
theorem eX1_leastStay_7 {d : Nat} {S : zS} {Q : zR → Prop} : zW d MX1_leastStay 7 S Q = zGo d MX1_leastStay (.iconst 0) (zv (.int 0)) 8 S Q := zW_step (I := .iconst 0) rfl S Q
theorem eX1_leastStay_8 {d : Nat} {S : zS} {Q : zR → Prop} : zW d MX1_leastStay 8 S Q = zGo d MX1_leastStay (.istore 5) z0 10 S Q := zW_step (I := .istore 5) rfl S Q
theorem eX1_leastStay_10 {d : Nat} {S : zS} {Q : zR → Prop} : zW d MX1_leastStay 10 S Q = zGo d MX1_leastStay (.iconst 0) (zv (.int 0)) 11 S Q := zW_step (I := .iconst 0) rfl S Q
theorem eX1_leastStay_11 {d : Nat} {S : zS} {Q : zR → Prop} : zW d MX1_leastStay 11 S Q = zGo d MX1_leastStay (.istore 6) z0 13 S Q := zW_step (I := .istore 6) rfl S Q
theorem eX1_leastStay_13 {d : Nat} {S : zS} {Q : zR → Prop} : zW d MX1_leastStay 13 S Q = zGo d MX1_leastStay (.aload 0) z0 14 S Q := zW_step (I := .aload_n 0) rfl S Q
theorem eX1_leastStay_14 {d : Nat} {S : zS} {Q : zR → Prop} : zW d MX1_leastStay 14 S Q = zGo d MX1_leastStay (.aload 1) z0 15 S Q := zW_step (I := .aload_n 1) rfl S Q
theorem eX1_leastStay_15 {d : Nat} {S : zS} {Q : zR → Prop} : zW d MX1_leastStay 15 S Q = zGo d MX1_leastStay (.invokevirtual 40) (zc 18 2 1) 18 S Q := zW_step (I := .invokevirtual 40) rfl S Q
theorem eX1_leastStay_18 {d : Nat} {S : zS} {Q : zR → Prop} : zW d MX1_leastStay 18 S Q = zGo d MX1_leastStay (.aload 1) z0 19 S Q := zW_step (I := .aload_n 1) rfl S Q
theorem eX1_leastStay_19 {d : Nat} {S : zS} {Q : zR → Prop} : zW d MX1_leastStay 19 S Q = zGo d MX1_leastStay (.invokevirtual 131) (zc 55 1 4) 22 S Q := zW_step (I := .invokevirtual 131) rfl S Q
theorem eX1_leastStay_22 {d : Nat} {S : zS} {Q : zR → Prop} : zW d MX1_leastStay 22 S Q = zGo d MX1_leastStay (.aload 1) z0 23 S Q := zW_step (I := .aload_n 1) rfl S Q
theorem eX1_leastStay_23 {d : Nat} {S : zS} {Q : zR → Prop} : zW d MX1_leastStay 23 S Q = zGo d MX1_leastStay (.getfield 30) (zf 0 4 14) 26 S Q := zW_step (I := .getfield 30) rfl S Q
theorem eX1_leastStay_26 {d : Nat} {S : zS} {Q : zR → Prop} : zW d MX1_leastStay 26 S Q = zGo d MX1_leastStay (.istore 7) z0 28 S Q := zW_step (I := .istore 7) rfl S Q
theorem eX1_leastStay_28 {d : Nat} {S : zS} {Q : zR → Prop} : zW d MX1_leastStay 28 S Q = zGo d MX1_leastStay (.iload 7) z0 30 S Q := zW_step (I := .iload 7) rfl S Q
theorem eX1_leastStay_30 {d : Nat} {S : zS} {Q : zR → Prop} : zW d MX1_leastStay 30 S Q = zGo d MX1_leastStay (.iload 4) z0 32 S Q := zW_step (I := .iload 4) rfl S Q
theorem eX1_leastStay_32 {d : Nat} {S : zS} {Q : zR → Prop} : zW d MX1_leastStay 32 S Q = zGo d MX1_leastStay (.if_icmp .lt 127) (zt 159) 35 S Q := zW_step (I := .if_icmp .lt 127) rfl S Q
theorem eX1_leastStay_35 {d : Nat} {S : zS} {Q : zR → Prop} : zW d MX1_leastStay 35 S Q = zGo d MX1_leastStay (.aload 1) z0 36 S Q := zW_step (I := .aload_n 1) rfl S Q
theorem eX1_leastStay_36 {d : Nat} {S : zS} {Q : zR → Prop} : zW d MX1_leastStay 36 S Q = zGo d MX1_leastStay (.getfield 134) (zf 3 4 3) 39 S Q := zW_step (I := .getfield 134) rfl S Q
theorem eX1_leastStay_39 {d : Nat} {S : zS} {Q : zR → Prop} : zW d MX1_leastStay 39 S Q = zGo d MX1_leastStay (.iload 7) z0 41 S Q := zW_step (I := .iload 7) rfl S Q
theorem eX1_leastStay_41 {d : Nat} {S : zS} {Q : zR → Prop} : zW d MX1_leastStay 41 S Q = zGo d MX1_leastStay (.laload) z0 42 S Q := zW_step (I := .laload) rfl S Q
theorem eX1_leastStay_42 {d : Nat} {S : zS} {Q : zR → Prop} : zW d MX1_leastStay 42 S Q = zGo d MX1_leastStay (.lconst 0) (zv (.long 0)) 43 S Q := zW_step (I := .lconst 0) rfl S Q
theorem eX1_leastStay_43 {d : Nat} {S : zS} {Q : zR → Prop} : zW d MX1_leastStay 43 S Q = zGo d MX1_leastStay (.lcmp) z0 44 S Q := zW_step (I := .lcmp) rfl S Q
theorem eX1_leastStay_44 {d : Nat} {S : zS} {Q : zR → Prop} : zW d MX1_leastStay 44 S Q = zGo d MX1_leastStay (.ifCond .le 109) (zt 153) 47 S Q := zW_step (I := .ifCond .le 109) rfl S Q
theorem eX1_leastStay_47 {d : Nat} {S : zS} {Q : zR → Prop} : zW d MX1_leastStay 47 S Q = zGo d MX1_leastStay (.aload 1) z0 48 S Q := zW_step (I := .aload_n 1) rfl S Q
theorem eX1_leastStay_48 {d : Nat} {S : zS} {Q : zR → Prop} : zW d MX1_leastStay 48 S Q = zGo d MX1_leastStay (.getfield 89) (zf 3 4 0) 51 S Q := zW_step (I := .getfield 89) rfl S Q
theorem eX1_leastStay_51 {d : Nat} {S : zS} {Q : zR → Prop} : zW d MX1_leastStay 51 S Q = zGo d MX1_leastStay (.iload 7) z0 53 S Q := zW_step (I := .iload 7) rfl S Q
theorem eX1_leastStay_53 {d : Nat} {S : zS} {Q : zR → Prop} : zW d MX1_leastStay 53 S Q = zGo d MX1_leastStay (.iaload) z0 54 S Q := zW_step (I := .iaload) rfl S Q
theorem eX1_leastStay_54 {d : Nat} {S : zS} {Q : zR → Prop} : zW d MX1_leastStay 54 S Q = zGo d MX1_leastStay (.iload 2) z0 55 S Q := zW_step (I := .iload_n 2) rfl S Q
theorem eX1_leastStay_55 {d : Nat} {S : zS} {Q : zR → Prop} : zW d MX1_leastStay 55 S Q = zGo d MX1_leastStay (.ishr) z0 56 S Q := zW_step (I := .ishr) rfl S Q
theorem eX1_leastStay_56 {d : Nat} {S : zS} {Q : zR → Prop} : zW d MX1_leastStay 56 S Q = zGo d MX1_leastStay (.iconst 1) (zv (.int 1)) 57 S Q := zW_step (I := .iconst 1) rfl S Q
theorem eX1_leastStay_57 {d : Nat} {S : zS} {Q : zR → Prop} : zW d MX1_leastStay 57 S Q = zGo d MX1_leastStay (.iand) z0 58 S Q := zW_step (I := .iand) rfl S Q
theorem eX1_leastStay_58 {d : Nat} {S : zS} {Q : zR → Prop} : zW d MX1_leastStay 58 S Q = zGo d MX1_leastStay (.iconst 1) (zv (.int 1)) 59 S Q := zW_step (I := .iconst 1) rfl S Q
theorem eX1_leastStay_59 {d : Nat} {S : zS} {Q : zR → Prop} : zW d MX1_leastStay 59 S Q = zGo d MX1_leastStay (.if_icmp .ne 94) (zt 153) 62 S Q := zW_step (I := .if_icmp .ne 94) rfl S Q
theorem eX1_leastStay_62 {d : Nat} {S : zS} {Q : zR → Prop} : zW d MX1_leastStay 62 S Q = zGo d MX1_leastStay (.aload 0) z0 63 S Q := zW_step (I := .aload_n 0) rfl S Q
theorem eX1_leastStay_63 {d : Nat} {S : zS} {Q : zR → Prop} : zW d MX1_leastStay 63 S Q = zGo d MX1_leastStay (.getfield 9) (zf 3 1 0) 66 S Q := zW_step (I := .getfield 9) rfl S Q
theorem eX1_leastStay_66 {d : Nat} {S : zS} {Q : zR → Prop} : zW d MX1_leastStay 66 S Q = zGo d MX1_leastStay (.iload 7) z0 68 S Q := zW_step (I := .iload 7) rfl S Q
theorem eX1_leastStay_68 {d : Nat} {S : zS} {Q : zR → Prop} : zW d MX1_leastStay 68 S Q = zGo d MX1_leastStay (.aload 0) z0 69 S Q := zW_step (I := .aload_n 0) rfl S Q
theorem eX1_leastStay_69 {d : Nat} {S : zS} {Q : zR → Prop} : zW d MX1_leastStay 69 S Q = zGo d MX1_leastStay (.aload 1) z0 70 S Q := zW_step (I := .aload_n 1) rfl S Q
theorem eX1_leastStay_70 {d : Nat} {S : zS} {Q : zR → Prop} : zW d MX1_leastStay 70 S Q = zGo d MX1_leastStay (.iload 7) z0 72 S Q := zW_step (I := .iload 7) rfl S Q
theorem eX1_leastStay_72 {d : Nat} {S : zS} {Q : zR → Prop} : zW d MX1_leastStay 72 S Q = zGo d MX1_leastStay (.iload 2) z0 73 S Q := zW_step (I := .iload_n 2) rfl S Q
theorem eX1_leastStay_73 {d : Nat} {S : zS} {Q : zR → Prop} : zW d MX1_leastStay 73 S Q = zGo d MX1_leastStay (.iload 3) z0 74 S Q := zW_step (I := .iload_n 3) rfl S Q
theorem eX1_leastStay_74 {d : Nat} {S : zS} {Q : zR → Prop} : zW d MX1_leastStay 74 S Q = zGo d MX1_leastStay (.invokevirtual 137) (zc 34 5 1) 77 S Q := zW_step (I := .invokevirtual 137) rfl S Q
theorem eX1_leastStay_77 {d : Nat} {S : zS} {Q : zR → Prop} : zW d MX1_leastStay 77 S Q = zGo d MX1_leastStay (.iastore) z0 78 S Q := zW_step (I := .iastore) rfl S Q
theorem eX1_leastStay_78 {d : Nat} {S : zS} {Q : zR → Prop} : zW d MX1_leastStay 78 S Q = zGo d MX1_leastStay (.iload 7) z0 80 S Q := zW_step (I := .iload 7) rfl S Q
theorem eX1_leastStay_80 {d : Nat} {S : zS} {Q : zR → Prop} : zW d MX1_leastStay 80 S Q = zGo d MX1_leastStay (.iload 4) z0 82 S Q := zW_step (I := .iload 4) rfl S Q
theorem eX1_leastStay_82 {d : Nat} {S : zS} {Q : zR → Prop} : zW d MX1_leastStay 82 S Q = zGo d MX1_leastStay (.isub) z0 83 S Q := zW_step (I := .isub) rfl S Q
theorem eX1_leastStay_83 {d : Nat} {S : zS} {Q : zR → Prop} : zW d MX1_leastStay 83 S Q = zGo d MX1_leastStay (.istore 8) z0 85 S Q := zW_step (I := .istore 8) rfl S Q
theorem eX1_leastStay_85 {d : Nat} {S : zS} {Q : zR → Prop} : zW d MX1_leastStay 85 S Q = zGo d MX1_leastStay (.aload 1) z0 86 S Q := zW_step (I := .aload_n 1) rfl S Q
theorem eX1_leastStay_86 {d : Nat} {S : zS} {Q : zR → Prop} : zW d MX1_leastStay 86 S Q = zGo d MX1_leastStay (.getfield 134) (zf 3 4 3) 89 S Q := zW_step (I := .getfield 134) rfl S Q
theorem eX1_leastStay_89 {d : Nat} {S : zS} {Q : zR → Prop} : zW d MX1_leastStay 89 S Q = zGo d MX1_leastStay (.iload 8) z0 91 S Q := zW_step (I := .iload 8) rfl S Q
theorem eX1_leastStay_91 {d : Nat} {S : zS} {Q : zR → Prop} : zW d MX1_leastStay 91 S Q = zGo d MX1_leastStay (.laload) z0 92 S Q := zW_step (I := .laload) rfl S Q
theorem eX1_leastStay_92 {d : Nat} {S : zS} {Q : zR → Prop} : zW d MX1_leastStay 92 S Q = zGo d MX1_leastStay (.lconst 0) (zv (.long 0)) 93 S Q := zW_step (I := .lconst 0) rfl S Q
theorem eX1_leastStay_93 {d : Nat} {S : zS} {Q : zR → Prop} : zW d MX1_leastStay 93 S Q = zGo d MX1_leastStay (.lcmp) z0 94 S Q := zW_step (I := .lcmp) rfl S Q
theorem eX1_leastStay_94 {d : Nat} {S : zS} {Q : zR → Prop} : zW d MX1_leastStay 94 S Q = zGo d MX1_leastStay (.ifCond .le 22) (zt 116) 97 S Q := zW_step (I := .ifCond .le 22) rfl S Q
theorem eX1_leastStay_97 {d : Nat} {S : zS} {Q : zR → Prop} : zW d MX1_leastStay 97 S Q = zGo d MX1_leastStay (.aload 1) z0 98 S Q := zW_step (I := .aload_n 1) rfl S Q
theorem eX1_leastStay_98 {d : Nat} {S : zS} {Q : zR → Prop} : zW d MX1_leastStay 98 S Q = zGo d MX1_leastStay (.getfield 86) (zf 3 4 2) 101 S Q := zW_step (I := .getfield 86) rfl S Q
theorem eX1_leastStay_101 {d : Nat} {S : zS} {Q : zR → Prop} : zW d MX1_leastStay 101 S Q = zGo d MX1_leastStay (.iload 8) z0 103 S Q := zW_step (I := .iload 8) rfl S Q
theorem eX1_leastStay_103 {d : Nat} {S : zS} {Q : zR → Prop} : zW d MX1_leastStay 103 S Q = zGo d MX1_leastStay (.iaload) z0 104 S Q := zW_step (I := .iaload) rfl S Q
theorem eX1_leastStay_104 {d : Nat} {S : zS} {Q : zR → Prop} : zW d MX1_leastStay 104 S Q = zGo d MX1_leastStay (.iload 2) z0 105 S Q := zW_step (I := .iload_n 2) rfl S Q
theorem eX1_leastStay_105 {d : Nat} {S : zS} {Q : zR → Prop} : zW d MX1_leastStay 105 S Q = zGo d MX1_leastStay (.ishr) z0 106 S Q := zW_step (I := .ishr) rfl S Q
theorem eX1_leastStay_106 {d : Nat} {S : zS} {Q : zR → Prop} : zW d MX1_leastStay 106 S Q = zGo d MX1_leastStay (.iconst 1) (zv (.int 1)) 107 S Q := zW_step (I := .iconst 1) rfl S Q
theorem eX1_leastStay_107 {d : Nat} {S : zS} {Q : zR → Prop} : zW d MX1_leastStay 107 S Q = zGo d MX1_leastStay (.iand) z0 108 S Q := zW_step (I := .iand) rfl S Q
theorem eX1_leastStay_108 {d : Nat} {S : zS} {Q : zR → Prop} : zW d MX1_leastStay 108 S Q = zGo d MX1_leastStay (.iconst 1) (zv (.int 1)) 109 S Q := zW_step (I := .iconst 1) rfl S Q
theorem eX1_leastStay_109 {d : Nat} {S : zS} {Q : zR → Prop} : zW d MX1_leastStay 109 S Q = zGo d MX1_leastStay (.if_icmp .ne 7) (zt 116) 112 S Q := zW_step (I := .if_icmp .ne 7) rfl S Q
theorem eX1_leastStay_112 {d : Nat} {S : zS} {Q : zR → Prop} : zW d MX1_leastStay 112 S Q = zGo d MX1_leastStay (.iconst 1) (zv (.int 1)) 113 S Q := zW_step (I := .iconst 1) rfl S Q
theorem eX1_leastStay_113 {d : Nat} {S : zS} {Q : zR → Prop} : zW d MX1_leastStay 113 S Q = zGo d MX1_leastStay (.goto 4) (zt 117) 116 S Q := zW_step (I := .goto 4) rfl S Q
theorem eX1_leastStay_116 {d : Nat} {S : zS} {Q : zR → Prop} : zW d MX1_leastStay 116 S Q = zGo d MX1_leastStay (.iconst 0) (zv (.int 0)) 117 S Q := zW_step (I := .iconst 0) rfl S Q
theorem eX1_leastStay_117 {d : Nat} {S : zS} {Q : zR → Prop} : zW d MX1_leastStay 117 S Q = zGo d MX1_leastStay (.istore 9) z0 119 S Q := zW_step (I := .istore 9) rfl S Q
theorem eX1_leastStay_119 {d : Nat} {S : zS} {Q : zR → Prop} : zW d MX1_leastStay 119 S Q = zGo d MX1_leastStay (.iload 9) z0 121 S Q := zW_step (I := .iload 9) rfl S Q
theorem eX1_leastStay_121 {d : Nat} {S : zS} {Q : zR → Prop} : zW d MX1_leastStay 121 S Q = zGo d MX1_leastStay (.ifCond .eq 32) (zt 153) 124 S Q := zW_step (I := .ifCond .eq 32) rfl S Q
theorem eX1_leastStay_124 {d : Nat} {S : zS} {Q : zR → Prop} : zW d MX1_leastStay 124 S Q = zGo d MX1_leastStay (.iload 6) z0 126 S Q := zW_step (I := .iload 6) rfl S Q
theorem eX1_leastStay_126 {d : Nat} {S : zS} {Q : zR → Prop} : zW d MX1_leastStay 126 S Q = zGo d MX1_leastStay (.ifCond .eq 15) (zt 141) 129 S Q := zW_step (I := .ifCond .eq 15) rfl S Q
theorem eX1_leastStay_129 {d : Nat} {S : zS} {Q : zR → Prop} : zW d MX1_leastStay 129 S Q = zGo d MX1_leastStay (.aload 0) z0 130 S Q := zW_step (I := .aload_n 0) rfl S Q
theorem eX1_leastStay_130 {d : Nat} {S : zS} {Q : zR → Prop} : zW d MX1_leastStay 130 S Q = zGo d MX1_leastStay (.getfield 9) (zf 3 1 0) 133 S Q := zW_step (I := .getfield 9) rfl S Q
theorem eX1_leastStay_133 {d : Nat} {S : zS} {Q : zR → Prop} : zW d MX1_leastStay 133 S Q = zGo d MX1_leastStay (.iload 7) z0 135 S Q := zW_step (I := .iload 7) rfl S Q
theorem eX1_leastStay_135 {d : Nat} {S : zS} {Q : zR → Prop} : zW d MX1_leastStay 135 S Q = zGo d MX1_leastStay (.iaload) z0 136 S Q := zW_step (I := .iaload) rfl S Q
theorem eX1_leastStay_136 {d : Nat} {S : zS} {Q : zR → Prop} : zW d MX1_leastStay 136 S Q = zGo d MX1_leastStay (.iload 5) z0 138 S Q := zW_step (I := .iload 5) rfl S Q
theorem eX1_leastStay_138 {d : Nat} {S : zS} {Q : zR → Prop} : zW d MX1_leastStay 138 S Q = zGo d MX1_leastStay (.if_icmp .ge 15) (zt 153) 141 S Q := zW_step (I := .if_icmp .ge 15) rfl S Q
theorem eX1_leastStay_141 {d : Nat} {S : zS} {Q : zR → Prop} : zW d MX1_leastStay 141 S Q = zGo d MX1_leastStay (.aload 0) z0 142 S Q := zW_step (I := .aload_n 0) rfl S Q
theorem eX1_leastStay_142 {d : Nat} {S : zS} {Q : zR → Prop} : zW d MX1_leastStay 142 S Q = zGo d MX1_leastStay (.getfield 9) (zf 3 1 0) 145 S Q := zW_step (I := .getfield 9) rfl S Q
theorem eX1_leastStay_145 {d : Nat} {S : zS} {Q : zR → Prop} : zW d MX1_leastStay 145 S Q = zGo d MX1_leastStay (.iload 7) z0 147 S Q := zW_step (I := .iload 7) rfl S Q
theorem eX1_leastStay_147 {d : Nat} {S : zS} {Q : zR → Prop} : zW d MX1_leastStay 147 S Q = zGo d MX1_leastStay (.iaload) z0 148 S Q := zW_step (I := .iaload) rfl S Q
theorem eX1_leastStay_148 {d : Nat} {S : zS} {Q : zR → Prop} : zW d MX1_leastStay 148 S Q = zGo d MX1_leastStay (.istore 5) z0 150 S Q := zW_step (I := .istore 5) rfl S Q
theorem eX1_leastStay_150 {d : Nat} {S : zS} {Q : zR → Prop} : zW d MX1_leastStay 150 S Q = zGo d MX1_leastStay (.iconst 1) (zv (.int 1)) 151 S Q := zW_step (I := .iconst 1) rfl S Q
theorem eX1_leastStay_151 {d : Nat} {S : zS} {Q : zR → Prop} : zW d MX1_leastStay 151 S Q = zGo d MX1_leastStay (.istore 6) z0 153 S Q := zW_step (I := .istore 6) rfl S Q
theorem eX1_leastStay_153 {d : Nat} {S : zS} {Q : zR → Prop} : zW d MX1_leastStay 153 S Q = zGo d MX1_leastStay (.iinc 7 (-1)) (zv (.int (-1))) 156 S Q := zW_step (I := .iinc 7 (-1)) rfl S Q
theorem eX1_leastStay_156 {d : Nat} {S : zS} {Q : zR → Prop} : zW d MX1_leastStay 156 S Q = zGo d MX1_leastStay (.goto (-128)) (zt 28) 159 S Q := zW_step (I := .goto (-128)) rfl S Q
theorem eX1_leastStay_159 {d : Nat} {S : zS} {Q : zR → Prop} : zW d MX1_leastStay 159 S Q = zGo d MX1_leastStay (.iload 5) z0 161 S Q := zW_step (I := .iload 5) rfl S Q
theorem eX1_leastStay_161 {d : Nat} {S : zS} {Q : zR → Prop} : zW d MX1_leastStay 161 S Q = zGo d MX1_leastStay (.ireturn) z0 162 S Q := zW_step (I := .ireturn) rfl S Q
theorem rX1_leastStay : MX1_leastStay.2.2.2.2.1 = some .int := rfl
theorem eX1_leastRest_0 {d : Nat} {S : zS} {Q : zR → Prop} : zW d MX1_leastRest 0 S Q = zGo d MX1_leastRest (.aload 1) z0 1 S Q := zW_step (I := .aload_n 1) rfl S Q
theorem eX1_leastRest_1 {d : Nat} {S : zS} {Q : zR → Prop} : zW d MX1_leastRest 1 S Q = zGo d MX1_leastRest (.getfield 86) (zf 3 4 2) 4 S Q := zW_step (I := .getfield 86) rfl S Q
theorem eX1_leastRest_4 {d : Nat} {S : zS} {Q : zR → Prop} : zW d MX1_leastRest 4 S Q = zGo d MX1_leastRest (.iload 2) z0 5 S Q := zW_step (I := .iload_n 2) rfl S Q
theorem eX1_leastRest_5 {d : Nat} {S : zS} {Q : zR → Prop} : zW d MX1_leastRest 5 S Q = zGo d MX1_leastRest (.iaload) z0 6 S Q := zW_step (I := .iaload) rfl S Q
theorem eX1_leastRest_6 {d : Nat} {S : zS} {Q : zR → Prop} : zW d MX1_leastRest 6 S Q = zGo d MX1_leastRest (.istore 5) z0 8 S Q := zW_step (I := .istore 5) rfl S Q
theorem eX1_leastRest_8 {d : Nat} {S : zS} {Q : zR → Prop} : zW d MX1_leastRest 8 S Q = zGo d MX1_leastRest (.iconst 0) (zv (.int 0)) 9 S Q := zW_step (I := .iconst 0) rfl S Q
theorem eX1_leastRest_9 {d : Nat} {S : zS} {Q : zR → Prop} : zW d MX1_leastRest 9 S Q = zGo d MX1_leastRest (.istore 6) z0 11 S Q := zW_step (I := .istore 6) rfl S Q
theorem eX1_leastRest_11 {d : Nat} {S : zS} {Q : zR → Prop} : zW d MX1_leastRest 11 S Q = zGo d MX1_leastRest (.iconst 0) (zv (.int 0)) 12 S Q := zW_step (I := .iconst 0) rfl S Q
theorem eX1_leastRest_12 {d : Nat} {S : zS} {Q : zR → Prop} : zW d MX1_leastRest 12 S Q = zGo d MX1_leastRest (.istore 7) z0 14 S Q := zW_step (I := .istore 7) rfl S Q
theorem eX1_leastRest_14 {d : Nat} {S : zS} {Q : zR → Prop} : zW d MX1_leastRest 14 S Q = zGo d MX1_leastRest (.iconst 0) (zv (.int 0)) 15 S Q := zW_step (I := .iconst 0) rfl S Q
theorem eX1_leastRest_15 {d : Nat} {S : zS} {Q : zR → Prop} : zW d MX1_leastRest 15 S Q = zGo d MX1_leastRest (.istore 8) z0 17 S Q := zW_step (I := .istore 8) rfl S Q
theorem eX1_leastRest_17 {d : Nat} {S : zS} {Q : zR → Prop} : zW d MX1_leastRest 17 S Q = zGo d MX1_leastRest (.iload 8) z0 19 S Q := zW_step (I := .iload 8) rfl S Q
theorem eX1_leastRest_19 {d : Nat} {S : zS} {Q : zR → Prop} : zW d MX1_leastRest 19 S Q = zGo d MX1_leastRest (.aload 1) z0 20 S Q := zW_step (I := .aload_n 1) rfl S Q
theorem eX1_leastRest_20 {d : Nat} {S : zS} {Q : zR → Prop} : zW d MX1_leastRest 20 S Q = zGo d MX1_leastRest (.getfield 92) (zf 0 4 13) 23 S Q := zW_step (I := .getfield 92) rfl S Q
theorem eX1_leastRest_23 {d : Nat} {S : zS} {Q : zR → Prop} : zW d MX1_leastRest 23 S Q = zGo d MX1_leastRest (.if_icmp .ge 67) (zt 90) 26 S Q := zW_step (I := .if_icmp .ge 67) rfl S Q
theorem eX1_leastRest_26 {d : Nat} {S : zS} {Q : zR → Prop} : zW d MX1_leastRest 26 S Q = zGo d MX1_leastRest (.iload 5) z0 28 S Q := zW_step (I := .iload 5) rfl S Q
theorem eX1_leastRest_28 {d : Nat} {S : zS} {Q : zR → Prop} : zW d MX1_leastRest 28 S Q = zGo d MX1_leastRest (.iload 8) z0 30 S Q := zW_step (I := .iload 8) rfl S Q
theorem eX1_leastRest_30 {d : Nat} {S : zS} {Q : zR → Prop} : zW d MX1_leastRest 30 S Q = zGo d MX1_leastRest (.ishr) z0 31 S Q := zW_step (I := .ishr) rfl S Q
theorem eX1_leastRest_31 {d : Nat} {S : zS} {Q : zR → Prop} : zW d MX1_leastRest 31 S Q = zGo d MX1_leastRest (.iconst 1) (zv (.int 1)) 32 S Q := zW_step (I := .iconst 1) rfl S Q
theorem eX1_leastRest_32 {d : Nat} {S : zS} {Q : zR → Prop} : zW d MX1_leastRest 32 S Q = zGo d MX1_leastRest (.iand) z0 33 S Q := zW_step (I := .iand) rfl S Q
theorem eX1_leastRest_33 {d : Nat} {S : zS} {Q : zR → Prop} : zW d MX1_leastRest 33 S Q = zGo d MX1_leastRest (.iconst 1) (zv (.int 1)) 34 S Q := zW_step (I := .iconst 1) rfl S Q
theorem eX1_leastRest_34 {d : Nat} {S : zS} {Q : zR → Prop} : zW d MX1_leastRest 34 S Q = zGo d MX1_leastRest (.if_icmp .ne 50) (zt 84) 37 S Q := zW_step (I := .if_icmp .ne 50) rfl S Q
theorem eX1_leastRest_37 {d : Nat} {S : zS} {Q : zR → Prop} : zW d MX1_leastRest 37 S Q = zGo d MX1_leastRest (.iload 8) z0 39 S Q := zW_step (I := .iload 8) rfl S Q
theorem eX1_leastRest_39 {d : Nat} {S : zS} {Q : zR → Prop} : zW d MX1_leastRest 39 S Q = zGo d MX1_leastRest (.iload 3) z0 40 S Q := zW_step (I := .iload_n 3) rfl S Q
theorem eX1_leastRest_40 {d : Nat} {S : zS} {Q : zR → Prop} : zW d MX1_leastRest 40 S Q = zGo d MX1_leastRest (.if_icmp .ne 7) (zt 47) 43 S Q := zW_step (I := .if_icmp .ne 7) rfl S Q
theorem eX1_leastRest_43 {d : Nat} {S : zS} {Q : zR → Prop} : zW d MX1_leastRest 43 S Q = zGo d MX1_leastRest (.iconst 0) (zv (.int 0)) 44 S Q := zW_step (I := .iconst 0) rfl S Q
theorem eX1_leastRest_44 {d : Nat} {S : zS} {Q : zR → Prop} : zW d MX1_leastRest 44 S Q = zGo d MX1_leastRest (.goto 19) (zt 63) 47 S Q := zW_step (I := .goto 19) rfl S Q
theorem eX1_leastRest_47 {d : Nat} {S : zS} {Q : zR → Prop} : zW d MX1_leastRest 47 S Q = zGo d MX1_leastRest (.iload 4) z0 49 S Q := zW_step (I := .iload 4) rfl S Q
theorem eX1_leastRest_49 {d : Nat} {S : zS} {Q : zR → Prop} : zW d MX1_leastRest 49 S Q = zGo d MX1_leastRest (.aload 0) z0 50 S Q := zW_step (I := .aload_n 0) rfl S Q
theorem eX1_leastRest_50 {d : Nat} {S : zS} {Q : zR → Prop} : zW d MX1_leastRest 50 S Q = zGo d MX1_leastRest (.getfield 9) (zf 3 1 0) 53 S Q := zW_step (I := .getfield 9) rfl S Q
theorem eX1_leastRest_53 {d : Nat} {S : zS} {Q : zR → Prop} : zW d MX1_leastRest 53 S Q = zGo d MX1_leastRest (.iload 2) z0 54 S Q := zW_step (I := .iload_n 2) rfl S Q
theorem eX1_leastRest_54 {d : Nat} {S : zS} {Q : zR → Prop} : zW d MX1_leastRest 54 S Q = zGo d MX1_leastRest (.getstatic 104) (zv (.ref 1000)) 57 S Q := zW_step (I := .getstatic 104) rfl S Q
theorem eX1_leastRest_57 {d : Nat} {S : zS} {Q : zR → Prop} : zW d MX1_leastRest 57 S Q = zGo d MX1_leastRest (.iload 8) z0 59 S Q := zW_step (I := .iload 8) rfl S Q
theorem eX1_leastRest_59 {d : Nat} {S : zS} {Q : zR → Prop} : zW d MX1_leastRest 59 S Q = zGo d MX1_leastRest (.iaload) z0 60 S Q := zW_step (I := .iaload) rfl S Q
theorem eX1_leastRest_60 {d : Nat} {S : zS} {Q : zR → Prop} : zW d MX1_leastRest 60 S Q = zGo d MX1_leastRest (.iadd) z0 61 S Q := zW_step (I := .iadd) rfl S Q
theorem eX1_leastRest_61 {d : Nat} {S : zS} {Q : zR → Prop} : zW d MX1_leastRest 61 S Q = zGo d MX1_leastRest (.iaload) z0 62 S Q := zW_step (I := .iaload) rfl S Q
theorem eX1_leastRest_62 {d : Nat} {S : zS} {Q : zR → Prop} : zW d MX1_leastRest 62 S Q = zGo d MX1_leastRest (.iadd) z0 63 S Q := zW_step (I := .iadd) rfl S Q
theorem eX1_leastRest_63 {d : Nat} {S : zS} {Q : zR → Prop} : zW d MX1_leastRest 63 S Q = zGo d MX1_leastRest (.istore 9) z0 65 S Q := zW_step (I := .istore 9) rfl S Q
theorem eX1_leastRest_65 {d : Nat} {S : zS} {Q : zR → Prop} : zW d MX1_leastRest 65 S Q = zGo d MX1_leastRest (.iload 7) z0 67 S Q := zW_step (I := .iload 7) rfl S Q
theorem eX1_leastRest_67 {d : Nat} {S : zS} {Q : zR → Prop} : zW d MX1_leastRest 67 S Q = zGo d MX1_leastRest (.ifCond .eq 10) (zt 77) 70 S Q := zW_step (I := .ifCond .eq 10) rfl S Q
theorem eX1_leastRest_70 {d : Nat} {S : zS} {Q : zR → Prop} : zW d MX1_leastRest 70 S Q = zGo d MX1_leastRest (.iload 9) z0 72 S Q := zW_step (I := .iload 9) rfl S Q
theorem eX1_leastRest_72 {d : Nat} {S : zS} {Q : zR → Prop} : zW d MX1_leastRest 72 S Q = zGo d MX1_leastRest (.iload 6) z0 74 S Q := zW_step (I := .iload 6) rfl S Q
theorem eX1_leastRest_74 {d : Nat} {S : zS} {Q : zR → Prop} : zW d MX1_leastRest 74 S Q = zGo d MX1_leastRest (.if_icmp .ge 10) (zt 84) 77 S Q := zW_step (I := .if_icmp .ge 10) rfl S Q
theorem eX1_leastRest_77 {d : Nat} {S : zS} {Q : zR → Prop} : zW d MX1_leastRest 77 S Q = zGo d MX1_leastRest (.iload 9) z0 79 S Q := zW_step (I := .iload 9) rfl S Q
theorem eX1_leastRest_79 {d : Nat} {S : zS} {Q : zR → Prop} : zW d MX1_leastRest 79 S Q = zGo d MX1_leastRest (.istore 6) z0 81 S Q := zW_step (I := .istore 6) rfl S Q
theorem eX1_leastRest_81 {d : Nat} {S : zS} {Q : zR → Prop} : zW d MX1_leastRest 81 S Q = zGo d MX1_leastRest (.iconst 1) (zv (.int 1)) 82 S Q := zW_step (I := .iconst 1) rfl S Q
theorem eX1_leastRest_82 {d : Nat} {S : zS} {Q : zR → Prop} : zW d MX1_leastRest 82 S Q = zGo d MX1_leastRest (.istore 7) z0 84 S Q := zW_step (I := .istore 7) rfl S Q
theorem eX1_leastRest_84 {d : Nat} {S : zS} {Q : zR → Prop} : zW d MX1_leastRest 84 S Q = zGo d MX1_leastRest (.iinc 8 1) (zv (.int 1)) 87 S Q := zW_step (I := .iinc 8 1) rfl S Q
theorem eX1_leastRest_87 {d : Nat} {S : zS} {Q : zR → Prop} : zW d MX1_leastRest 87 S Q = zGo d MX1_leastRest (.goto (-70)) (zt 17) 90 S Q := zW_step (I := .goto (-70)) rfl S Q
theorem eX1_leastRest_90 {d : Nat} {S : zS} {Q : zR → Prop} : zW d MX1_leastRest 90 S Q = zGo d MX1_leastRest (.iload 6) z0 92 S Q := zW_step (I := .iload 6) rfl S Q
theorem eX1_leastRest_92 {d : Nat} {S : zS} {Q : zR → Prop} : zW d MX1_leastRest 92 S Q = zGo d MX1_leastRest (.ireturn) z0 93 S Q := zW_step (I := .ireturn) rfl S Q
theorem rX1_leastRest : MX1_leastRest.2.2.2.2.1 = some .int := rfl
section COST1
variable {h : Nat → zE} {te : cText} {tO dr : cTold} {pa : cPast} {ro : cRow} {fi : cFits} {od : cOrd} {cs : cCst} {ci : cCir} {ga : cGam} {r1 r2 : cRule} {sw : Bool} {k len m on la : Nat} {A : Nat → Nat → Nat} {B : Nat → Nat → Int64} {C : Nat → Nat → Nat} {op : Nat → Int32} {sn : Int32} {tl : Bool} {K cl : Nat} {co wo th : Nat → Int32} {ma wi wg : Nat → Nat} {ly : Bool} {d : Nat} {u : zU} {Q : zR → Prop} {H : zH}
/-- a loop downwards -/
def dtr {α : Type} (f : Nat → α → α) : Nat → α → α
  | 0, x => x
  | t + 1, x => dtr f t (f t x)
theorem dtr_0 {α : Type} (f : Nat → α → α) (x : α) : dtr f 0 x = x := rfl
theorem dtr_s {α : Type} (f : Nat → α → α) (t : Nat) (x : α) : dtr f (t + 1) x = dtr f t (f t x) := rfl
theorem c_wAt {g c i l : Nat} : zK (d + 1) 23 [.int (nI g), .int (nI c), .int (nI i), .int (nI l)] H Q = Q (some (.int (nI (g * 128 + c * 64 + i * 8 + l))), H) := by
  obtain ⟨h, u⟩ := H
  refine zK_of (k := 1) (by omega) ?_
  refine zK_in (M := MX1_worthAt) rfl (Nat.le_of_ble_eq_true rfl) ?_
  show zW 0 MX1_worthAt 0 ([.int (nI g), .int (nI c), .int (nI i), .int (nI l)], [], (h, u)) _
  simp (disch := first | assumption | omega | decide) only [eX1_worthAt_0, eX1_worthAt_1, eX1_worthAt_4, eX1_worthAt_5, eX1_worthAt_6, eX1_worthAt_8, eX1_worthAt_9, eX1_worthAt_10, eX1_worthAt_11, eX1_worthAt_13, eX1_worthAt_14, eX1_worthAt_15, eX1_worthAt_16, eX1_worthAt_17, rX1_worthAt, zg_bipush, zg_iadd, zg_iload, zg_imul, zg_ireturn, zg_sipush, q10, q01, q00, ite_self, zLd_i, zLd_l, zLd_a, zInc_i, zGet_o, zGet2_s, zPut_o, zAld_i, zAll_j, zAst_i, zAsl_j, zLen_i, zLen_j, zRt_i, zRt_z, zRl2_l, zRv_n, List.getElem?_cons_zero, List.getElem?_cons_succ, List.length_cons, List.length_nil, z_set, z_set2, z_cut, List.set_cons_zero, List.set_cons_succ, Option.toList_some, Option.toList_none, List.cons_append, List.nil_append, zif, zW_ite, zfit_0, zfit_1, zfit_2, zfit_3, zisc_o, zRt_c, zRt_b, List.map_cons, List.map_nil, List.sum_cons, List.sum_nil, true_and, and_true, if_true, if_false, ite_true, ite_false, Nat.reduceLT, Nat.reduceLeDiff, Nat.reduceAdd, Nat.reduceEqDiff, eq_self, not_true_eq_false, not_false_eq_true, Nat.lt_irrefl, or_true, true_or, or_false, false_or, z_cell_lt, Value.category, ltT, ltF, leT, leF, natT, natF, iltT, iltF, ieqT, ieqF, vpT, cl_nI, q_bit, pow_cell, z_pw_eq, nI_add, nI_mul, nI_m1, nI_dn, nI_dn0, m1_lt, lg_pos, i32_irr, q_shT, ite01, ite00, updL_z, q_upd, Bool.false_eq_true, nI_l2i, jlT_0, jlF_0, jgT_0, jgF_0, jeT_0, jeF_0, jv_0, jc_0, jm_0, jM_0, ja_0, jA_0, jlT_1, jlF_1, jgT_1, jgF_1, jeT_1, jeF_1, jv_1, jc_1, jm_1, jM_1, ja_1, jA_1, jlT_8, jlF_8, jgT_8, jgF_8, jeT_8, jeF_8, jv_8, jc_8, jm_8, jM_8, ja_8, jA_8, jlT_64, jlF_64, jgT_64, jgF_64, jeT_64, jeF_64, jv_64, jc_64, jm_64, jM_64, ja_64, jA_64, jlT_128, jlF_128, jgT_128, jgF_128, jeT_128, jeF_128, jv_128, jc_128, jm_128, jM_128, ja_128, jA_128]
/-! what may come next -/
def evF (ma : Nat → Nat) (x y : Nat) : Nat → Nat → Nat := fun g r => if (x ||| y) &&& 2 ^ g = 0 then (if ma g &&& x = 0 then r ||| 2 ^ g else r) else r
def evV (ly : Bool) (A : Nat → Nat → Nat) (ma : Nat → Nat) (on s : Nat) : Nat := if ly = true then itr (evF ma (A 0 s) (A 1 s)) (A 0 s) on else A 2 s
theorem evF_lt {x y z N : Nat} (hN : N ≤ 7) (hz : z < 128) : ∀ j, j ≤ N → itr (evF ma x y) z j < 128 := itr_inv (N := N) (fun (_ : Nat) (r : Nat) => r < 128) hz (fun j r hj hr => by
  unfold evF
  split
  · split
    · exact q_or_lt hr (q_pow_lt (by omega))
    · exact hr
  · exact hr)
theorem evV_lt {s : Nat} (hn : on ≤ 7) (h0 : A 0 s < 128) (h2 : A 2 s < 128) : evV ly A ma on s < 128 := by
  unfold evV
  split
  · exact evF_lt hn h0 on (Nat.le_refl _)
  · exact h2
theorem w_ev (hN : nmOK (k, len, m, A, B, C, op, sn, tl, on, la) (K, cl, co, wo, th, ma, wi, wg, ly)) (hn : on ≤ 7) (hlen : len < 10000) {s : Nat} (hs : s < len) (h0 : A 0 s < 128) (h1 : A 1 s < 128) (hma : ∀ i, ma i < 128) : ∀ j i x6, on - i = j → i ≤ on → zW (d) MX1_eventsAt 27 ([.ref 34, .ref 22, .int (nI s), .int (nI (A 0 s)), .int (nI (itr (evF ma (A 0 s) (A 1 s)) (A 0 s) i)), .int (nI i), x6], [], ((wld h te tO dr pa ro fi (k, len, m, A, B, C, op, sn, tl, on, la) (K, cl, co, wo, th, ma, wi, wg, ly) ci ga r1 r2 sw), u)) Q = Q (some (.int (nI (itr (evF ma (A 0 s) (A 1 s)) (A 0 s) (on)))), ((wld h te tO dr pa ro fi (k, len, m, A, B, C, op, sn, tl, on, la) (K, cl, co, wo, th, ma, wi, wg, ly) ci ga r1 r2 sw), u)) := by
  have hN1 : k + 7 < 1000 := hN.1
  have hN2 : K < 1000 := hN.2.1
  intro j
  induction j with
  | zero =>
    intro i x6 hj hle
    have e : i = on := by omega
    rw [eX1_eventsAt_27]
    simp (disch := first | assumption | omega | decide) only [eX1_eventsAt_0, eX1_eventsAt_1, eX1_eventsAt_4, eX1_eventsAt_7, eX1_eventsAt_8, eX1_eventsAt_11, eX1_eventsAt_12, eX1_eventsAt_13, eX1_eventsAt_14, eX1_eventsAt_15, eX1_eventsAt_18, eX1_eventsAt_19, eX1_eventsAt_20, eX1_eventsAt_21, eX1_eventsAt_22, eX1_eventsAt_24, eX1_eventsAt_25, eX1_eventsAt_29, eX1_eventsAt_30, eX1_eventsAt_33, eX1_eventsAt_36, eX1_eventsAt_37, eX1_eventsAt_39, eX1_eventsAt_40, eX1_eventsAt_42, eX1_eventsAt_43, eX1_eventsAt_44, eX1_eventsAt_47, eX1_eventsAt_48, eX1_eventsAt_49, eX1_eventsAt_50, eX1_eventsAt_52, eX1_eventsAt_53, eX1_eventsAt_56, eX1_eventsAt_57, eX1_eventsAt_60, eX1_eventsAt_62, eX1_eventsAt_63, eX1_eventsAt_64, eX1_eventsAt_65, eX1_eventsAt_68, eX1_eventsAt_70, eX1_eventsAt_72, eX1_eventsAt_73, eX1_eventsAt_75, eX1_eventsAt_78, eX1_eventsAt_81, eX1_eventsAt_83, rX1_eventsAt, zg_aload, zg_getfield, zg_goto, zg_iaload, zg_iand, zg_icmp, zg_iconst, zg_if, zg_iinc, zg_iload, zg_ior, zg_ireturn, zg_ishl, zg_istore, q10, q01, q00, ite_self, zLd_i, zLd_l, zLd_a, zInc_i, zGet_o, zGet2_s, zPut_o, zAld_i, zAll_j, zAst_i, zAsl_j, zLen_i, zLen_j, zRt_i, zRt_z, zRl2_l, zRv_n, List.getElem?_cons_zero, List.getElem?_cons_succ, List.length_cons, List.length_nil, z_set, z_set2, z_cut, List.set_cons_zero, List.set_cons_succ, Option.toList_some, Option.toList_none, List.cons_append, List.nil_append, zif, zW_ite, zfit_0, zfit_1, zfit_2, zfit_3, zisc_o, zRt_c, zRt_b, List.map_cons, List.map_nil, List.sum_cons, List.sum_nil, true_and, and_true, if_true, if_false, ite_true, ite_false, Nat.reduceLT, Nat.reduceLeDiff, Nat.reduceAdd, Nat.reduceEqDiff, eq_self, not_true_eq_false, not_false_eq_true, Nat.lt_irrefl, or_true, true_or, or_false, false_or, z_cell_lt, Value.category, ltT, ltF, leT, leF, natT, natF, iltT, iltF, ieqT, ieqF, vpT, cl_nI, q_bit, pow_cell, z_pw_eq, nI_add, nI_mul, nI_m1, nI_dn, nI_dn0, m1_lt, lg_pos, i32_irr, q_shT, ite01, ite00, updL_z, q_upd, Bool.false_eq_true, nI_l2i, jlT_0, jlF_0, jgT_0, jgF_0, jeT_0, jeF_0, jv_0, jc_0, jm_0, jM_0, ja_0, jA_0, jlT_1, jlF_1, jgT_1, jgF_1, jeT_1, jeF_1, jv_1, jc_1, jm_1, jM_1, ja_1, jA_1, jlT_5, jlF_5, jgT_5, jgF_5, jeT_5, jeF_5, jv_5, jc_5, jm_5, jM_5, ja_5, jA_5, Wo_22 hN, Wo1 hN, Wc_34 hN, Wc_38 hN, q_or, q_and]
    try simp only [e]
  | succ j ih =>
    intro i x6 hj hle
    have hlt : i < on := by omega
    have ih := fun x6 => ih (i + 1) x6 (by omega) (by omega)
    rw [eX1_eventsAt_27]
    rw [itr_s] at ih
    generalize itr (evF ma (A 0 s) (A 1 s)) (A 0 s) i = r at *
    have e1 : (A 0 s ||| A 1 s) &&& 2 ^ i < 128 := q_and_lt (q_or_lt h0 h1)
    have e2 : ma i &&& A 0 s < 128 := q_and_lt (hma i)
    have eF : evF ma (A 0 s) (A 1 s) i r = if (A 0 s ||| A 1 s) &&& 2 ^ i = 0 then (if ma i &&& A 0 s = 0 then r ||| 2 ^ i else r) else r := rfl
    rw [eF] at ih
    by_cases n1 : (A 0 s ||| A 1 s) &&& 2 ^ i = 0 <;> by_cases n2 : ma i &&& A 0 s = 0 <;> first | (exfalso; omega) | (
      (try simp (disch := first | assumption | omega | decide) only [ite_true, natT, natF, ltT, ltF, leT, leF, Bool.false_eq_true, if_true, if_false, ite_true, ite_false, not_true_eq_false, not_false_eq_true] at ih)
      (simp (disch := first | assumption | omega | decide) only [eX1_eventsAt_0, eX1_eventsAt_1, eX1_eventsAt_4, eX1_eventsAt_7, eX1_eventsAt_8, eX1_eventsAt_11, eX1_eventsAt_12, eX1_eventsAt_13, eX1_eventsAt_14, eX1_eventsAt_15, eX1_eventsAt_18, eX1_eventsAt_19, eX1_eventsAt_20, eX1_eventsAt_21, eX1_eventsAt_22, eX1_eventsAt_24, eX1_eventsAt_25, eX1_eventsAt_29, eX1_eventsAt_30, eX1_eventsAt_33, eX1_eventsAt_36, eX1_eventsAt_37, eX1_eventsAt_39, eX1_eventsAt_40, eX1_eventsAt_42, eX1_eventsAt_43, eX1_eventsAt_44, eX1_eventsAt_47, eX1_eventsAt_48, eX1_eventsAt_49, eX1_eventsAt_50, eX1_eventsAt_52, eX1_eventsAt_53, eX1_eventsAt_56, eX1_eventsAt_57, eX1_eventsAt_60, eX1_eventsAt_62, eX1_eventsAt_63, eX1_eventsAt_64, eX1_eventsAt_65, eX1_eventsAt_68, eX1_eventsAt_70, eX1_eventsAt_72, eX1_eventsAt_73, eX1_eventsAt_75, eX1_eventsAt_78, eX1_eventsAt_81, eX1_eventsAt_83, rX1_eventsAt, zg_aload, zg_getfield, zg_goto, zg_iaload, zg_iand, zg_icmp, zg_iconst, zg_if, zg_iinc, zg_iload, zg_ior, zg_ireturn, zg_ishl, zg_istore, q10, q01, q00, ite_self, zLd_i, zLd_l, zLd_a, zInc_i, zGet_o, zGet2_s, zPut_o, zAld_i, zAll_j, zAst_i, zAsl_j, zLen_i, zLen_j, zRt_i, zRt_z, zRl2_l, zRv_n, List.getElem?_cons_zero, List.getElem?_cons_succ, List.length_cons, List.length_nil, z_set, z_set2, z_cut, List.set_cons_zero, List.set_cons_succ, Option.toList_some, Option.toList_none, List.cons_append, List.nil_append, zif, zW_ite, zfit_0, zfit_1, zfit_2, zfit_3, zisc_o, zRt_c, zRt_b, List.map_cons, List.map_nil, List.sum_cons, List.sum_nil, true_and, and_true, if_true, if_false, ite_true, ite_false, Nat.reduceLT, Nat.reduceLeDiff, Nat.reduceAdd, Nat.reduceEqDiff, eq_self, not_true_eq_false, not_false_eq_true, Nat.lt_irrefl, or_true, true_or, or_false, false_or, z_cell_lt, Value.category, ltT, ltF, leT, leF, natT, natF, iltT, iltF, ieqT, ieqF, vpT, cl_nI, q_bit, pow_cell, z_pw_eq, nI_add, nI_mul, nI_m1, nI_dn, nI_dn0, m1_lt, lg_pos, i32_irr, q_shT, ite01, ite00, updL_z, q_upd, Bool.false_eq_true, nI_l2i, jlT_0, jlF_0, jgT_0, jgF_0, jeT_0, jeF_0, jv_0, jc_0, jm_0, jM_0, ja_0, jA_0, jlT_1, jlF_1, jgT_1, jgF_1, jeT_1, jeF_1, jv_1, jc_1, jm_1, jM_1, ja_1, jA_1, jlT_5, jlF_5, jgT_5, jgF_5, jeT_5, jeF_5, jv_5, jc_5, jm_5, jM_5, ja_5, jA_5, Wo_22 hN, Wo1 hN, Wc_34 hN, Wc_38 hN, q_or, q_and])
      first | done | exact ih | exact ih _)
end COST1

