/-! GUESTS, ROOMS, pairs: what changes them -/
theorem eX9_put_0 {d : Nat} {S : zS} {Q : zR → Prop} : zW d MX9_put 0 S Q = zGo d MX9_put (.aload 0) z0 1 S Q := zW_step (I := .aload_n 0) rfl S Q
theorem eX9_put_1 {d : Nat} {S : zS} {Q : zR → Prop} : zW d MX9_put 1 S Q = zGo d MX9_put (.iload 1) z0 2 S Q := zW_step (I := .iload_n 1) rfl S Q
theorem eX9_put_2 {d : Nat} {S : zS} {Q : zR → Prop} : zW d MX9_put 2 S Q = zGo d MX9_put (.iconst 1) (zv (.int 1)) 3 S Q := zW_step (I := .iconst 1) rfl S Q
theorem eX9_put_3 {d : Nat} {S : zS} {Q : zR → Prop} : zW d MX9_put 3 S Q = zGo d MX9_put (.iload 2) z0 4 S Q := zW_step (I := .iload_n 2) rfl S Q
theorem eX9_put_4 {d : Nat} {S : zS} {Q : zR → Prop} : zW d MX9_put 4 S Q = zGo d MX9_put (.ishl) z0 5 S Q := zW_step (I := .ishl) rfl S Q
theorem eX9_put_5 {d : Nat} {S : zS} {Q : zR → Prop} : zW d MX9_put 5 S Q = zGo d MX9_put (.iload 3) z0 6 S Q := zW_step (I := .iload_n 3) rfl S Q
theorem eX9_put_6 {d : Nat} {S : zS} {Q : zR → Prop} : zW d MX9_put 6 S Q = zGo d MX9_put (.invokevirtual 36) (zc 114 4 9) 9 S Q := zW_step (I := .invokevirtual 36) rfl S Q
theorem eX9_put_9 {d : Nat} {S : zS} {Q : zR → Prop} : zW d MX9_put 9 S Q = zGo d MX9_put (.aload 0) z0 10 S Q := zW_step (I := .aload_n 0) rfl S Q
theorem eX9_put_10 {d : Nat} {S : zS} {Q : zR → Prop} : zW d MX9_put 10 S Q = zGo d MX9_put (.iload 2) z0 11 S Q := zW_step (I := .iload_n 2) rfl S Q
theorem eX9_put_11 {d : Nat} {S : zS} {Q : zR → Prop} : zW d MX9_put 11 S Q = zGo d MX9_put (.iconst 1) (zv (.int 1)) 12 S Q := zW_step (I := .iconst 1) rfl S Q
theorem eX9_put_12 {d : Nat} {S : zS} {Q : zR → Prop} : zW d MX9_put 12 S Q = zGo d MX9_put (.iload 1) z0 13 S Q := zW_step (I := .iload_n 1) rfl S Q
theorem eX9_put_13 {d : Nat} {S : zS} {Q : zR → Prop} : zW d MX9_put 13 S Q = zGo d MX9_put (.ishl) z0 14 S Q := zW_step (I := .ishl) rfl S Q
theorem eX9_put_14 {d : Nat} {S : zS} {Q : zR → Prop} : zW d MX9_put 14 S Q = zGo d MX9_put (.iload 3) z0 15 S Q := zW_step (I := .iload_n 3) rfl S Q
theorem eX9_put_15 {d : Nat} {S : zS} {Q : zR → Prop} : zW d MX9_put 15 S Q = zGo d MX9_put (.invokevirtual 36) (zc 114 4 9) 18 S Q := zW_step (I := .invokevirtual 36) rfl S Q
theorem eX9_put_18 {d : Nat} {S : zS} {Q : zR → Prop} : zW d MX9_put 18 S Q = zGo d MX9_put (.aload 0) z0 19 S Q := zW_step (I := .aload_n 0) rfl S Q
theorem eX9_put_19 {d : Nat} {S : zS} {Q : zR → Prop} : zW d MX9_put 19 S Q = zGo d MX9_put (.dup) z0 20 S Q := zW_step (I := .dup) rfl S Q
theorem eX9_put_20 {d : Nat} {S : zS} {Q : zR → Prop} : zW d MX9_put 20 S Q = zGo d MX9_put (.getfield 29) (zf 0 9 5) 23 S Q := zW_step (I := .getfield 29) rfl S Q
theorem eX9_put_23 {d : Nat} {S : zS} {Q : zR → Prop} : zW d MX9_put 23 S Q = zGo d MX9_put (.iconst 1) (zv (.int 1)) 24 S Q := zW_step (I := .iconst 1) rfl S Q
theorem eX9_put_24 {d : Nat} {S : zS} {Q : zR → Prop} : zW d MX9_put 24 S Q = zGo d MX9_put (.iadd) z0 25 S Q := zW_step (I := .iadd) rfl S Q
theorem eX9_put_25 {d : Nat} {S : zS} {Q : zR → Prop} : zW d MX9_put 25 S Q = zGo d MX9_put (.putfield 29) (zf 0 9 5) 28 S Q := zW_step (I := .putfield 29) rfl S Q
theorem eX9_put_28 {d : Nat} {S : zS} {Q : zR → Prop} : zW d MX9_put 28 S Q = zGo d MX9_put (.return_) z0 29 S Q := zW_step (I := .return_) rfl S Q
theorem rX9_put : MX9_put.2.2.2.2.1 = none := rfl
theorem eX9_putHalf_0 {d : Nat} {S : zS} {Q : zR → Prop} : zW d MX9_putHalf 0 S Q = zGo d MX9_putHalf (.aload 0) z0 1 S Q := zW_step (I := .aload_n 0) rfl S Q
theorem eX9_putHalf_1 {d : Nat} {S : zS} {Q : zR → Prop} : zW d MX9_putHalf 1 S Q = zGo d MX9_putHalf (.getfield 15) (zf 3 9 1) 4 S Q := zW_step (I := .getfield 15) rfl S Q
theorem eX9_putHalf_4 {d : Nat} {S : zS} {Q : zR → Prop} : zW d MX9_putHalf 4 S Q = zGo d MX9_putHalf (.iload 1) z0 5 S Q := zW_step (I := .iload_n 1) rfl S Q
theorem eX9_putHalf_5 {d : Nat} {S : zS} {Q : zR → Prop} : zW d MX9_putHalf 5 S Q = zGo d MX9_putHalf (.iload 3) z0 6 S Q := zW_step (I := .iload_n 3) rfl S Q
theorem eX9_putHalf_6 {d : Nat} {S : zS} {Q : zR → Prop} : zW d MX9_putHalf 6 S Q = zGo d MX9_putHalf (.iconst 1) (zv (.int 1)) 7 S Q := zW_step (I := .iconst 1) rfl S Q
theorem eX9_putHalf_7 {d : Nat} {S : zS} {Q : zR → Prop} : zW d MX9_putHalf 7 S Q = zGo d MX9_putHalf (.if_icmp .ne 14) (zt 21) 10 S Q := zW_step (I := .if_icmp .ne 14) rfl S Q
theorem eX9_putHalf_10 {d : Nat} {S : zS} {Q : zR → Prop} : zW d MX9_putHalf 10 S Q = zGo d MX9_putHalf (.aload 0) z0 11 S Q := zW_step (I := .aload_n 0) rfl S Q
theorem eX9_putHalf_11 {d : Nat} {S : zS} {Q : zR → Prop} : zW d MX9_putHalf 11 S Q = zGo d MX9_putHalf (.getfield 15) (zf 3 9 1) 14 S Q := zW_step (I := .getfield 15) rfl S Q
theorem eX9_putHalf_14 {d : Nat} {S : zS} {Q : zR → Prop} : zW d MX9_putHalf 14 S Q = zGo d MX9_putHalf (.iload 1) z0 15 S Q := zW_step (I := .iload_n 1) rfl S Q
theorem eX9_putHalf_15 {d : Nat} {S : zS} {Q : zR → Prop} : zW d MX9_putHalf 15 S Q = zGo d MX9_putHalf (.iaload) z0 16 S Q := zW_step (I := .iaload) rfl S Q
theorem eX9_putHalf_16 {d : Nat} {S : zS} {Q : zR → Prop} : zW d MX9_putHalf 16 S Q = zGo d MX9_putHalf (.iload 2) z0 17 S Q := zW_step (I := .iload_n 2) rfl S Q
theorem eX9_putHalf_17 {d : Nat} {S : zS} {Q : zR → Prop} : zW d MX9_putHalf 17 S Q = zGo d MX9_putHalf (.ior) z0 18 S Q := zW_step (I := .ior) rfl S Q
theorem eX9_putHalf_18 {d : Nat} {S : zS} {Q : zR → Prop} : zW d MX9_putHalf 18 S Q = zGo d MX9_putHalf (.goto 13) (zt 31) 21 S Q := zW_step (I := .goto 13) rfl S Q
theorem eX9_putHalf_21 {d : Nat} {S : zS} {Q : zR → Prop} : zW d MX9_putHalf 21 S Q = zGo d MX9_putHalf (.aload 0) z0 22 S Q := zW_step (I := .aload_n 0) rfl S Q
theorem eX9_putHalf_22 {d : Nat} {S : zS} {Q : zR → Prop} : zW d MX9_putHalf 22 S Q = zGo d MX9_putHalf (.getfield 15) (zf 3 9 1) 25 S Q := zW_step (I := .getfield 15) rfl S Q
theorem eX9_putHalf_25 {d : Nat} {S : zS} {Q : zR → Prop} : zW d MX9_putHalf 25 S Q = zGo d MX9_putHalf (.iload 1) z0 26 S Q := zW_step (I := .iload_n 1) rfl S Q
theorem eX9_putHalf_26 {d : Nat} {S : zS} {Q : zR → Prop} : zW d MX9_putHalf 26 S Q = zGo d MX9_putHalf (.iaload) z0 27 S Q := zW_step (I := .iaload) rfl S Q
theorem eX9_putHalf_27 {d : Nat} {S : zS} {Q : zR → Prop} : zW d MX9_putHalf 27 S Q = zGo d MX9_putHalf (.iload 2) z0 28 S Q := zW_step (I := .iload_n 2) rfl S Q
theorem eX9_putHalf_28 {d : Nat} {S : zS} {Q : zR → Prop} : zW d MX9_putHalf 28 S Q = zGo d MX9_putHalf (.iconst (-1)) (zv (.int (-1))) 29 S Q := zW_step (I := .iconst (-1)) rfl S Q
theorem eX9_putHalf_29 {d : Nat} {S : zS} {Q : zR → Prop} : zW d MX9_putHalf 29 S Q = zGo d MX9_putHalf (.ixor) z0 30 S Q := zW_step (I := .ixor) rfl S Q
theorem eX9_putHalf_30 {d : Nat} {S : zS} {Q : zR → Prop} : zW d MX9_putHalf 30 S Q = zGo d MX9_putHalf (.iand) z0 31 S Q := zW_step (I := .iand) rfl S Q
theorem eX9_putHalf_31 {d : Nat} {S : zS} {Q : zR → Prop} : zW d MX9_putHalf 31 S Q = zGo d MX9_putHalf (.iastore) z0 32 S Q := zW_step (I := .iastore) rfl S Q
theorem eX9_putHalf_32 {d : Nat} {S : zS} {Q : zR → Prop} : zW d MX9_putHalf 32 S Q = zGo d MX9_putHalf (.aload 0) z0 33 S Q := zW_step (I := .aload_n 0) rfl S Q
theorem eX9_putHalf_33 {d : Nat} {S : zS} {Q : zR → Prop} : zW d MX9_putHalf 33 S Q = zGo d MX9_putHalf (.getfield 18) (zf 3 9 2) 36 S Q := zW_step (I := .getfield 18) rfl S Q
theorem eX9_putHalf_36 {d : Nat} {S : zS} {Q : zR → Prop} : zW d MX9_putHalf 36 S Q = zGo d MX9_putHalf (.iload 1) z0 37 S Q := zW_step (I := .iload_n 1) rfl S Q
theorem eX9_putHalf_37 {d : Nat} {S : zS} {Q : zR → Prop} : zW d MX9_putHalf 37 S Q = zGo d MX9_putHalf (.iload 3) z0 38 S Q := zW_step (I := .iload_n 3) rfl S Q
theorem eX9_putHalf_38 {d : Nat} {S : zS} {Q : zR → Prop} : zW d MX9_putHalf 38 S Q = zGo d MX9_putHalf (.ifCond .ne 14) (zt 52) 41 S Q := zW_step (I := .ifCond .ne 14) rfl S Q
theorem eX9_putHalf_41 {d : Nat} {S : zS} {Q : zR → Prop} : zW d MX9_putHalf 41 S Q = zGo d MX9_putHalf (.aload 0) z0 42 S Q := zW_step (I := .aload_n 0) rfl S Q
theorem eX9_putHalf_42 {d : Nat} {S : zS} {Q : zR → Prop} : zW d MX9_putHalf 42 S Q = zGo d MX9_putHalf (.getfield 18) (zf 3 9 2) 45 S Q := zW_step (I := .getfield 18) rfl S Q
theorem eX9_putHalf_45 {d : Nat} {S : zS} {Q : zR → Prop} : zW d MX9_putHalf 45 S Q = zGo d MX9_putHalf (.iload 1) z0 46 S Q := zW_step (I := .iload_n 1) rfl S Q
theorem eX9_putHalf_46 {d : Nat} {S : zS} {Q : zR → Prop} : zW d MX9_putHalf 46 S Q = zGo d MX9_putHalf (.iaload) z0 47 S Q := zW_step (I := .iaload) rfl S Q
theorem eX9_putHalf_47 {d : Nat} {S : zS} {Q : zR → Prop} : zW d MX9_putHalf 47 S Q = zGo d MX9_putHalf (.iload 2) z0 48 S Q := zW_step (I := .iload_n 2) rfl S Q
theorem eX9_putHalf_48 {d : Nat} {S : zS} {Q : zR → Prop} : zW d MX9_putHalf 48 S Q = zGo d MX9_putHalf (.ior) z0 49 S Q := zW_step (I := .ior) rfl S Q
theorem eX9_putHalf_49 {d : Nat} {S : zS} {Q : zR → Prop} : zW d MX9_putHalf 49 S Q = zGo d MX9_putHalf (.goto 13) (zt 62) 52 S Q := zW_step (I := .goto 13) rfl S Q
theorem eX9_putHalf_52 {d : Nat} {S : zS} {Q : zR → Prop} : zW d MX9_putHalf 52 S Q = zGo d MX9_putHalf (.aload 0) z0 53 S Q := zW_step (I := .aload_n 0) rfl S Q
theorem eX9_putHalf_53 {d : Nat} {S : zS} {Q : zR → Prop} : zW d MX9_putHalf 53 S Q = zGo d MX9_putHalf (.getfield 18) (zf 3 9 2) 56 S Q := zW_step (I := .getfield 18) rfl S Q
theorem eX9_putHalf_56 {d : Nat} {S : zS} {Q : zR → Prop} : zW d MX9_putHalf 56 S Q = zGo d MX9_putHalf (.iload 1) z0 57 S Q := zW_step (I := .iload_n 1) rfl S Q
theorem eX9_putHalf_57 {d : Nat} {S : zS} {Q : zR → Prop} : zW d MX9_putHalf 57 S Q = zGo d MX9_putHalf (.iaload) z0 58 S Q := zW_step (I := .iaload) rfl S Q
theorem eX9_putHalf_58 {d : Nat} {S : zS} {Q : zR → Prop} : zW d MX9_putHalf 58 S Q = zGo d MX9_putHalf (.iload 2) z0 59 S Q := zW_step (I := .iload_n 2) rfl S Q
theorem eX9_putHalf_59 {d : Nat} {S : zS} {Q : zR → Prop} : zW d MX9_putHalf 59 S Q = zGo d MX9_putHalf (.iconst (-1)) (zv (.int (-1))) 60 S Q := zW_step (I := .iconst (-1)) rfl S Q
theorem eX9_putHalf_60 {d : Nat} {S : zS} {Q : zR → Prop} : zW d MX9_putHalf 60 S Q = zGo d MX9_putHalf (.ixor) z0 61 S Q := zW_step (I := .ixor) rfl S Q
theorem eX9_putHalf_61 {d : Nat} {S : zS} {Q : zR → Prop} : zW d MX9_putHalf 61 S Q = zGo d MX9_putHalf (.iand) z0 62 S Q := zW_step (I := .iand) rfl S Q
theorem eX9_putHalf_62 {d : Nat} {S : zS} {Q : zR → Prop} : zW d MX9_putHalf 62 S Q = zGo d MX9_putHalf (.iastore) z0 63 S Q := zW_step (I := .iastore) rfl S Q
theorem eX9_putHalf_63 {d : Nat} {S : zS} {Q : zR → Prop} : zW d MX9_putHalf 63 S Q = zGo d MX9_putHalf (.return_) z0 64 S Q := zW_step (I := .return_) rfl S Q
theorem rX9_putHalf : MX9_putHalf.2.2.2.2.1 = none := rfl
theorem eX9_tell_0 {d : Nat} {S : zS} {Q : zR → Prop} : zW d MX9_tell 0 S Q = zGo d MX9_tell (.aload 0) z0 1 S Q := zW_step (I := .aload_n 0) rfl S Q
theorem eX9_tell_1 {d : Nat} {S : zS} {Q : zR → Prop} : zW d MX9_tell 1 S Q = zGo d MX9_tell (.iload 1) z0 2 S Q := zW_step (I := .iload_n 1) rfl S Q
theorem eX9_tell_2 {d : Nat} {S : zS} {Q : zR → Prop} : zW d MX9_tell 2 S Q = zGo d MX9_tell (.iload 2) z0 3 S Q := zW_step (I := .iload_n 2) rfl S Q
theorem eX9_tell_3 {d : Nat} {S : zS} {Q : zR → Prop} : zW d MX9_tell 3 S Q = zGo d MX9_tell (.invokevirtual 40) (zc 108 3 9) 6 S Q := zW_step (I := .invokevirtual 40) rfl S Q
theorem eX9_tell_6 {d : Nat} {S : zS} {Q : zR → Prop} : zW d MX9_tell 6 S Q = zGo d MX9_tell (.ifCond .eq 12) (zt 18) 9 S Q := zW_step (I := .ifCond .eq 12) rfl S Q
theorem eX9_tell_9 {d : Nat} {S : zS} {Q : zR → Prop} : zW d MX9_tell 9 S Q = zGo d MX9_tell (.iload 3) z0 10 S Q := zW_step (I := .iload_n 3) rfl S Q
theorem eX9_tell_10 {d : Nat} {S : zS} {Q : zR → Prop} : zW d MX9_tell 10 S Q = zGo d MX9_tell (.ifCond .lt 8) (zt 18) 13 S Q := zW_step (I := .ifCond .lt 8) rfl S Q
theorem eX9_tell_13 {d : Nat} {S : zS} {Q : zR → Prop} : zW d MX9_tell 13 S Q = zGo d MX9_tell (.iload 3) z0 14 S Q := zW_step (I := .iload_n 3) rfl S Q
theorem eX9_tell_14 {d : Nat} {S : zS} {Q : zR → Prop} : zW d MX9_tell 14 S Q = zGo d MX9_tell (.iconst 2) (zv (.int 2)) 15 S Q := zW_step (I := .iconst 2) rfl S Q
theorem eX9_tell_15 {d : Nat} {S : zS} {Q : zR → Prop} : zW d MX9_tell 15 S Q = zGo d MX9_tell (.if_icmp .le 5) (zt 20) 18 S Q := zW_step (I := .if_icmp .le 5) rfl S Q
theorem eX9_tell_18 {d : Nat} {S : zS} {Q : zR → Prop} : zW d MX9_tell 18 S Q = zGo d MX9_tell (.iconst (-1)) (zv (.int (-1))) 19 S Q := zW_step (I := .iconst (-1)) rfl S Q
theorem eX9_tell_19 {d : Nat} {S : zS} {Q : zR → Prop} : zW d MX9_tell 19 S Q = zGo d MX9_tell (.ireturn) z0 20 S Q := zW_step (I := .ireturn) rfl S Q
theorem eX9_tell_20 {d : Nat} {S : zS} {Q : zR → Prop} : zW d MX9_tell 20 S Q = zGo d MX9_tell (.aload 0) z0 21 S Q := zW_step (I := .aload_n 0) rfl S Q
theorem eX9_tell_21 {d : Nat} {S : zS} {Q : zR → Prop} : zW d MX9_tell 21 S Q = zGo d MX9_tell (.iload 1) z0 22 S Q := zW_step (I := .iload_n 1) rfl S Q
theorem eX9_tell_22 {d : Nat} {S : zS} {Q : zR → Prop} : zW d MX9_tell 22 S Q = zGo d MX9_tell (.iload 2) z0 23 S Q := zW_step (I := .iload_n 2) rfl S Q
theorem eX9_tell_23 {d : Nat} {S : zS} {Q : zR → Prop} : zW d MX9_tell 23 S Q = zGo d MX9_tell (.invokevirtual 44) (zc 112 3 9) 26 S Q := zW_step (I := .invokevirtual 44) rfl S Q
theorem eX9_tell_26 {d : Nat} {S : zS} {Q : zR → Prop} : zW d MX9_tell 26 S Q = zGo d MX9_tell (.istore 4) z0 28 S Q := zW_step (I := .istore 4) rfl S Q
theorem eX9_tell_28 {d : Nat} {S : zS} {Q : zR → Prop} : zW d MX9_tell 28 S Q = zGo d MX9_tell (.iload 4) z0 30 S Q := zW_step (I := .iload 4) rfl S Q
theorem eX9_tell_30 {d : Nat} {S : zS} {Q : zR → Prop} : zW d MX9_tell 30 S Q = zGo d MX9_tell (.iload 3) z0 31 S Q := zW_step (I := .iload_n 3) rfl S Q
theorem eX9_tell_31 {d : Nat} {S : zS} {Q : zR → Prop} : zW d MX9_tell 31 S Q = zGo d MX9_tell (.if_icmp .ne 6) (zt 37) 34 S Q := zW_step (I := .if_icmp .ne 6) rfl S Q
theorem eX9_tell_34 {d : Nat} {S : zS} {Q : zR → Prop} : zW d MX9_tell 34 S Q = zGo d MX9_tell (.bipush (-2)) (zv (.int (-2))) 36 S Q := zW_step (I := .bipush (-2)) rfl S Q
theorem eX9_tell_36 {d : Nat} {S : zS} {Q : zR → Prop} : zW d MX9_tell 36 S Q = zGo d MX9_tell (.ireturn) z0 37 S Q := zW_step (I := .ireturn) rfl S Q
theorem eX9_tell_37 {d : Nat} {S : zS} {Q : zR → Prop} : zW d MX9_tell 37 S Q = zGo d MX9_tell (.aload 0) z0 38 S Q := zW_step (I := .aload_n 0) rfl S Q
theorem eX9_tell_38 {d : Nat} {S : zS} {Q : zR → Prop} : zW d MX9_tell 38 S Q = zGo d MX9_tell (.iload 1) z0 39 S Q := zW_step (I := .iload_n 1) rfl S Q
theorem eX9_tell_39 {d : Nat} {S : zS} {Q : zR → Prop} : zW d MX9_tell 39 S Q = zGo d MX9_tell (.iload 2) z0 40 S Q := zW_step (I := .iload_n 2) rfl S Q
theorem eX9_tell_40 {d : Nat} {S : zS} {Q : zR → Prop} : zW d MX9_tell 40 S Q = zGo d MX9_tell (.iload 3) z0 41 S Q := zW_step (I := .iload_n 3) rfl S Q
theorem eX9_tell_41 {d : Nat} {S : zS} {Q : zR → Prop} : zW d MX9_tell 41 S Q = zGo d MX9_tell (.invokevirtual 48) (zc 113 4 9) 44 S Q := zW_step (I := .invokevirtual 48) rfl S Q
theorem eX9_tell_44 {d : Nat} {S : zS} {Q : zR → Prop} : zW d MX9_tell 44 S Q = zGo d MX9_tell (.bipush 10) (zv (.int 10)) 46 S Q := zW_step (I := .bipush 10) rfl S Q
theorem eX9_tell_46 {d : Nat} {S : zS} {Q : zR → Prop} : zW d MX9_tell 46 S Q = zGo d MX9_tell (.iload 4) z0 48 S Q := zW_step (I := .iload 4) rfl S Q
theorem eX9_tell_48 {d : Nat} {S : zS} {Q : zR → Prop} : zW d MX9_tell 48 S Q = zGo d MX9_tell (.iadd) z0 49 S Q := zW_step (I := .iadd) rfl S Q
theorem eX9_tell_49 {d : Nat} {S : zS} {Q : zR → Prop} : zW d MX9_tell 49 S Q = zGo d MX9_tell (.ireturn) z0 50 S Q := zW_step (I := .ireturn) rfl S Q
theorem rX9_tell : MX9_tell.2.2.2.2.1 = some .int := rfl
theorem eX9_hide_0 {d : Nat} {S : zS} {Q : zR → Prop} : zW d MX9_hide 0 S Q = zGo d MX9_hide (.aload 0) z0 1 S Q := zW_step (I := .aload_n 0) rfl S Q
theorem eX9_hide_1 {d : Nat} {S : zS} {Q : zR → Prop} : zW d MX9_hide 1 S Q = zGo d MX9_hide (.iload 1) z0 2 S Q := zW_step (I := .iload_n 1) rfl S Q
theorem eX9_hide_2 {d : Nat} {S : zS} {Q : zR → Prop} : zW d MX9_hide 2 S Q = zGo d MX9_hide (.invokevirtual 25) (zc 107 2 9) 5 S Q := zW_step (I := .invokevirtual 25) rfl S Q
theorem eX9_hide_5 {d : Nat} {S : zS} {Q : zR → Prop} : zW d MX9_hide 5 S Q = zGo d MX9_hide (.ifCond .ne 5) (zt 10) 8 S Q := zW_step (I := .ifCond .ne 5) rfl S Q
theorem eX9_hide_8 {d : Nat} {S : zS} {Q : zR → Prop} : zW d MX9_hide 8 S Q = zGo d MX9_hide (.iconst (-1)) (zv (.int (-1))) 9 S Q := zW_step (I := .iconst (-1)) rfl S Q
theorem eX9_hide_9 {d : Nat} {S : zS} {Q : zR → Prop} : zW d MX9_hide 9 S Q = zGo d MX9_hide (.ireturn) z0 10 S Q := zW_step (I := .ireturn) rfl S Q
theorem eX9_hide_10 {d : Nat} {S : zS} {Q : zR → Prop} : zW d MX9_hide 10 S Q = zGo d MX9_hide (.aload 0) z0 11 S Q := zW_step (I := .aload_n 0) rfl S Q
theorem eX9_hide_11 {d : Nat} {S : zS} {Q : zR → Prop} : zW d MX9_hide 11 S Q = zGo d MX9_hide (.getfield 15) (zf 3 9 1) 14 S Q := zW_step (I := .getfield 15) rfl S Q
theorem eX9_hide_14 {d : Nat} {S : zS} {Q : zR → Prop} : zW d MX9_hide 14 S Q = zGo d MX9_hide (.iload 1) z0 15 S Q := zW_step (I := .iload_n 1) rfl S Q
theorem eX9_hide_15 {d : Nat} {S : zS} {Q : zR → Prop} : zW d MX9_hide 15 S Q = zGo d MX9_hide (.iaload) z0 16 S Q := zW_step (I := .iaload) rfl S Q
theorem eX9_hide_16 {d : Nat} {S : zS} {Q : zR → Prop} : zW d MX9_hide 16 S Q = zGo d MX9_hide (.aload 0) z0 17 S Q := zW_step (I := .aload_n 0) rfl S Q
theorem eX9_hide_17 {d : Nat} {S : zS} {Q : zR → Prop} : zW d MX9_hide 17 S Q = zGo d MX9_hide (.getfield 18) (zf 3 9 2) 20 S Q := zW_step (I := .getfield 18) rfl S Q
theorem eX9_hide_20 {d : Nat} {S : zS} {Q : zR → Prop} : zW d MX9_hide 20 S Q = zGo d MX9_hide (.iload 1) z0 21 S Q := zW_step (I := .iload_n 1) rfl S Q
theorem eX9_hide_21 {d : Nat} {S : zS} {Q : zR → Prop} : zW d MX9_hide 21 S Q = zGo d MX9_hide (.iaload) z0 22 S Q := zW_step (I := .iaload) rfl S Q
theorem eX9_hide_22 {d : Nat} {S : zS} {Q : zR → Prop} : zW d MX9_hide 22 S Q = zGo d MX9_hide (.ior) z0 23 S Q := zW_step (I := .ior) rfl S Q
theorem eX9_hide_23 {d : Nat} {S : zS} {Q : zR → Prop} : zW d MX9_hide 23 S Q = zGo d MX9_hide (.invokestatic 51) (zc 292 1 0) 26 S Q := zW_step (I := .invokestatic 51) rfl S Q
theorem eX9_hide_26 {d : Nat} {S : zS} {Q : zR → Prop} : zW d MX9_hide 26 S Q = zGo d MX9_hide (.istore 2) z0 27 S Q := zW_step (I := .istore_n 2) rfl S Q
theorem eX9_hide_27 {d : Nat} {S : zS} {Q : zR → Prop} : zW d MX9_hide 27 S Q = zGo d MX9_hide (.iload 2) z0 28 S Q := zW_step (I := .iload_n 2) rfl S Q
theorem eX9_hide_28 {d : Nat} {S : zS} {Q : zR → Prop} : zW d MX9_hide 28 S Q = zGo d MX9_hide (.ifCond .ne 6) (zt 34) 31 S Q := zW_step (I := .ifCond .ne 6) rfl S Q
theorem eX9_hide_31 {d : Nat} {S : zS} {Q : zR → Prop} : zW d MX9_hide 31 S Q = zGo d MX9_hide (.bipush (-2)) (zv (.int (-2))) 33 S Q := zW_step (I := .bipush (-2)) rfl S Q
theorem eX9_hide_33 {d : Nat} {S : zS} {Q : zR → Prop} : zW d MX9_hide 33 S Q = zGo d MX9_hide (.ireturn) z0 34 S Q := zW_step (I := .ireturn) rfl S Q
theorem eX9_hide_34 {d : Nat} {S : zS} {Q : zR → Prop} : zW d MX9_hide 34 S Q = zGo d MX9_hide (.iconst 0) (zv (.int 0)) 35 S Q := zW_step (I := .iconst 0) rfl S Q
theorem eX9_hide_35 {d : Nat} {S : zS} {Q : zR → Prop} : zW d MX9_hide 35 S Q = zGo d MX9_hide (.istore 3) z0 36 S Q := zW_step (I := .istore_n 3) rfl S Q
theorem eX9_hide_36 {d : Nat} {S : zS} {Q : zR → Prop} : zW d MX9_hide 36 S Q = zGo d MX9_hide (.iload 3) z0 37 S Q := zW_step (I := .iload_n 3) rfl S Q
theorem eX9_hide_37 {d : Nat} {S : zS} {Q : zR → Prop} : zW d MX9_hide 37 S Q = zGo d MX9_hide (.aload 0) z0 38 S Q := zW_step (I := .aload_n 0) rfl S Q
theorem eX9_hide_38 {d : Nat} {S : zS} {Q : zR → Prop} : zW d MX9_hide 38 S Q = zGo d MX9_hide (.getfield 21) (zf 0 9 3) 41 S Q := zW_step (I := .getfield 21) rfl S Q
theorem eX9_hide_41 {d : Nat} {S : zS} {Q : zR → Prop} : zW d MX9_hide 41 S Q = zGo d MX9_hide (.if_icmp .ge 21) (zt 62) 44 S Q := zW_step (I := .if_icmp .ge 21) rfl S Q
theorem eX9_hide_44 {d : Nat} {S : zS} {Q : zR → Prop} : zW d MX9_hide 44 S Q = zGo d MX9_hide (.iload 3) z0 45 S Q := zW_step (I := .iload_n 3) rfl S Q
theorem eX9_hide_45 {d : Nat} {S : zS} {Q : zR → Prop} : zW d MX9_hide 45 S Q = zGo d MX9_hide (.iload 1) z0 46 S Q := zW_step (I := .iload_n 1) rfl S Q
theorem eX9_hide_46 {d : Nat} {S : zS} {Q : zR → Prop} : zW d MX9_hide 46 S Q = zGo d MX9_hide (.if_icmp .eq 10) (zt 56) 49 S Q := zW_step (I := .if_icmp .eq 10) rfl S Q
theorem eX9_hide_49 {d : Nat} {S : zS} {Q : zR → Prop} : zW d MX9_hide 49 S Q = zGo d MX9_hide (.aload 0) z0 50 S Q := zW_step (I := .aload_n 0) rfl S Q
theorem eX9_hide_50 {d : Nat} {S : zS} {Q : zR → Prop} : zW d MX9_hide 50 S Q = zGo d MX9_hide (.iload 1) z0 51 S Q := zW_step (I := .iload_n 1) rfl S Q
theorem eX9_hide_51 {d : Nat} {S : zS} {Q : zR → Prop} : zW d MX9_hide 51 S Q = zGo d MX9_hide (.iload 3) z0 52 S Q := zW_step (I := .iload_n 3) rfl S Q
theorem eX9_hide_52 {d : Nat} {S : zS} {Q : zR → Prop} : zW d MX9_hide 52 S Q = zGo d MX9_hide (.iconst 2) (zv (.int 2)) 53 S Q := zW_step (I := .iconst 2) rfl S Q
theorem eX9_hide_53 {d : Nat} {S : zS} {Q : zR → Prop} : zW d MX9_hide 53 S Q = zGo d MX9_hide (.invokevirtual 48) (zc 113 4 9) 56 S Q := zW_step (I := .invokevirtual 48) rfl S Q
theorem eX9_hide_56 {d : Nat} {S : zS} {Q : zR → Prop} : zW d MX9_hide 56 S Q = zGo d MX9_hide (.iinc 3 1) (zv (.int 1)) 59 S Q := zW_step (I := .iinc 3 1) rfl S Q
theorem eX9_hide_59 {d : Nat} {S : zS} {Q : zR → Prop} : zW d MX9_hide 59 S Q = zGo d MX9_hide (.goto (-23)) (zt 36) 62 S Q := zW_step (I := .goto (-23)) rfl S Q
theorem eX9_hide_62 {d : Nat} {S : zS} {Q : zR → Prop} : zW d MX9_hide 62 S Q = zGo d MX9_hide (.iload 2) z0 63 S Q := zW_step (I := .iload_n 2) rfl S Q
theorem eX9_hide_63 {d : Nat} {S : zS} {Q : zR → Prop} : zW d MX9_hide 63 S Q = zGo d MX9_hide (.ireturn) z0 64 S Q := zW_step (I := .ireturn) rfl S Q
theorem rX9_hide : MX9_hide.2.2.2.2.1 = some .int := rfl
theorem eX9_copy_0 {d : Nat} {S : zS} {Q : zR → Prop} : zW d MX9_copy 0 S Q = zGo d MX9_copy (.aload 0) z0 1 S Q := zW_step (I := .aload_n 0) rfl S Q
theorem eX9_copy_1 {d : Nat} {S : zS} {Q : zR → Prop} : zW d MX9_copy 1 S Q = zGo d MX9_copy (.iload 1) z0 2 S Q := zW_step (I := .iload_n 1) rfl S Q
theorem eX9_copy_2 {d : Nat} {S : zS} {Q : zR → Prop} : zW d MX9_copy 2 S Q = zGo d MX9_copy (.iload 2) z0 3 S Q := zW_step (I := .iload_n 2) rfl S Q
theorem eX9_copy_3 {d : Nat} {S : zS} {Q : zR → Prop} : zW d MX9_copy 3 S Q = zGo d MX9_copy (.invokevirtual 40) (zc 108 3 9) 6 S Q := zW_step (I := .invokevirtual 40) rfl S Q
theorem eX9_copy_6 {d : Nat} {S : zS} {Q : zR → Prop} : zW d MX9_copy 6 S Q = zGo d MX9_copy (.ifCond .ne 5) (zt 11) 9 S Q := zW_step (I := .ifCond .ne 5) rfl S Q
theorem eX9_copy_9 {d : Nat} {S : zS} {Q : zR → Prop} : zW d MX9_copy 9 S Q = zGo d MX9_copy (.iconst (-1)) (zv (.int (-1))) 10 S Q := zW_step (I := .iconst (-1)) rfl S Q
theorem eX9_copy_10 {d : Nat} {S : zS} {Q : zR → Prop} : zW d MX9_copy 10 S Q = zGo d MX9_copy (.ireturn) z0 11 S Q := zW_step (I := .ireturn) rfl S Q
theorem eX9_copy_11 {d : Nat} {S : zS} {Q : zR → Prop} : zW d MX9_copy 11 S Q = zGo d MX9_copy (.iconst 0) (zv (.int 0)) 12 S Q := zW_step (I := .iconst 0) rfl S Q
theorem eX9_copy_12 {d : Nat} {S : zS} {Q : zR → Prop} : zW d MX9_copy 12 S Q = zGo d MX9_copy (.istore 3) z0 13 S Q := zW_step (I := .istore_n 3) rfl S Q
theorem eX9_copy_13 {d : Nat} {S : zS} {Q : zR → Prop} : zW d MX9_copy 13 S Q = zGo d MX9_copy (.iconst 0) (zv (.int 0)) 14 S Q := zW_step (I := .iconst 0) rfl S Q
theorem eX9_copy_14 {d : Nat} {S : zS} {Q : zR → Prop} : zW d MX9_copy 14 S Q = zGo d MX9_copy (.istore 4) z0 16 S Q := zW_step (I := .istore 4) rfl S Q
theorem eX9_copy_16 {d : Nat} {S : zS} {Q : zR → Prop} : zW d MX9_copy 16 S Q = zGo d MX9_copy (.iload 4) z0 18 S Q := zW_step (I := .iload 4) rfl S Q
theorem eX9_copy_18 {d : Nat} {S : zS} {Q : zR → Prop} : zW d MX9_copy 18 S Q = zGo d MX9_copy (.aload 0) z0 19 S Q := zW_step (I := .aload_n 0) rfl S Q
theorem eX9_copy_19 {d : Nat} {S : zS} {Q : zR → Prop} : zW d MX9_copy 19 S Q = zGo d MX9_copy (.getfield 21) (zf 0 9 3) 22 S Q := zW_step (I := .getfield 21) rfl S Q
theorem eX9_copy_22 {d : Nat} {S : zS} {Q : zR → Prop} : zW d MX9_copy 22 S Q = zGo d MX9_copy (.if_icmp .ge 55) (zt 77) 25 S Q := zW_step (I := .if_icmp .ge 55) rfl S Q
theorem eX9_copy_25 {d : Nat} {S : zS} {Q : zR → Prop} : zW d MX9_copy 25 S Q = zGo d MX9_copy (.iload 4) z0 27 S Q := zW_step (I := .iload 4) rfl S Q
theorem eX9_copy_27 {d : Nat} {S : zS} {Q : zR → Prop} : zW d MX9_copy 27 S Q = zGo d MX9_copy (.iload 1) z0 28 S Q := zW_step (I := .iload_n 1) rfl S Q
theorem eX9_copy_28 {d : Nat} {S : zS} {Q : zR → Prop} : zW d MX9_copy 28 S Q = zGo d MX9_copy (.if_icmp .eq 43) (zt 71) 31 S Q := zW_step (I := .if_icmp .eq 43) rfl S Q
theorem eX9_copy_31 {d : Nat} {S : zS} {Q : zR → Prop} : zW d MX9_copy 31 S Q = zGo d MX9_copy (.iload 4) z0 33 S Q := zW_step (I := .iload 4) rfl S Q
theorem eX9_copy_33 {d : Nat} {S : zS} {Q : zR → Prop} : zW d MX9_copy 33 S Q = zGo d MX9_copy (.iload 2) z0 34 S Q := zW_step (I := .iload_n 2) rfl S Q
theorem eX9_copy_34 {d : Nat} {S : zS} {Q : zR → Prop} : zW d MX9_copy 34 S Q = zGo d MX9_copy (.if_icmp .eq 37) (zt 71) 37 S Q := zW_step (I := .if_icmp .eq 37) rfl S Q
theorem eX9_copy_37 {d : Nat} {S : zS} {Q : zR → Prop} : zW d MX9_copy 37 S Q = zGo d MX9_copy (.aload 0) z0 38 S Q := zW_step (I := .aload_n 0) rfl S Q
theorem eX9_copy_38 {d : Nat} {S : zS} {Q : zR → Prop} : zW d MX9_copy 38 S Q = zGo d MX9_copy (.iload 1) z0 39 S Q := zW_step (I := .iload_n 1) rfl S Q
theorem eX9_copy_39 {d : Nat} {S : zS} {Q : zR → Prop} : zW d MX9_copy 39 S Q = zGo d MX9_copy (.iload 4) z0 41 S Q := zW_step (I := .iload 4) rfl S Q
theorem eX9_copy_41 {d : Nat} {S : zS} {Q : zR → Prop} : zW d MX9_copy 41 S Q = zGo d MX9_copy (.invokevirtual 44) (zc 112 3 9) 44 S Q := zW_step (I := .invokevirtual 44) rfl S Q
theorem eX9_copy_44 {d : Nat} {S : zS} {Q : zR → Prop} : zW d MX9_copy 44 S Q = zGo d MX9_copy (.aload 0) z0 45 S Q := zW_step (I := .aload_n 0) rfl S Q
theorem eX9_copy_45 {d : Nat} {S : zS} {Q : zR → Prop} : zW d MX9_copy 45 S Q = zGo d MX9_copy (.iload 2) z0 46 S Q := zW_step (I := .iload_n 2) rfl S Q
theorem eX9_copy_46 {d : Nat} {S : zS} {Q : zR → Prop} : zW d MX9_copy 46 S Q = zGo d MX9_copy (.iload 4) z0 48 S Q := zW_step (I := .iload 4) rfl S Q
theorem eX9_copy_48 {d : Nat} {S : zS} {Q : zR → Prop} : zW d MX9_copy 48 S Q = zGo d MX9_copy (.invokevirtual 44) (zc 112 3 9) 51 S Q := zW_step (I := .invokevirtual 44) rfl S Q
theorem eX9_copy_51 {d : Nat} {S : zS} {Q : zR → Prop} : zW d MX9_copy 51 S Q = zGo d MX9_copy (.if_icmp .eq 20) (zt 71) 54 S Q := zW_step (I := .if_icmp .eq 20) rfl S Q
theorem eX9_copy_54 {d : Nat} {S : zS} {Q : zR → Prop} : zW d MX9_copy 54 S Q = zGo d MX9_copy (.aload 0) z0 55 S Q := zW_step (I := .aload_n 0) rfl S Q
theorem eX9_copy_55 {d : Nat} {S : zS} {Q : zR → Prop} : zW d MX9_copy 55 S Q = zGo d MX9_copy (.iload 2) z0 56 S Q := zW_step (I := .iload_n 2) rfl S Q
theorem eX9_copy_56 {d : Nat} {S : zS} {Q : zR → Prop} : zW d MX9_copy 56 S Q = zGo d MX9_copy (.iload 4) z0 58 S Q := zW_step (I := .iload 4) rfl S Q
theorem eX9_copy_58 {d : Nat} {S : zS} {Q : zR → Prop} : zW d MX9_copy 58 S Q = zGo d MX9_copy (.aload 0) z0 59 S Q := zW_step (I := .aload_n 0) rfl S Q
theorem eX9_copy_59 {d : Nat} {S : zS} {Q : zR → Prop} : zW d MX9_copy 59 S Q = zGo d MX9_copy (.iload 1) z0 60 S Q := zW_step (I := .iload_n 1) rfl S Q
theorem eX9_copy_60 {d : Nat} {S : zS} {Q : zR → Prop} : zW d MX9_copy 60 S Q = zGo d MX9_copy (.iload 4) z0 62 S Q := zW_step (I := .iload 4) rfl S Q
theorem eX9_copy_62 {d : Nat} {S : zS} {Q : zR → Prop} : zW d MX9_copy 62 S Q = zGo d MX9_copy (.invokevirtual 44) (zc 112 3 9) 65 S Q := zW_step (I := .invokevirtual 44) rfl S Q
theorem eX9_copy_65 {d : Nat} {S : zS} {Q : zR → Prop} : zW d MX9_copy 65 S Q = zGo d MX9_copy (.invokevirtual 48) (zc 113 4 9) 68 S Q := zW_step (I := .invokevirtual 48) rfl S Q
theorem eX9_copy_68 {d : Nat} {S : zS} {Q : zR → Prop} : zW d MX9_copy 68 S Q = zGo d MX9_copy (.iinc 3 1) (zv (.int 1)) 71 S Q := zW_step (I := .iinc 3 1) rfl S Q
theorem eX9_copy_71 {d : Nat} {S : zS} {Q : zR → Prop} : zW d MX9_copy 71 S Q = zGo d MX9_copy (.iinc 4 1) (zv (.int 1)) 74 S Q := zW_step (I := .iinc 4 1) rfl S Q
theorem eX9_copy_74 {d : Nat} {S : zS} {Q : zR → Prop} : zW d MX9_copy 74 S Q = zGo d MX9_copy (.goto (-58)) (zt 16) 77 S Q := zW_step (I := .goto (-58)) rfl S Q
theorem eX9_copy_77 {d : Nat} {S : zS} {Q : zR → Prop} : zW d MX9_copy 77 S Q = zGo d MX9_copy (.iload 3) z0 78 S Q := zW_step (I := .iload_n 3) rfl S Q
theorem eX9_copy_78 {d : Nat} {S : zS} {Q : zR → Prop} : zW d MX9_copy 78 S Q = zGo d MX9_copy (.ifCond .ne 8) (zt 86) 81 S Q := zW_step (I := .ifCond .ne 8) rfl S Q
theorem eX9_copy_81 {d : Nat} {S : zS} {Q : zR → Prop} : zW d MX9_copy 81 S Q = zGo d MX9_copy (.bipush (-2)) (zv (.int (-2))) 83 S Q := zW_step (I := .bipush (-2)) rfl S Q
theorem eX9_copy_83 {d : Nat} {S : zS} {Q : zR → Prop} : zW d MX9_copy 83 S Q = zGo d MX9_copy (.goto 4) (zt 87) 86 S Q := zW_step (I := .goto 4) rfl S Q
theorem eX9_copy_86 {d : Nat} {S : zS} {Q : zR → Prop} : zW d MX9_copy 86 S Q = zGo d MX9_copy (.iload 3) z0 87 S Q := zW_step (I := .iload_n 3) rfl S Q
theorem eX9_copy_87 {d : Nat} {S : zS} {Q : zR → Prop} : zW d MX9_copy 87 S Q = zGo d MX9_copy (.ireturn) z0 88 S Q := zW_step (I := .ireturn) rfl S Q
theorem rX9_copy : MX9_copy.2.2.2.2.1 = some .int := rfl
theorem eX9_move_0 {d : Nat} {S : zS} {Q : zR → Prop} : zW d MX9_move 0 S Q = zGo d MX9_move (.aload 0) z0 1 S Q := zW_step (I := .aload_n 0) rfl S Q
theorem eX9_move_1 {d : Nat} {S : zS} {Q : zR → Prop} : zW d MX9_move 1 S Q = zGo d MX9_move (.iload 1) z0 2 S Q := zW_step (I := .iload_n 1) rfl S Q
theorem eX9_move_2 {d : Nat} {S : zS} {Q : zR → Prop} : zW d MX9_move 2 S Q = zGo d MX9_move (.invokevirtual 25) (zc 107 2 9) 5 S Q := zW_step (I := .invokevirtual 25) rfl S Q
theorem eX9_move_5 {d : Nat} {S : zS} {Q : zR → Prop} : zW d MX9_move 5 S Q = zGo d MX9_move (.ifCond .eq 13) (zt 18) 8 S Q := zW_step (I := .ifCond .eq 13) rfl S Q
theorem eX9_move_8 {d : Nat} {S : zS} {Q : zR → Prop} : zW d MX9_move 8 S Q = zGo d MX9_move (.iload 2) z0 9 S Q := zW_step (I := .iload_n 2) rfl S Q
theorem eX9_move_9 {d : Nat} {S : zS} {Q : zR → Prop} : zW d MX9_move 9 S Q = zGo d MX9_move (.ifCond .lt 9) (zt 18) 12 S Q := zW_step (I := .ifCond .lt 9) rfl S Q
theorem eX9_move_12 {d : Nat} {S : zS} {Q : zR → Prop} : zW d MX9_move 12 S Q = zGo d MX9_move (.iload 2) z0 13 S Q := zW_step (I := .iload_n 2) rfl S Q
theorem eX9_move_13 {d : Nat} {S : zS} {Q : zR → Prop} : zW d MX9_move 13 S Q = zGo d MX9_move (.bipush 9) (zv (.int 9)) 15 S Q := zW_step (I := .bipush 9) rfl S Q
theorem eX9_move_15 {d : Nat} {S : zS} {Q : zR → Prop} : zW d MX9_move 15 S Q = zGo d MX9_move (.if_icmp .le 5) (zt 20) 18 S Q := zW_step (I := .if_icmp .le 5) rfl S Q
theorem eX9_move_18 {d : Nat} {S : zS} {Q : zR → Prop} : zW d MX9_move 18 S Q = zGo d MX9_move (.iconst (-1)) (zv (.int (-1))) 19 S Q := zW_step (I := .iconst (-1)) rfl S Q
theorem eX9_move_19 {d : Nat} {S : zS} {Q : zR → Prop} : zW d MX9_move 19 S Q = zGo d MX9_move (.ireturn) z0 20 S Q := zW_step (I := .ireturn) rfl S Q
theorem eX9_move_20 {d : Nat} {S : zS} {Q : zR → Prop} : zW d MX9_move 20 S Q = zGo d MX9_move (.aload 0) z0 21 S Q := zW_step (I := .aload_n 0) rfl S Q
theorem eX9_move_21 {d : Nat} {S : zS} {Q : zR → Prop} : zW d MX9_move 21 S Q = zGo d MX9_move (.getfield 9) (zf 3 9 0) 24 S Q := zW_step (I := .getfield 9) rfl S Q
theorem eX9_move_24 {d : Nat} {S : zS} {Q : zR → Prop} : zW d MX9_move 24 S Q = zGo d MX9_move (.iload 1) z0 25 S Q := zW_step (I := .iload_n 1) rfl S Q
theorem eX9_move_25 {d : Nat} {S : zS} {Q : zR → Prop} : zW d MX9_move 25 S Q = zGo d MX9_move (.iaload) z0 26 S Q := zW_step (I := .iaload) rfl S Q
theorem eX9_move_26 {d : Nat} {S : zS} {Q : zR → Prop} : zW d MX9_move 26 S Q = zGo d MX9_move (.istore 3) z0 27 S Q := zW_step (I := .istore_n 3) rfl S Q
theorem eX9_move_27 {d : Nat} {S : zS} {Q : zR → Prop} : zW d MX9_move 27 S Q = zGo d MX9_move (.iload 3) z0 28 S Q := zW_step (I := .iload_n 3) rfl S Q
theorem eX9_move_28 {d : Nat} {S : zS} {Q : zR → Prop} : zW d MX9_move 28 S Q = zGo d MX9_move (.iload 2) z0 29 S Q := zW_step (I := .iload_n 2) rfl S Q
theorem eX9_move_29 {d : Nat} {S : zS} {Q : zR → Prop} : zW d MX9_move 29 S Q = zGo d MX9_move (.if_icmp .ne 6) (zt 35) 32 S Q := zW_step (I := .if_icmp .ne 6) rfl S Q
theorem eX9_move_32 {d : Nat} {S : zS} {Q : zR → Prop} : zW d MX9_move 32 S Q = zGo d MX9_move (.bipush (-2)) (zv (.int (-2))) 34 S Q := zW_step (I := .bipush (-2)) rfl S Q
theorem eX9_move_34 {d : Nat} {S : zS} {Q : zR → Prop} : zW d MX9_move 34 S Q = zGo d MX9_move (.ireturn) z0 35 S Q := zW_step (I := .ireturn) rfl S Q
theorem eX9_move_35 {d : Nat} {S : zS} {Q : zR → Prop} : zW d MX9_move 35 S Q = zGo d MX9_move (.aload 0) z0 36 S Q := zW_step (I := .aload_n 0) rfl S Q
theorem eX9_move_36 {d : Nat} {S : zS} {Q : zR → Prop} : zW d MX9_move 36 S Q = zGo d MX9_move (.getfield 9) (zf 3 9 0) 39 S Q := zW_step (I := .getfield 9) rfl S Q
theorem eX9_move_39 {d : Nat} {S : zS} {Q : zR → Prop} : zW d MX9_move 39 S Q = zGo d MX9_move (.iload 1) z0 40 S Q := zW_step (I := .iload_n 1) rfl S Q
theorem eX9_move_40 {d : Nat} {S : zS} {Q : zR → Prop} : zW d MX9_move 40 S Q = zGo d MX9_move (.iload 2) z0 41 S Q := zW_step (I := .iload_n 2) rfl S Q
theorem eX9_move_41 {d : Nat} {S : zS} {Q : zR → Prop} : zW d MX9_move 41 S Q = zGo d MX9_move (.iastore) z0 42 S Q := zW_step (I := .iastore) rfl S Q
theorem eX9_move_42 {d : Nat} {S : zS} {Q : zR → Prop} : zW d MX9_move 42 S Q = zGo d MX9_move (.aload 0) z0 43 S Q := zW_step (I := .aload_n 0) rfl S Q
theorem eX9_move_43 {d : Nat} {S : zS} {Q : zR → Prop} : zW d MX9_move 43 S Q = zGo d MX9_move (.dup) z0 44 S Q := zW_step (I := .dup) rfl S Q
theorem eX9_move_44 {d : Nat} {S : zS} {Q : zR → Prop} : zW d MX9_move 44 S Q = zGo d MX9_move (.getfield 29) (zf 0 9 5) 47 S Q := zW_step (I := .getfield 29) rfl S Q
theorem eX9_move_47 {d : Nat} {S : zS} {Q : zR → Prop} : zW d MX9_move 47 S Q = zGo d MX9_move (.iconst 1) (zv (.int 1)) 48 S Q := zW_step (I := .iconst 1) rfl S Q
theorem eX9_move_48 {d : Nat} {S : zS} {Q : zR → Prop} : zW d MX9_move 48 S Q = zGo d MX9_move (.iadd) z0 49 S Q := zW_step (I := .iadd) rfl S Q
theorem eX9_move_49 {d : Nat} {S : zS} {Q : zR → Prop} : zW d MX9_move 49 S Q = zGo d MX9_move (.putfield 29) (zf 0 9 5) 52 S Q := zW_step (I := .putfield 29) rfl S Q
theorem eX9_move_52 {d : Nat} {S : zS} {Q : zR → Prop} : zW d MX9_move 52 S Q = zGo d MX9_move (.iload 3) z0 53 S Q := zW_step (I := .iload_n 3) rfl S Q
theorem eX9_move_53 {d : Nat} {S : zS} {Q : zR → Prop} : zW d MX9_move 53 S Q = zGo d MX9_move (.ireturn) z0 54 S Q := zW_step (I := .ireturn) rfl S Q
theorem rX9_move : MX9_move.2.2.2.2.1 = some .int := rfl
theorem eX9_makeFirm_0 {d : Nat} {S : zS} {Q : zR → Prop} : zW d MX9_makeFirm 0 S Q = zGo d MX9_makeFirm (.iload 1) z0 1 S Q := zW_step (I := .iload_n 1) rfl S Q
theorem eX9_makeFirm_1 {d : Nat} {S : zS} {Q : zR → Prop} : zW d MX9_makeFirm 1 S Q = zGo d MX9_makeFirm (.ifCond .eq 10) (zt 11) 4 S Q := zW_step (I := .ifCond .eq 10) rfl S Q
theorem eX9_makeFirm_4 {d : Nat} {S : zS} {Q : zR → Prop} : zW d MX9_makeFirm 4 S Q = zGo d MX9_makeFirm (.iload 1) z0 5 S Q := zW_step (I := .iload_n 1) rfl S Q
theorem eX9_makeFirm_5 {d : Nat} {S : zS} {Q : zR → Prop} : zW d MX9_makeFirm 5 S Q = zGo d MX9_makeFirm (.iconst 1) (zv (.int 1)) 6 S Q := zW_step (I := .iconst 1) rfl S Q
theorem eX9_makeFirm_6 {d : Nat} {S : zS} {Q : zR → Prop} : zW d MX9_makeFirm 6 S Q = zGo d MX9_makeFirm (.if_icmp .eq 5) (zt 11) 9 S Q := zW_step (I := .if_icmp .eq 5) rfl S Q
theorem eX9_makeFirm_9 {d : Nat} {S : zS} {Q : zR → Prop} : zW d MX9_makeFirm 9 S Q = zGo d MX9_makeFirm (.iconst (-1)) (zv (.int (-1))) 10 S Q := zW_step (I := .iconst (-1)) rfl S Q
theorem eX9_makeFirm_10 {d : Nat} {S : zS} {Q : zR → Prop} : zW d MX9_makeFirm 10 S Q = zGo d MX9_makeFirm (.ireturn) z0 11 S Q := zW_step (I := .ireturn) rfl S Q
theorem eX9_makeFirm_11 {d : Nat} {S : zS} {Q : zR → Prop} : zW d MX9_makeFirm 11 S Q = zGo d MX9_makeFirm (.aload 0) z0 12 S Q := zW_step (I := .aload_n 0) rfl S Q
theorem eX9_makeFirm_12 {d : Nat} {S : zS} {Q : zR → Prop} : zW d MX9_makeFirm 12 S Q = zGo d MX9_makeFirm (.getfield 57) (zf 2 9 4) 15 S Q := zW_step (I := .getfield 57) rfl S Q
theorem eX9_makeFirm_15 {d : Nat} {S : zS} {Q : zR → Prop} : zW d MX9_makeFirm 15 S Q = zGo d MX9_makeFirm (.ifCond .eq 7) (zt 22) 18 S Q := zW_step (I := .ifCond .eq 7) rfl S Q
theorem eX9_makeFirm_18 {d : Nat} {S : zS} {Q : zR → Prop} : zW d MX9_makeFirm 18 S Q = zGo d MX9_makeFirm (.iconst 1) (zv (.int 1)) 19 S Q := zW_step (I := .iconst 1) rfl S Q
theorem eX9_makeFirm_19 {d : Nat} {S : zS} {Q : zR → Prop} : zW d MX9_makeFirm 19 S Q = zGo d MX9_makeFirm (.goto 4) (zt 23) 22 S Q := zW_step (I := .goto 4) rfl S Q
theorem eX9_makeFirm_22 {d : Nat} {S : zS} {Q : zR → Prop} : zW d MX9_makeFirm 22 S Q = zGo d MX9_makeFirm (.iconst 0) (zv (.int 0)) 23 S Q := zW_step (I := .iconst 0) rfl S Q
theorem eX9_makeFirm_23 {d : Nat} {S : zS} {Q : zR → Prop} : zW d MX9_makeFirm 23 S Q = zGo d MX9_makeFirm (.istore 2) z0 24 S Q := zW_step (I := .istore_n 2) rfl S Q
theorem eX9_makeFirm_24 {d : Nat} {S : zS} {Q : zR → Prop} : zW d MX9_makeFirm 24 S Q = zGo d MX9_makeFirm (.aload 0) z0 25 S Q := zW_step (I := .aload_n 0) rfl S Q
theorem eX9_makeFirm_25 {d : Nat} {S : zS} {Q : zR → Prop} : zW d MX9_makeFirm 25 S Q = zGo d MX9_makeFirm (.iload 1) z0 26 S Q := zW_step (I := .iload_n 1) rfl S Q
theorem eX9_makeFirm_26 {d : Nat} {S : zS} {Q : zR → Prop} : zW d MX9_makeFirm 26 S Q = zGo d MX9_makeFirm (.iconst 1) (zv (.int 1)) 27 S Q := zW_step (I := .iconst 1) rfl S Q
theorem eX9_makeFirm_27 {d : Nat} {S : zS} {Q : zR → Prop} : zW d MX9_makeFirm 27 S Q = zGo d MX9_makeFirm (.if_icmp .ne 7) (zt 34) 30 S Q := zW_step (I := .if_icmp .ne 7) rfl S Q
theorem eX9_makeFirm_30 {d : Nat} {S : zS} {Q : zR → Prop} : zW d MX9_makeFirm 30 S Q = zGo d MX9_makeFirm (.iconst 1) (zv (.int 1)) 31 S Q := zW_step (I := .iconst 1) rfl S Q
theorem eX9_makeFirm_31 {d : Nat} {S : zS} {Q : zR → Prop} : zW d MX9_makeFirm 31 S Q = zGo d MX9_makeFirm (.goto 4) (zt 35) 34 S Q := zW_step (I := .goto 4) rfl S Q
theorem eX9_makeFirm_34 {d : Nat} {S : zS} {Q : zR → Prop} : zW d MX9_makeFirm 34 S Q = zGo d MX9_makeFirm (.iconst 0) (zv (.int 0)) 35 S Q := zW_step (I := .iconst 0) rfl S Q
theorem eX9_makeFirm_35 {d : Nat} {S : zS} {Q : zR → Prop} : zW d MX9_makeFirm 35 S Q = zGo d MX9_makeFirm (.putfield 57) (zf 2 9 4) 38 S Q := zW_step (I := .putfield 57) rfl S Q
theorem eX9_makeFirm_38 {d : Nat} {S : zS} {Q : zR → Prop} : zW d MX9_makeFirm 38 S Q = zGo d MX9_makeFirm (.aload 0) z0 39 S Q := zW_step (I := .aload_n 0) rfl S Q
theorem eX9_makeFirm_39 {d : Nat} {S : zS} {Q : zR → Prop} : zW d MX9_makeFirm 39 S Q = zGo d MX9_makeFirm (.dup) z0 40 S Q := zW_step (I := .dup) rfl S Q
theorem eX9_makeFirm_40 {d : Nat} {S : zS} {Q : zR → Prop} : zW d MX9_makeFirm 40 S Q = zGo d MX9_makeFirm (.getfield 29) (zf 0 9 5) 43 S Q := zW_step (I := .getfield 29) rfl S Q
theorem eX9_makeFirm_43 {d : Nat} {S : zS} {Q : zR → Prop} : zW d MX9_makeFirm 43 S Q = zGo d MX9_makeFirm (.iconst 1) (zv (.int 1)) 44 S Q := zW_step (I := .iconst 1) rfl S Q
theorem eX9_makeFirm_44 {d : Nat} {S : zS} {Q : zR → Prop} : zW d MX9_makeFirm 44 S Q = zGo d MX9_makeFirm (.iadd) z0 45 S Q := zW_step (I := .iadd) rfl S Q
theorem eX9_makeFirm_45 {d : Nat} {S : zS} {Q : zR → Prop} : zW d MX9_makeFirm 45 S Q = zGo d MX9_makeFirm (.putfield 29) (zf 0 9 5) 48 S Q := zW_step (I := .putfield 29) rfl S Q
theorem eX9_makeFirm_48 {d : Nat} {S : zS} {Q : zR → Prop} : zW d MX9_makeFirm 48 S Q = zGo d MX9_makeFirm (.iload 2) z0 49 S Q := zW_step (I := .iload_n 2) rfl S Q
theorem eX9_makeFirm_49 {d : Nat} {S : zS} {Q : zR → Prop} : zW d MX9_makeFirm 49 S Q = zGo d MX9_makeFirm (.ireturn) z0 50 S Q := zW_step (I := .ireturn) rfl S Q
theorem rX9_makeFirm : MX9_makeFirm.2.2.2.2.1 = some .int := rfl
def toldSet (h : Nat → zE) (b n : Nat) (rm mt nt : Nat → Nat) (fm : Bool) (vr : Int32) : Nat → zE := fun j =>
  if j = b then zO 9 [.ref (b + 1), .ref (b + 2), .ref (b + 3), .int (nI n), .int (if fm then 1 else 0), .int vr]
  else if j = b + 1 then zI 0 7 (fun i => nI (rm i)) else if j = b + 2 then zI 0 7 (fun i => nI (mt i)) else if j = b + 3 then zI 0 7 (fun i => nI (nt i)) else h j
theorem q_upd (f : Nat → Nat) (i x : Nat) : upd (fun k => nI (f k)) i (nI x) = fun k => nI (z_up f i x k) := by
  funext k
  unfold upd z_up
  split <;> rfl
theorem z_up_lt2 {f : Nat → Nat} {i x c : Nat} (hf : ∀ k, f k < c) (hx : x < c) : ∀ k, z_up f i x k < c := by
  intro k
  unfold z_up
  split
  · exact hx
  · exact hf k
section TOLD2
variable {h h' : Nat → zE} {b n n' : Nat} {rm mt nt rm' mt' nt' : Nat → Nat} {fm fm' : Bool} {vr vr' : Int32} {d : Nat} {u : zU} {Q : zR → Prop}
theorem toldSet_at (hb : b + 3 < 1000) (hn : n ≤ 7) (hr : ∀ i, rm i ≤ 9) (hm : ∀ i, mt i < 128) (ht : ∀ i, nt i < 128) : toldAt (toldSet h b n rm mt nt fm vr) b n rm mt nt fm vr := by
  refine ⟨hb, ?_, ?_, ?_, ?_, hn, hr, hm, ht⟩ <;> simp [toldSet]
theorem toldSet_out {j : Nat} (hj : j < b ∨ b + 3 < j) : toldSet h b n rm mt nt fm vr j = h j := by
  unfold toldSet
  rw [if_neg (by omega), if_neg (by omega), if_neg (by omega), if_neg (by omega)]
theorem toldSet_of (ho : ∀ j, j < b ∨ b + 3 < j → h' j = h j) (h0 : h' b = zO 9 [.ref (b + 1), .ref (b + 2), .ref (b + 3), .int (nI n), .int (if fm then 1 else 0), .int vr]) (h1 : h' (b + 1) = zI 0 7 (fun i => nI (rm i))) (h2 : h' (b + 2) = zI 0 7 (fun i => nI (mt i))) (h3 : h' (b + 3) = zI 0 7 (fun i => nI (nt i))) : h' = toldSet h b n rm mt nt fm vr := by
  funext j
  unfold toldSet
  by_cases c0 : j = b
  · rw [if_pos c0, c0, h0]
  · rw [if_neg c0]
    by_cases c1 : j = b + 1
    · rw [if_pos c1, c1, h1]
    · rw [if_neg c1]
      by_cases c2 : j = b + 2
      · rw [if_pos c2, c2, h2]
      · rw [if_neg c2]
        by_cases c3 : j = b + 3
        · rw [if_pos c3, c3, h3]
        · rw [if_neg c3]
          exact ho j (by omega)
theorem toldSet_self (hT : toldAt h b n rm mt nt fm vr) : toldSet h b n rm mt nt fm vr = h := (toldSet_of (fun _ _ => rfl) hT.2.1 hT.2.2.1 hT.2.2.2.1 hT.2.2.2.2.1).symm
theorem toldSet_set : toldSet (toldSet h b n rm mt nt fm vr) b n' rm' mt' nt' fm' vr' = toldSet h b n' rm' mt' nt' fm' vr' := by
  funext j
  by_cases c : j < b ∨ b + 3 < j
  · rw [toldSet_out c, toldSet_out c, toldSet_out c]
  · unfold toldSet
    by_cases c0 : j = b
    · simp [c0]
    · by_cases c1 : j = b + 1
      · simp [c1]
      · by_cases c2 : j = b + 2
        · simp [c2]
        · have c3 : j = b + 3 := by omega
          simp [c3]
theorem c_putHalf (hT : toldAt h b n rm mt nt fm vr) {i o : Nat} {v : Int32} (hi : i < 7) (ho : o < 7) : zK (d + 1) 114 [.ref b, .int (nI i), .int (nI (2 ^ o)), .int v] (h, u) Q = Q (none, (toldSet h b n rm (z_up mt i (sbit (mt i) o (decide (v = 1)))) (z_up nt i (sbit (nt i) o (decide (v = 0)))) fm vr, u)) := by
  obtain ⟨hb, h0, h1, h2, h3, hn, hr, hm, ht⟩ := id hT
  have hb0 : b < 1000 := by omega
  have hb2 : b + 2 < 1000 := by omega
  have hb3 : b + 3 < 1000 := by omega
  refine zK_of (k := 1) (by omega) ?_
  refine zK_in (M := MX9_putHalf) rfl (Nat.le_of_ble_eq_true rfl) ?_
  show zW 0 MX9_putHalf 0 ([.ref b, .int (nI i), .int (nI (2 ^ o)), .int v], [], (h, u)) _
  have n0 : ∀ e, z_up h (b + 2) e b = h b := fun e => z_up_n h e (by omega)
  have n3 : ∀ e, z_up h (b + 2) e (b + 3) = h (b + 3) := fun e => z_up_n h e (by omega)
  have key : ∀ A B : Nat, z_up (z_up h (b + 2) (zI 0 7 (fun k => nI (z_up mt i A k)))) (b + 3) (zI 0 7 (fun k => nI (z_up nt i B k))) = toldSet h b n rm (z_up mt i A) (z_up nt i B) fm vr := by
    intro A B
    apply toldSet_of
    · intro j hj; rw [z_up_n _ _ (by omega), z_up_n _ _ (by omega)]
    · rw [z_up_n _ _ (by omega), z_up_n _ _ (by omega)]; exact h0
    · rw [z_up_n _ _ (by omega), z_up_n _ _ (by omega)]; exact h1
    · rw [z_up_n _ _ (by omega), z_up_s]
    · rw [z_up_s]
  by_cases c1 : v = 1 <;> by_cases c0 : v = 0
  · rw [c1] at c0; exact absurd c0 (by decide)
  · simp only [eX9_putHalf_0, eX9_putHalf_1, eX9_putHalf_4, eX9_putHalf_5, eX9_putHalf_6, eX9_putHalf_7, eX9_putHalf_10, eX9_putHalf_11, eX9_putHalf_14, eX9_putHalf_15, eX9_putHalf_16, eX9_putHalf_17, eX9_putHalf_18, eX9_putHalf_21, eX9_putHalf_22, eX9_putHalf_25, eX9_putHalf_26, eX9_putHalf_27, eX9_putHalf_28, eX9_putHalf_29, eX9_putHalf_30, eX9_putHalf_31, eX9_putHalf_32, eX9_putHalf_33, eX9_putHalf_36, eX9_putHalf_37, eX9_putHalf_38, eX9_putHalf_41, eX9_putHalf_42, eX9_putHalf_45, eX9_putHalf_46, eX9_putHalf_47, eX9_putHalf_48, eX9_putHalf_49, eX9_putHalf_52, eX9_putHalf_53, eX9_putHalf_56, eX9_putHalf_57, eX9_putHalf_58, eX9_putHalf_59, eX9_putHalf_60, eX9_putHalf_61, eX9_putHalf_62, eX9_putHalf_63, rX9_putHalf, zg_aload, zg_getfield, zg_goto, zg_iaload, zg_iand, zg_iastore, zg_icmp, zg_iconst, zg_if, zg_iload, zg_ior, zg_ixor, zg_return, q10, q01, q00, ite_self, zLd_i, zLd_l, zLd_a, zInc_i, zGet_o, zGet2_s, zPut_o, zAld_i, zAll_j, zAst_i, zAsl_j, zLen_i, zLen_j, zRt_i, zRt_z, zRl2_l, zRv_n, List.getElem?_cons_zero, List.getElem?_cons_succ, List.length_cons, List.length_nil, z_set, z_set2, z_cut, List.set_cons_zero, List.set_cons_succ, Option.toList_some, Option.toList_none, List.cons_append, List.nil_append, zif, zW_ite, zfit_0, zfit_1, zfit_2, zfit_3, zisc_o, zRt_c, zRt_b, List.map_cons, List.map_nil, List.sum_cons, List.sum_nil, true_and, and_true, if_true, if_false, ite_true, ite_false, Nat.reduceLT, Nat.reduceLeDiff, Nat.reduceAdd, Nat.reduceEqDiff, eq_self, not_true_eq_false, not_false_eq_true, Nat.lt_irrefl, or_true, true_or, or_false, false_or, z_cell_lt, Value.category, h0, h2, h3, hb0, hb2, hb3, nI_7 hi, nI_c hi, q_or, c1, c0, n0, n3, q_andn _ (hm i) _ (q_pow_lt ho), q_andn _ (ht i) _ (q_pow_lt ho), q_upd, key]
    simp [sbit, c1]
  · simp only [eX9_putHalf_0, eX9_putHalf_1, eX9_putHalf_4, eX9_putHalf_5, eX9_putHalf_6, eX9_putHalf_7, eX9_putHalf_10, eX9_putHalf_11, eX9_putHalf_14, eX9_putHalf_15, eX9_putHalf_16, eX9_putHalf_17, eX9_putHalf_18, eX9_putHalf_21, eX9_putHalf_22, eX9_putHalf_25, eX9_putHalf_26, eX9_putHalf_27, eX9_putHalf_28, eX9_putHalf_29, eX9_putHalf_30, eX9_putHalf_31, eX9_putHalf_32, eX9_putHalf_33, eX9_putHalf_36, eX9_putHalf_37, eX9_putHalf_38, eX9_putHalf_41, eX9_putHalf_42, eX9_putHalf_45, eX9_putHalf_46, eX9_putHalf_47, eX9_putHalf_48, eX9_putHalf_49, eX9_putHalf_52, eX9_putHalf_53, eX9_putHalf_56, eX9_putHalf_57, eX9_putHalf_58, eX9_putHalf_59, eX9_putHalf_60, eX9_putHalf_61, eX9_putHalf_62, eX9_putHalf_63, rX9_putHalf, zg_aload, zg_getfield, zg_goto, zg_iaload, zg_iand, zg_iastore, zg_icmp, zg_iconst, zg_if, zg_iload, zg_ior, zg_ixor, zg_return, q10, q01, q00, ite_self, zLd_i, zLd_l, zLd_a, zInc_i, zGet_o, zGet2_s, zPut_o, zAld_i, zAll_j, zAst_i, zAsl_j, zLen_i, zLen_j, zRt_i, zRt_z, zRl2_l, zRv_n, List.getElem?_cons_zero, List.getElem?_cons_succ, List.length_cons, List.length_nil, z_set, z_set2, z_cut, List.set_cons_zero, List.set_cons_succ, Option.toList_some, Option.toList_none, List.cons_append, List.nil_append, zif, zW_ite, zfit_0, zfit_1, zfit_2, zfit_3, zisc_o, zRt_c, zRt_b, List.map_cons, List.map_nil, List.sum_cons, List.sum_nil, true_and, and_true, if_true, if_false, ite_true, ite_false, Nat.reduceLT, Nat.reduceLeDiff, Nat.reduceAdd, Nat.reduceEqDiff, eq_self, not_true_eq_false, not_false_eq_true, Nat.lt_irrefl, or_true, true_or, or_false, false_or, z_cell_lt, Value.category, h0, h2, h3, hb0, hb2, hb3, nI_7 hi, nI_c hi, q_or, c1, c0, n0, n3, q_andn _ (hm i) _ (q_pow_lt ho), q_andn _ (ht i) _ (q_pow_lt ho), q_upd, key]
    simp [sbit, c0]
  · simp only [eX9_putHalf_0, eX9_putHalf_1, eX9_putHalf_4, eX9_putHalf_5, eX9_putHalf_6, eX9_putHalf_7, eX9_putHalf_10, eX9_putHalf_11, eX9_putHalf_14, eX9_putHalf_15, eX9_putHalf_16, eX9_putHalf_17, eX9_putHalf_18, eX9_putHalf_21, eX9_putHalf_22, eX9_putHalf_25, eX9_putHalf_26, eX9_putHalf_27, eX9_putHalf_28, eX9_putHalf_29, eX9_putHalf_30, eX9_putHalf_31, eX9_putHalf_32, eX9_putHalf_33, eX9_putHalf_36, eX9_putHalf_37, eX9_putHalf_38, eX9_putHalf_41, eX9_putHalf_42, eX9_putHalf_45, eX9_putHalf_46, eX9_putHalf_47, eX9_putHalf_48, eX9_putHalf_49, eX9_putHalf_52, eX9_putHalf_53, eX9_putHalf_56, eX9_putHalf_57, eX9_putHalf_58, eX9_putHalf_59, eX9_putHalf_60, eX9_putHalf_61, eX9_putHalf_62, eX9_putHalf_63, rX9_putHalf, zg_aload, zg_getfield, zg_goto, zg_iaload, zg_iand, zg_iastore, zg_icmp, zg_iconst, zg_if, zg_iload, zg_ior, zg_ixor, zg_return, q10, q01, q00, ite_self, zLd_i, zLd_l, zLd_a, zInc_i, zGet_o, zGet2_s, zPut_o, zAld_i, zAll_j, zAst_i, zAsl_j, zLen_i, zLen_j, zRt_i, zRt_z, zRl2_l, zRv_n, List.getElem?_cons_zero, List.getElem?_cons_succ, List.length_cons, List.length_nil, z_set, z_set2, z_cut, List.set_cons_zero, List.set_cons_succ, Option.toList_some, Option.toList_none, List.cons_append, List.nil_append, zif, zW_ite, zfit_0, zfit_1, zfit_2, zfit_3, zisc_o, zRt_c, zRt_b, List.map_cons, List.map_nil, List.sum_cons, List.sum_nil, true_and, and_true, if_true, if_false, ite_true, ite_false, Nat.reduceLT, Nat.reduceLeDiff, Nat.reduceAdd, Nat.reduceEqDiff, eq_self, not_true_eq_false, not_false_eq_true, Nat.lt_irrefl, or_true, true_or, or_false, false_or, z_cell_lt, Value.category, h0, h2, h3, hb0, hb2, hb3, nI_7 hi, nI_c hi, q_or, c1, c0, n0, n3, q_andn _ (hm i) _ (q_pow_lt ho), q_andn _ (ht i) _ (q_pow_lt ho), q_upd, key]
    simp [sbit, c1, c0]
end TOLD2

