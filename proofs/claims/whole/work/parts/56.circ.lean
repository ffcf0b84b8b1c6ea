/-! CIRCLES: those that ask only what was told -/
theorem eX0_tell_0 {d : Nat} {S : zS} {Q : zR → Prop} : zW d MX0_tell 0 S Q = zGo d MX0_tell (.aload 2) z0 1 S Q := zW_step (I := .aload_n 2) rfl S Q
theorem eX0_tell_1 {d : Nat} {S : zS} {Q : zR → Prop} : zW d MX0_tell 1 S Q = zGo d MX0_tell (.invokevirtual 52) (zc 78 1 6) 4 S Q := zW_step (I := .invokevirtual 52) rfl S Q
theorem eX0_tell_4 {d : Nat} {S : zS} {Q : zR → Prop} : zW d MX0_tell 4 S Q = zGo d MX0_tell (.iconst 0) (zv (.int 0)) 5 S Q := zW_step (I := .iconst 0) rfl S Q
theorem eX0_tell_5 {d : Nat} {S : zS} {Q : zR → Prop} : zW d MX0_tell 5 S Q = zGo d MX0_tell (.istore 3) z0 6 S Q := zW_step (I := .istore_n 3) rfl S Q
theorem eX0_tell_6 {d : Nat} {S : zS} {Q : zR → Prop} : zW d MX0_tell 6 S Q = zGo d MX0_tell (.iload 3) z0 7 S Q := zW_step (I := .iload_n 3) rfl S Q
theorem eX0_tell_7 {d : Nat} {S : zS} {Q : zR → Prop} : zW d MX0_tell 7 S Q = zGo d MX0_tell (.iload 1) z0 8 S Q := zW_step (I := .iload_n 1) rfl S Q
theorem eX0_tell_8 {d : Nat} {S : zS} {Q : zR → Prop} : zW d MX0_tell 8 S Q = zGo d MX0_tell (.if_icmp .ge 17) (zt 25) 11 S Q := zW_step (I := .if_icmp .ge 17) rfl S Q
theorem eX0_tell_11 {d : Nat} {S : zS} {Q : zR → Prop} : zW d MX0_tell 11 S Q = zGo d MX0_tell (.aload 2) z0 12 S Q := zW_step (I := .aload_n 2) rfl S Q
theorem eX0_tell_12 {d : Nat} {S : zS} {Q : zR → Prop} : zW d MX0_tell 12 S Q = zGo d MX0_tell (.aload 0) z0 13 S Q := zW_step (I := .aload_n 0) rfl S Q
theorem eX0_tell_13 {d : Nat} {S : zS} {Q : zR → Prop} : zW d MX0_tell 13 S Q = zGo d MX0_tell (.iload 3) z0 14 S Q := zW_step (I := .iload_n 3) rfl S Q
theorem eX0_tell_14 {d : Nat} {S : zS} {Q : zR → Prop} : zW d MX0_tell 14 S Q = zGo d MX0_tell (.iaload) z0 15 S Q := zW_step (I := .iaload) rfl S Q
theorem eX0_tell_15 {d : Nat} {S : zS} {Q : zR → Prop} : zW d MX0_tell 15 S Q = zGo d MX0_tell (.i2l) z0 16 S Q := zW_step (I := .i2l) rfl S Q
theorem eX0_tell_16 {d : Nat} {S : zS} {Q : zR → Prop} : zW d MX0_tell 16 S Q = zGo d MX0_tell (.invokevirtual 57) (zc 79 2 6) 19 S Q := zW_step (I := .invokevirtual 57) rfl S Q
theorem eX0_tell_19 {d : Nat} {S : zS} {Q : zR → Prop} : zW d MX0_tell 19 S Q = zGo d MX0_tell (.iinc 3 1) (zv (.int 1)) 22 S Q := zW_step (I := .iinc 3 1) rfl S Q
theorem eX0_tell_22 {d : Nat} {S : zS} {Q : zR → Prop} : zW d MX0_tell 22 S Q = zGo d MX0_tell (.goto (-16)) (zt 6) 25 S Q := zW_step (I := .goto (-16)) rfl S Q
theorem eX0_tell_25 {d : Nat} {S : zS} {Q : zR → Prop} : zW d MX0_tell 25 S Q = zGo d MX0_tell (.return_) z0 26 S Q := zW_step (I := .return_) rfl S Q
theorem rX0_tell : MX0_tell.2.2.2.2.1 = none := rfl
theorem eX0_metByAny_0 {d : Nat} {S : zS} {Q : zR → Prop} : zW d MX0_metByAny 0 S Q = zGo d MX0_metByAny (.iconst 0) (zv (.int 0)) 1 S Q := zW_step (I := .iconst 0) rfl S Q
theorem eX0_metByAny_1 {d : Nat} {S : zS} {Q : zR → Prop} : zW d MX0_metByAny 1 S Q = zGo d MX0_metByAny (.istore 2) z0 2 S Q := zW_step (I := .istore_n 2) rfl S Q
theorem eX0_metByAny_2 {d : Nat} {S : zS} {Q : zR → Prop} : zW d MX0_metByAny 2 S Q = zGo d MX0_metByAny (.iconst 0) (zv (.int 0)) 3 S Q := zW_step (I := .iconst 0) rfl S Q
theorem eX0_metByAny_3 {d : Nat} {S : zS} {Q : zR → Prop} : zW d MX0_metByAny 3 S Q = zGo d MX0_metByAny (.istore 3) z0 4 S Q := zW_step (I := .istore_n 3) rfl S Q
theorem eX0_metByAny_4 {d : Nat} {S : zS} {Q : zR → Prop} : zW d MX0_metByAny 4 S Q = zGo d MX0_metByAny (.iload 3) z0 5 S Q := zW_step (I := .iload_n 3) rfl S Q
theorem eX0_metByAny_5 {d : Nat} {S : zS} {Q : zR → Prop} : zW d MX0_metByAny 5 S Q = zGo d MX0_metByAny (.aload 0) z0 6 S Q := zW_step (I := .aload_n 0) rfl S Q
theorem eX0_metByAny_6 {d : Nat} {S : zS} {Q : zR → Prop} : zW d MX0_metByAny 6 S Q = zGo d MX0_metByAny (.getfield 18) (zf 0 9 3) 9 S Q := zW_step (I := .getfield 18) rfl S Q
theorem eX0_metByAny_9 {d : Nat} {S : zS} {Q : zR → Prop} : zW d MX0_metByAny 9 S Q = zGo d MX0_metByAny (.if_icmp .ge 27) (zt 36) 12 S Q := zW_step (I := .if_icmp .ge 27) rfl S Q
theorem eX0_metByAny_12 {d : Nat} {S : zS} {Q : zR → Prop} : zW d MX0_metByAny 12 S Q = zGo d MX0_metByAny (.iload 1) z0 13 S Q := zW_step (I := .iload_n 1) rfl S Q
theorem eX0_metByAny_13 {d : Nat} {S : zS} {Q : zR → Prop} : zW d MX0_metByAny 13 S Q = zGo d MX0_metByAny (.iload 3) z0 14 S Q := zW_step (I := .iload_n 3) rfl S Q
theorem eX0_metByAny_14 {d : Nat} {S : zS} {Q : zR → Prop} : zW d MX0_metByAny 14 S Q = zGo d MX0_metByAny (.ishr) z0 15 S Q := zW_step (I := .ishr) rfl S Q
theorem eX0_metByAny_15 {d : Nat} {S : zS} {Q : zR → Prop} : zW d MX0_metByAny 15 S Q = zGo d MX0_metByAny (.iconst 1) (zv (.int 1)) 16 S Q := zW_step (I := .iconst 1) rfl S Q
theorem eX0_metByAny_16 {d : Nat} {S : zS} {Q : zR → Prop} : zW d MX0_metByAny 16 S Q = zGo d MX0_metByAny (.iand) z0 17 S Q := zW_step (I := .iand) rfl S Q
theorem eX0_metByAny_17 {d : Nat} {S : zS} {Q : zR → Prop} : zW d MX0_metByAny 17 S Q = zGo d MX0_metByAny (.iconst 1) (zv (.int 1)) 18 S Q := zW_step (I := .iconst 1) rfl S Q
theorem eX0_metByAny_18 {d : Nat} {S : zS} {Q : zR → Prop} : zW d MX0_metByAny 18 S Q = zGo d MX0_metByAny (.if_icmp .ne 12) (zt 30) 21 S Q := zW_step (I := .if_icmp .ne 12) rfl S Q
theorem eX0_metByAny_21 {d : Nat} {S : zS} {Q : zR → Prop} : zW d MX0_metByAny 21 S Q = zGo d MX0_metByAny (.iload 2) z0 22 S Q := zW_step (I := .iload_n 2) rfl S Q
theorem eX0_metByAny_22 {d : Nat} {S : zS} {Q : zR → Prop} : zW d MX0_metByAny 22 S Q = zGo d MX0_metByAny (.aload 0) z0 23 S Q := zW_step (I := .aload_n 0) rfl S Q
theorem eX0_metByAny_23 {d : Nat} {S : zS} {Q : zR → Prop} : zW d MX0_metByAny 23 S Q = zGo d MX0_metByAny (.getfield 61) (zf 3 9 1) 26 S Q := zW_step (I := .getfield 61) rfl S Q
theorem eX0_metByAny_26 {d : Nat} {S : zS} {Q : zR → Prop} : zW d MX0_metByAny 26 S Q = zGo d MX0_metByAny (.iload 3) z0 27 S Q := zW_step (I := .iload_n 3) rfl S Q
theorem eX0_metByAny_27 {d : Nat} {S : zS} {Q : zR → Prop} : zW d MX0_metByAny 27 S Q = zGo d MX0_metByAny (.iaload) z0 28 S Q := zW_step (I := .iaload) rfl S Q
theorem eX0_metByAny_28 {d : Nat} {S : zS} {Q : zR → Prop} : zW d MX0_metByAny 28 S Q = zGo d MX0_metByAny (.ior) z0 29 S Q := zW_step (I := .ior) rfl S Q
theorem eX0_metByAny_29 {d : Nat} {S : zS} {Q : zR → Prop} : zW d MX0_metByAny 29 S Q = zGo d MX0_metByAny (.istore 2) z0 30 S Q := zW_step (I := .istore_n 2) rfl S Q
theorem eX0_metByAny_30 {d : Nat} {S : zS} {Q : zR → Prop} : zW d MX0_metByAny 30 S Q = zGo d MX0_metByAny (.iinc 3 1) (zv (.int 1)) 33 S Q := zW_step (I := .iinc 3 1) rfl S Q
theorem eX0_metByAny_33 {d : Nat} {S : zS} {Q : zR → Prop} : zW d MX0_metByAny 33 S Q = zGo d MX0_metByAny (.goto (-29)) (zt 4) 36 S Q := zW_step (I := .goto (-29)) rfl S Q
theorem eX0_metByAny_36 {d : Nat} {S : zS} {Q : zR → Prop} : zW d MX0_metByAny 36 S Q = zGo d MX0_metByAny (.iload 2) z0 37 S Q := zW_step (I := .iload_n 2) rfl S Q
theorem eX0_metByAny_37 {d : Nat} {S : zS} {Q : zR → Prop} : zW d MX0_metByAny 37 S Q = zGo d MX0_metByAny (.ireturn) z0 38 S Q := zW_step (I := .ireturn) rfl S Q
theorem rX0_metByAny : MX0_metByAny.2.2.2.2.1 = some .int := rfl
theorem eX0_isWay_0 {d : Nat} {S : zS} {Q : zR → Prop} : zW d MX0_isWay 0 S Q = zGo d MX0_isWay (.aload 0) z0 1 S Q := zW_step (I := .aload_n 0) rfl S Q
theorem eX0_isWay_1 {d : Nat} {S : zS} {Q : zR → Prop} : zW d MX0_isWay 1 S Q = zGo d MX0_isWay (.invokevirtual 24) (zc 109 1 9) 4 S Q := zW_step (I := .invokevirtual 24) rfl S Q
theorem eX0_isWay_4 {d : Nat} {S : zS} {Q : zR → Prop} : zW d MX0_isWay 4 S Q = zGo d MX0_isWay (.aload 0) z0 5 S Q := zW_step (I := .aload_n 0) rfl S Q
theorem eX0_isWay_5 {d : Nat} {S : zS} {Q : zR → Prop} : zW d MX0_isWay 5 S Q = zGo d MX0_isWay (.getfield 61) (zf 3 9 1) 8 S Q := zW_step (I := .getfield 61) rfl S Q
theorem eX0_isWay_8 {d : Nat} {S : zS} {Q : zR → Prop} : zW d MX0_isWay 8 S Q = zGo d MX0_isWay (.iload 3) z0 9 S Q := zW_step (I := .iload_n 3) rfl S Q
theorem eX0_isWay_9 {d : Nat} {S : zS} {Q : zR → Prop} : zW d MX0_isWay 9 S Q = zGo d MX0_isWay (.iaload) z0 10 S Q := zW_step (I := .iaload) rfl S Q
theorem eX0_isWay_10 {d : Nat} {S : zS} {Q : zR → Prop} : zW d MX0_isWay 10 S Q = zGo d MX0_isWay (.iconst 1) (zv (.int 1)) 11 S Q := zW_step (I := .iconst 1) rfl S Q
theorem eX0_isWay_11 {d : Nat} {S : zS} {Q : zR → Prop} : zW d MX0_isWay 11 S Q = zGo d MX0_isWay (.iload 3) z0 12 S Q := zW_step (I := .iload_n 3) rfl S Q
theorem eX0_isWay_12 {d : Nat} {S : zS} {Q : zR → Prop} : zW d MX0_isWay 12 S Q = zGo d MX0_isWay (.ishl) z0 13 S Q := zW_step (I := .ishl) rfl S Q
theorem eX0_isWay_13 {d : Nat} {S : zS} {Q : zR → Prop} : zW d MX0_isWay 13 S Q = zGo d MX0_isWay (.ior) z0 14 S Q := zW_step (I := .ior) rfl S Q
theorem eX0_isWay_14 {d : Nat} {S : zS} {Q : zR → Prop} : zW d MX0_isWay 14 S Q = zGo d MX0_isWay (.iconst (-1)) (zv (.int (-1))) 15 S Q := zW_step (I := .iconst (-1)) rfl S Q
theorem eX0_isWay_15 {d : Nat} {S : zS} {Q : zR → Prop} : zW d MX0_isWay 15 S Q = zGo d MX0_isWay (.ixor) z0 16 S Q := zW_step (I := .ixor) rfl S Q
theorem eX0_isWay_16 {d : Nat} {S : zS} {Q : zR → Prop} : zW d MX0_isWay 16 S Q = zGo d MX0_isWay (.iand) z0 17 S Q := zW_step (I := .iand) rfl S Q
theorem eX0_isWay_17 {d : Nat} {S : zS} {Q : zR → Prop} : zW d MX0_isWay 17 S Q = zGo d MX0_isWay (.istore 4) z0 19 S Q := zW_step (I := .istore 4) rfl S Q
theorem eX0_isWay_19 {d : Nat} {S : zS} {Q : zR → Prop} : zW d MX0_isWay 19 S Q = zGo d MX0_isWay (.iconst 1) (zv (.int 1)) 20 S Q := zW_step (I := .iconst 1) rfl S Q
theorem eX0_isWay_20 {d : Nat} {S : zS} {Q : zR → Prop} : zW d MX0_isWay 20 S Q = zGo d MX0_isWay (.iload 1) z0 21 S Q := zW_step (I := .iload_n 1) rfl S Q
theorem eX0_isWay_21 {d : Nat} {S : zS} {Q : zR → Prop} : zW d MX0_isWay 21 S Q = zGo d MX0_isWay (.ishl) z0 22 S Q := zW_step (I := .ishl) rfl S Q
theorem eX0_isWay_22 {d : Nat} {S : zS} {Q : zR → Prop} : zW d MX0_isWay 22 S Q = zGo d MX0_isWay (.istore 5) z0 24 S Q := zW_step (I := .istore 5) rfl S Q
theorem eX0_isWay_24 {d : Nat} {S : zS} {Q : zR → Prop} : zW d MX0_isWay 24 S Q = zGo d MX0_isWay (.iconst 0) (zv (.int 0)) 25 S Q := zW_step (I := .iconst 0) rfl S Q
theorem eX0_isWay_25 {d : Nat} {S : zS} {Q : zR → Prop} : zW d MX0_isWay 25 S Q = zGo d MX0_isWay (.istore 6) z0 27 S Q := zW_step (I := .istore 6) rfl S Q
theorem eX0_isWay_27 {d : Nat} {S : zS} {Q : zR → Prop} : zW d MX0_isWay 27 S Q = zGo d MX0_isWay (.iload 6) z0 29 S Q := zW_step (I := .iload 6) rfl S Q
theorem eX0_isWay_29 {d : Nat} {S : zS} {Q : zR → Prop} : zW d MX0_isWay 29 S Q = zGo d MX0_isWay (.aload 0) z0 30 S Q := zW_step (I := .aload_n 0) rfl S Q
theorem eX0_isWay_30 {d : Nat} {S : zS} {Q : zR → Prop} : zW d MX0_isWay 30 S Q = zGo d MX0_isWay (.getfield 18) (zf 0 9 3) 33 S Q := zW_step (I := .getfield 18) rfl S Q
theorem eX0_isWay_33 {d : Nat} {S : zS} {Q : zR → Prop} : zW d MX0_isWay 33 S Q = zGo d MX0_isWay (.if_icmp .ge 23) (zt 56) 36 S Q := zW_step (I := .if_icmp .ge 23) rfl S Q
theorem eX0_isWay_36 {d : Nat} {S : zS} {Q : zR → Prop} : zW d MX0_isWay 36 S Q = zGo d MX0_isWay (.iload 5) z0 38 S Q := zW_step (I := .iload 5) rfl S Q
theorem eX0_isWay_38 {d : Nat} {S : zS} {Q : zR → Prop} : zW d MX0_isWay 38 S Q = zGo d MX0_isWay (.aload 0) z0 39 S Q := zW_step (I := .aload_n 0) rfl S Q
theorem eX0_isWay_39 {d : Nat} {S : zS} {Q : zR → Prop} : zW d MX0_isWay 39 S Q = zGo d MX0_isWay (.iload 5) z0 41 S Q := zW_step (I := .iload 5) rfl S Q
theorem eX0_isWay_41 {d : Nat} {S : zS} {Q : zR → Prop} : zW d MX0_isWay 41 S Q = zGo d MX0_isWay (.invokestatic 84) (zc 9 2 0) 44 S Q := zW_step (I := .invokestatic 84) rfl S Q
theorem eX0_isWay_44 {d : Nat} {S : zS} {Q : zR → Prop} : zW d MX0_isWay 44 S Q = zGo d MX0_isWay (.iload 4) z0 46 S Q := zW_step (I := .iload 4) rfl S Q
theorem eX0_isWay_46 {d : Nat} {S : zS} {Q : zR → Prop} : zW d MX0_isWay 46 S Q = zGo d MX0_isWay (.iand) z0 47 S Q := zW_step (I := .iand) rfl S Q
theorem eX0_isWay_47 {d : Nat} {S : zS} {Q : zR → Prop} : zW d MX0_isWay 47 S Q = zGo d MX0_isWay (.ior) z0 48 S Q := zW_step (I := .ior) rfl S Q
theorem eX0_isWay_48 {d : Nat} {S : zS} {Q : zR → Prop} : zW d MX0_isWay 48 S Q = zGo d MX0_isWay (.istore 5) z0 50 S Q := zW_step (I := .istore 5) rfl S Q
theorem eX0_isWay_50 {d : Nat} {S : zS} {Q : zR → Prop} : zW d MX0_isWay 50 S Q = zGo d MX0_isWay (.iinc 6 1) (zv (.int 1)) 53 S Q := zW_step (I := .iinc 6 1) rfl S Q
theorem eX0_isWay_53 {d : Nat} {S : zS} {Q : zR → Prop} : zW d MX0_isWay 53 S Q = zGo d MX0_isWay (.goto (-26)) (zt 27) 56 S Q := zW_step (I := .goto (-26)) rfl S Q
theorem eX0_isWay_56 {d : Nat} {S : zS} {Q : zR → Prop} : zW d MX0_isWay 56 S Q = zGo d MX0_isWay (.iload 5) z0 58 S Q := zW_step (I := .iload 5) rfl S Q
theorem eX0_isWay_58 {d : Nat} {S : zS} {Q : zR → Prop} : zW d MX0_isWay 58 S Q = zGo d MX0_isWay (.iload 2) z0 59 S Q := zW_step (I := .iload_n 2) rfl S Q
theorem eX0_isWay_59 {d : Nat} {S : zS} {Q : zR → Prop} : zW d MX0_isWay 59 S Q = zGo d MX0_isWay (.ishr) z0 60 S Q := zW_step (I := .ishr) rfl S Q
theorem eX0_isWay_60 {d : Nat} {S : zS} {Q : zR → Prop} : zW d MX0_isWay 60 S Q = zGo d MX0_isWay (.iconst 1) (zv (.int 1)) 61 S Q := zW_step (I := .iconst 1) rfl S Q
theorem eX0_isWay_61 {d : Nat} {S : zS} {Q : zR → Prop} : zW d MX0_isWay 61 S Q = zGo d MX0_isWay (.iand) z0 62 S Q := zW_step (I := .iand) rfl S Q
theorem eX0_isWay_62 {d : Nat} {S : zS} {Q : zR → Prop} : zW d MX0_isWay 62 S Q = zGo d MX0_isWay (.iconst 1) (zv (.int 1)) 63 S Q := zW_step (I := .iconst 1) rfl S Q
theorem eX0_isWay_63 {d : Nat} {S : zS} {Q : zR → Prop} : zW d MX0_isWay 63 S Q = zGo d MX0_isWay (.if_icmp .ne 7) (zt 70) 66 S Q := zW_step (I := .if_icmp .ne 7) rfl S Q
theorem eX0_isWay_66 {d : Nat} {S : zS} {Q : zR → Prop} : zW d MX0_isWay 66 S Q = zGo d MX0_isWay (.iconst 1) (zv (.int 1)) 67 S Q := zW_step (I := .iconst 1) rfl S Q
theorem eX0_isWay_67 {d : Nat} {S : zS} {Q : zR → Prop} : zW d MX0_isWay 67 S Q = zGo d MX0_isWay (.goto 4) (zt 71) 70 S Q := zW_step (I := .goto 4) rfl S Q
theorem eX0_isWay_70 {d : Nat} {S : zS} {Q : zR → Prop} : zW d MX0_isWay 70 S Q = zGo d MX0_isWay (.iconst 0) (zv (.int 0)) 71 S Q := zW_step (I := .iconst 0) rfl S Q
theorem eX0_isWay_71 {d : Nat} {S : zS} {Q : zR → Prop} : zW d MX0_isWay 71 S Q = zGo d MX0_isWay (.ireturn) z0 72 S Q := zW_step (I := .ireturn) rfl S Q
theorem rX0_isWay : MX0_isWay.2.2.2.2.1 = some .boolean := rfl
theorem eX0_areFar_0 {d : Nat} {S : zS} {Q : zR → Prop} : zW d MX0_areFar 0 S Q = zGo d MX0_areFar (.aload 0) z0 1 S Q := zW_step (I := .aload_n 0) rfl S Q
theorem eX0_areFar_1 {d : Nat} {S : zS} {Q : zR → Prop} : zW d MX0_areFar 1 S Q = zGo d MX0_areFar (.iload 1) z0 2 S Q := zW_step (I := .iload_n 1) rfl S Q
theorem eX0_areFar_2 {d : Nat} {S : zS} {Q : zR → Prop} : zW d MX0_areFar 2 S Q = zGo d MX0_areFar (.iload 2) z0 3 S Q := zW_step (I := .iload_n 2) rfl S Q
theorem eX0_areFar_3 {d : Nat} {S : zS} {Q : zR → Prop} : zW d MX0_areFar 3 S Q = zGo d MX0_areFar (.invokevirtual 77) (zc 112 3 9) 6 S Q := zW_step (I := .invokevirtual 77) rfl S Q
theorem eX0_areFar_6 {d : Nat} {S : zS} {Q : zR → Prop} : zW d MX0_areFar 6 S Q = zGo d MX0_areFar (.ifCond .ne 25) (zt 31) 9 S Q := zW_step (I := .ifCond .ne 25) rfl S Q
theorem eX0_areFar_9 {d : Nat} {S : zS} {Q : zR → Prop} : zW d MX0_areFar 9 S Q = zGo d MX0_areFar (.aload 0) z0 10 S Q := zW_step (I := .aload_n 0) rfl S Q
theorem eX0_areFar_10 {d : Nat} {S : zS} {Q : zR → Prop} : zW d MX0_areFar 10 S Q = zGo d MX0_areFar (.iload 1) z0 11 S Q := zW_step (I := .iload_n 1) rfl S Q
theorem eX0_areFar_11 {d : Nat} {S : zS} {Q : zR → Prop} : zW d MX0_areFar 11 S Q = zGo d MX0_areFar (.iload 3) z0 12 S Q := zW_step (I := .iload_n 3) rfl S Q
theorem eX0_areFar_12 {d : Nat} {S : zS} {Q : zR → Prop} : zW d MX0_areFar 12 S Q = zGo d MX0_areFar (.invokevirtual 77) (zc 112 3 9) 15 S Q := zW_step (I := .invokevirtual 77) rfl S Q
theorem eX0_areFar_15 {d : Nat} {S : zS} {Q : zR → Prop} : zW d MX0_areFar 15 S Q = zGo d MX0_areFar (.ifCond .ne 16) (zt 31) 18 S Q := zW_step (I := .ifCond .ne 16) rfl S Q
theorem eX0_areFar_18 {d : Nat} {S : zS} {Q : zR → Prop} : zW d MX0_areFar 18 S Q = zGo d MX0_areFar (.aload 0) z0 19 S Q := zW_step (I := .aload_n 0) rfl S Q
theorem eX0_areFar_19 {d : Nat} {S : zS} {Q : zR → Prop} : zW d MX0_areFar 19 S Q = zGo d MX0_areFar (.iload 2) z0 20 S Q := zW_step (I := .iload_n 2) rfl S Q
theorem eX0_areFar_20 {d : Nat} {S : zS} {Q : zR → Prop} : zW d MX0_areFar 20 S Q = zGo d MX0_areFar (.iload 3) z0 21 S Q := zW_step (I := .iload_n 3) rfl S Q
theorem eX0_areFar_21 {d : Nat} {S : zS} {Q : zR → Prop} : zW d MX0_areFar 21 S Q = zGo d MX0_areFar (.invokevirtual 77) (zc 112 3 9) 24 S Q := zW_step (I := .invokevirtual 77) rfl S Q
theorem eX0_areFar_24 {d : Nat} {S : zS} {Q : zR → Prop} : zW d MX0_areFar 24 S Q = zGo d MX0_areFar (.ifCond .ne 7) (zt 31) 27 S Q := zW_step (I := .ifCond .ne 7) rfl S Q
theorem eX0_areFar_27 {d : Nat} {S : zS} {Q : zR → Prop} : zW d MX0_areFar 27 S Q = zGo d MX0_areFar (.iconst 1) (zv (.int 1)) 28 S Q := zW_step (I := .iconst 1) rfl S Q
theorem eX0_areFar_28 {d : Nat} {S : zS} {Q : zR → Prop} : zW d MX0_areFar 28 S Q = zGo d MX0_areFar (.goto 4) (zt 32) 31 S Q := zW_step (I := .goto 4) rfl S Q
theorem eX0_areFar_31 {d : Nat} {S : zS} {Q : zR → Prop} : zW d MX0_areFar 31 S Q = zGo d MX0_areFar (.iconst 0) (zv (.int 0)) 32 S Q := zW_step (I := .iconst 0) rfl S Q
theorem eX0_areFar_32 {d : Nat} {S : zS} {Q : zR → Prop} : zW d MX0_areFar 32 S Q = zGo d MX0_areFar (.istore 4) z0 34 S Q := zW_step (I := .istore 4) rfl S Q
theorem eX0_areFar_34 {d : Nat} {S : zS} {Q : zR → Prop} : zW d MX0_areFar 34 S Q = zGo d MX0_areFar (.iload 4) z0 36 S Q := zW_step (I := .iload 4) rfl S Q
theorem eX0_areFar_36 {d : Nat} {S : zS} {Q : zR → Prop} : zW d MX0_areFar 36 S Q = zGo d MX0_areFar (.ifCond .eq 37) (zt 73) 39 S Q := zW_step (I := .ifCond .eq 37) rfl S Q
theorem eX0_areFar_39 {d : Nat} {S : zS} {Q : zR → Prop} : zW d MX0_areFar 39 S Q = zGo d MX0_areFar (.aload 0) z0 40 S Q := zW_step (I := .aload_n 0) rfl S Q
theorem eX0_areFar_40 {d : Nat} {S : zS} {Q : zR → Prop} : zW d MX0_areFar 40 S Q = zGo d MX0_areFar (.iload 1) z0 41 S Q := zW_step (I := .iload_n 1) rfl S Q
theorem eX0_areFar_41 {d : Nat} {S : zS} {Q : zR → Prop} : zW d MX0_areFar 41 S Q = zGo d MX0_areFar (.iload 2) z0 42 S Q := zW_step (I := .iload_n 2) rfl S Q
theorem eX0_areFar_42 {d : Nat} {S : zS} {Q : zR → Prop} : zW d MX0_areFar 42 S Q = zGo d MX0_areFar (.iload 3) z0 43 S Q := zW_step (I := .iload_n 3) rfl S Q
theorem eX0_areFar_43 {d : Nat} {S : zS} {Q : zR → Prop} : zW d MX0_areFar 43 S Q = zGo d MX0_areFar (.invokestatic 81) (zc 8 4 0) 46 S Q := zW_step (I := .invokestatic 81) rfl S Q
theorem eX0_areFar_46 {d : Nat} {S : zS} {Q : zR → Prop} : zW d MX0_areFar 46 S Q = zGo d MX0_areFar (.ifCond .eq 27) (zt 73) 49 S Q := zW_step (I := .ifCond .eq 27) rfl S Q
theorem eX0_areFar_49 {d : Nat} {S : zS} {Q : zR → Prop} : zW d MX0_areFar 49 S Q = zGo d MX0_areFar (.aload 0) z0 50 S Q := zW_step (I := .aload_n 0) rfl S Q
theorem eX0_areFar_50 {d : Nat} {S : zS} {Q : zR → Prop} : zW d MX0_areFar 50 S Q = zGo d MX0_areFar (.iload 1) z0 51 S Q := zW_step (I := .iload_n 1) rfl S Q
theorem eX0_areFar_51 {d : Nat} {S : zS} {Q : zR → Prop} : zW d MX0_areFar 51 S Q = zGo d MX0_areFar (.iload 3) z0 52 S Q := zW_step (I := .iload_n 3) rfl S Q
theorem eX0_areFar_52 {d : Nat} {S : zS} {Q : zR → Prop} : zW d MX0_areFar 52 S Q = zGo d MX0_areFar (.iload 2) z0 53 S Q := zW_step (I := .iload_n 2) rfl S Q
theorem eX0_areFar_53 {d : Nat} {S : zS} {Q : zR → Prop} : zW d MX0_areFar 53 S Q = zGo d MX0_areFar (.invokestatic 81) (zc 8 4 0) 56 S Q := zW_step (I := .invokestatic 81) rfl S Q
theorem eX0_areFar_56 {d : Nat} {S : zS} {Q : zR → Prop} : zW d MX0_areFar 56 S Q = zGo d MX0_areFar (.ifCond .eq 17) (zt 73) 59 S Q := zW_step (I := .ifCond .eq 17) rfl S Q
theorem eX0_areFar_59 {d : Nat} {S : zS} {Q : zR → Prop} : zW d MX0_areFar 59 S Q = zGo d MX0_areFar (.aload 0) z0 60 S Q := zW_step (I := .aload_n 0) rfl S Q
theorem eX0_areFar_60 {d : Nat} {S : zS} {Q : zR → Prop} : zW d MX0_areFar 60 S Q = zGo d MX0_areFar (.iload 2) z0 61 S Q := zW_step (I := .iload_n 2) rfl S Q
theorem eX0_areFar_61 {d : Nat} {S : zS} {Q : zR → Prop} : zW d MX0_areFar 61 S Q = zGo d MX0_areFar (.iload 3) z0 62 S Q := zW_step (I := .iload_n 3) rfl S Q
theorem eX0_areFar_62 {d : Nat} {S : zS} {Q : zR → Prop} : zW d MX0_areFar 62 S Q = zGo d MX0_areFar (.iload 1) z0 63 S Q := zW_step (I := .iload_n 1) rfl S Q
theorem eX0_areFar_63 {d : Nat} {S : zS} {Q : zR → Prop} : zW d MX0_areFar 63 S Q = zGo d MX0_areFar (.invokestatic 81) (zc 8 4 0) 66 S Q := zW_step (I := .invokestatic 81) rfl S Q
theorem eX0_areFar_66 {d : Nat} {S : zS} {Q : zR → Prop} : zW d MX0_areFar 66 S Q = zGo d MX0_areFar (.ifCond .eq 7) (zt 73) 69 S Q := zW_step (I := .ifCond .eq 7) rfl S Q
theorem eX0_areFar_69 {d : Nat} {S : zS} {Q : zR → Prop} : zW d MX0_areFar 69 S Q = zGo d MX0_areFar (.iconst 1) (zv (.int 1)) 70 S Q := zW_step (I := .iconst 1) rfl S Q
theorem eX0_areFar_70 {d : Nat} {S : zS} {Q : zR → Prop} : zW d MX0_areFar 70 S Q = zGo d MX0_areFar (.goto 4) (zt 74) 73 S Q := zW_step (I := .goto 4) rfl S Q
theorem eX0_areFar_73 {d : Nat} {S : zS} {Q : zR → Prop} : zW d MX0_areFar 73 S Q = zGo d MX0_areFar (.iconst 0) (zv (.int 0)) 74 S Q := zW_step (I := .iconst 0) rfl S Q
theorem eX0_areFar_74 {d : Nat} {S : zS} {Q : zR → Prop} : zW d MX0_areFar 74 S Q = zGo d MX0_areFar (.ireturn) z0 75 S Q := zW_step (I := .ireturn) rfl S Q
theorem rX0_areFar : MX0_areFar.2.2.2.2.1 = some .boolean := rfl
theorem eX0_isCircle_0 {d : Nat} {S : zS} {Q : zR → Prop} : zW d MX0_isCircle 0 S Q = zGo d MX0_isCircle (.iconst 0) (zv (.int 0)) 1 S Q := zW_step (I := .iconst 0) rfl S Q
theorem eX0_isCircle_1 {d : Nat} {S : zS} {Q : zR → Prop} : zW d MX0_isCircle 1 S Q = zGo d MX0_isCircle (.istore 2) z0 2 S Q := zW_step (I := .istore_n 2) rfl S Q
theorem eX0_isCircle_2 {d : Nat} {S : zS} {Q : zR → Prop} : zW d MX0_isCircle 2 S Q = zGo d MX0_isCircle (.iload 2) z0 3 S Q := zW_step (I := .iload_n 2) rfl S Q
theorem eX0_isCircle_3 {d : Nat} {S : zS} {Q : zR → Prop} : zW d MX0_isCircle 3 S Q = zGo d MX0_isCircle (.aload 0) z0 4 S Q := zW_step (I := .aload_n 0) rfl S Q
theorem eX0_isCircle_4 {d : Nat} {S : zS} {Q : zR → Prop} : zW d MX0_isCircle 4 S Q = zGo d MX0_isCircle (.getfield 18) (zf 0 9 3) 7 S Q := zW_step (I := .getfield 18) rfl S Q
theorem eX0_isCircle_7 {d : Nat} {S : zS} {Q : zR → Prop} : zW d MX0_isCircle 7 S Q = zGo d MX0_isCircle (.if_icmp .ge 37) (zt 44) 10 S Q := zW_step (I := .if_icmp .ge 37) rfl S Q
theorem eX0_isCircle_10 {d : Nat} {S : zS} {Q : zR → Prop} : zW d MX0_isCircle 10 S Q = zGo d MX0_isCircle (.iload 1) z0 11 S Q := zW_step (I := .iload_n 1) rfl S Q
theorem eX0_isCircle_11 {d : Nat} {S : zS} {Q : zR → Prop} : zW d MX0_isCircle 11 S Q = zGo d MX0_isCircle (.iload 2) z0 12 S Q := zW_step (I := .iload_n 2) rfl S Q
theorem eX0_isCircle_12 {d : Nat} {S : zS} {Q : zR → Prop} : zW d MX0_isCircle 12 S Q = zGo d MX0_isCircle (.ishr) z0 13 S Q := zW_step (I := .ishr) rfl S Q
theorem eX0_isCircle_13 {d : Nat} {S : zS} {Q : zR → Prop} : zW d MX0_isCircle 13 S Q = zGo d MX0_isCircle (.iconst 1) (zv (.int 1)) 14 S Q := zW_step (I := .iconst 1) rfl S Q
theorem eX0_isCircle_14 {d : Nat} {S : zS} {Q : zR → Prop} : zW d MX0_isCircle 14 S Q = zGo d MX0_isCircle (.iand) z0 15 S Q := zW_step (I := .iand) rfl S Q
theorem eX0_isCircle_15 {d : Nat} {S : zS} {Q : zR → Prop} : zW d MX0_isCircle 15 S Q = zGo d MX0_isCircle (.iconst 1) (zv (.int 1)) 16 S Q := zW_step (I := .iconst 1) rfl S Q
theorem eX0_isCircle_16 {d : Nat} {S : zS} {Q : zR → Prop} : zW d MX0_isCircle 16 S Q = zGo d MX0_isCircle (.if_icmp .ne 22) (zt 38) 19 S Q := zW_step (I := .if_icmp .ne 22) rfl S Q
theorem eX0_isCircle_19 {d : Nat} {S : zS} {Q : zR → Prop} : zW d MX0_isCircle 19 S Q = zGo d MX0_isCircle (.iload 1) z0 20 S Q := zW_step (I := .iload_n 1) rfl S Q
theorem eX0_isCircle_20 {d : Nat} {S : zS} {Q : zR → Prop} : zW d MX0_isCircle 20 S Q = zGo d MX0_isCircle (.aload 0) z0 21 S Q := zW_step (I := .aload_n 0) rfl S Q
theorem eX0_isCircle_21 {d : Nat} {S : zS} {Q : zR → Prop} : zW d MX0_isCircle 21 S Q = zGo d MX0_isCircle (.getfield 61) (zf 3 9 1) 24 S Q := zW_step (I := .getfield 61) rfl S Q
theorem eX0_isCircle_24 {d : Nat} {S : zS} {Q : zR → Prop} : zW d MX0_isCircle 24 S Q = zGo d MX0_isCircle (.iload 2) z0 25 S Q := zW_step (I := .iload_n 2) rfl S Q
theorem eX0_isCircle_25 {d : Nat} {S : zS} {Q : zR → Prop} : zW d MX0_isCircle 25 S Q = zGo d MX0_isCircle (.iaload) z0 26 S Q := zW_step (I := .iaload) rfl S Q
theorem eX0_isCircle_26 {d : Nat} {S : zS} {Q : zR → Prop} : zW d MX0_isCircle 26 S Q = zGo d MX0_isCircle (.iconst 1) (zv (.int 1)) 27 S Q := zW_step (I := .iconst 1) rfl S Q
theorem eX0_isCircle_27 {d : Nat} {S : zS} {Q : zR → Prop} : zW d MX0_isCircle 27 S Q = zGo d MX0_isCircle (.iload 2) z0 28 S Q := zW_step (I := .iload_n 2) rfl S Q
theorem eX0_isCircle_28 {d : Nat} {S : zS} {Q : zR → Prop} : zW d MX0_isCircle 28 S Q = zGo d MX0_isCircle (.ishl) z0 29 S Q := zW_step (I := .ishl) rfl S Q
theorem eX0_isCircle_29 {d : Nat} {S : zS} {Q : zR → Prop} : zW d MX0_isCircle 29 S Q = zGo d MX0_isCircle (.ior) z0 30 S Q := zW_step (I := .ior) rfl S Q
theorem eX0_isCircle_30 {d : Nat} {S : zS} {Q : zR → Prop} : zW d MX0_isCircle 30 S Q = zGo d MX0_isCircle (.iconst (-1)) (zv (.int (-1))) 31 S Q := zW_step (I := .iconst (-1)) rfl S Q
theorem eX0_isCircle_31 {d : Nat} {S : zS} {Q : zR → Prop} : zW d MX0_isCircle 31 S Q = zGo d MX0_isCircle (.ixor) z0 32 S Q := zW_step (I := .ixor) rfl S Q
theorem eX0_isCircle_32 {d : Nat} {S : zS} {Q : zR → Prop} : zW d MX0_isCircle 32 S Q = zGo d MX0_isCircle (.iand) z0 33 S Q := zW_step (I := .iand) rfl S Q
theorem eX0_isCircle_33 {d : Nat} {S : zS} {Q : zR → Prop} : zW d MX0_isCircle 33 S Q = zGo d MX0_isCircle (.ifCond .eq 5) (zt 38) 36 S Q := zW_step (I := .ifCond .eq 5) rfl S Q
theorem eX0_isCircle_36 {d : Nat} {S : zS} {Q : zR → Prop} : zW d MX0_isCircle 36 S Q = zGo d MX0_isCircle (.iconst 0) (zv (.int 0)) 37 S Q := zW_step (I := .iconst 0) rfl S Q
theorem eX0_isCircle_37 {d : Nat} {S : zS} {Q : zR → Prop} : zW d MX0_isCircle 37 S Q = zGo d MX0_isCircle (.ireturn) z0 38 S Q := zW_step (I := .ireturn) rfl S Q
theorem eX0_isCircle_38 {d : Nat} {S : zS} {Q : zR → Prop} : zW d MX0_isCircle 38 S Q = zGo d MX0_isCircle (.iinc 2 1) (zv (.int 1)) 41 S Q := zW_step (I := .iinc 2 1) rfl S Q
theorem eX0_isCircle_41 {d : Nat} {S : zS} {Q : zR → Prop} : zW d MX0_isCircle 41 S Q = zGo d MX0_isCircle (.goto (-39)) (zt 2) 44 S Q := zW_step (I := .goto (-39)) rfl S Q
theorem eX0_isCircle_44 {d : Nat} {S : zS} {Q : zR → Prop} : zW d MX0_isCircle 44 S Q = zGo d MX0_isCircle (.iconst 1) (zv (.int 1)) 45 S Q := zW_step (I := .iconst 1) rfl S Q
theorem eX0_isCircle_45 {d : Nat} {S : zS} {Q : zR → Prop} : zW d MX0_isCircle 45 S Q = zGo d MX0_isCircle (.ireturn) z0 46 S Q := zW_step (I := .ireturn) rfl S Q
theorem rX0_isCircle : MX0_isCircle.2.2.2.2.1 = some .boolean := rfl
theorem eX0_isFree_0 {d : Nat} {S : zS} {Q : zR → Prop} : zW d MX0_isFree 0 S Q = zGo d MX0_isFree (.iconst 0) (zv (.int 0)) 1 S Q := zW_step (I := .iconst 0) rfl S Q
theorem eX0_isFree_1 {d : Nat} {S : zS} {Q : zR → Prop} : zW d MX0_isFree 1 S Q = zGo d MX0_isFree (.istore 4) z0 3 S Q := zW_step (I := .istore 4) rfl S Q
theorem eX0_isFree_3 {d : Nat} {S : zS} {Q : zR → Prop} : zW d MX0_isFree 3 S Q = zGo d MX0_isFree (.iload 4) z0 5 S Q := zW_step (I := .iload 4) rfl S Q
theorem eX0_isFree_5 {d : Nat} {S : zS} {Q : zR → Prop} : zW d MX0_isFree 5 S Q = zGo d MX0_isFree (.iload 2) z0 6 S Q := zW_step (I := .iload_n 2) rfl S Q
theorem eX0_isFree_6 {d : Nat} {S : zS} {Q : zR → Prop} : zW d MX0_isFree 6 S Q = zGo d MX0_isFree (.if_icmp .ge 34) (zt 40) 9 S Q := zW_step (I := .if_icmp .ge 34) rfl S Q
theorem eX0_isFree_9 {d : Nat} {S : zS} {Q : zR → Prop} : zW d MX0_isFree 9 S Q = zGo d MX0_isFree (.aload 1) z0 10 S Q := zW_step (I := .aload_n 1) rfl S Q
theorem eX0_isFree_10 {d : Nat} {S : zS} {Q : zR → Prop} : zW d MX0_isFree 10 S Q = zGo d MX0_isFree (.iload 4) z0 12 S Q := zW_step (I := .iload 4) rfl S Q
theorem eX0_isFree_12 {d : Nat} {S : zS} {Q : zR → Prop} : zW d MX0_isFree 12 S Q = zGo d MX0_isFree (.iaload) z0 13 S Q := zW_step (I := .iaload) rfl S Q
theorem eX0_isFree_13 {d : Nat} {S : zS} {Q : zR → Prop} : zW d MX0_isFree 13 S Q = zGo d MX0_isFree (.iload 3) z0 14 S Q := zW_step (I := .iload_n 3) rfl S Q
theorem eX0_isFree_14 {d : Nat} {S : zS} {Q : zR → Prop} : zW d MX0_isFree 14 S Q = zGo d MX0_isFree (.if_icmp .ne 20) (zt 34) 17 S Q := zW_step (I := .if_icmp .ne 20) rfl S Q
theorem eX0_isFree_17 {d : Nat} {S : zS} {Q : zR → Prop} : zW d MX0_isFree 17 S Q = zGo d MX0_isFree (.aload 0) z0 18 S Q := zW_step (I := .aload_n 0) rfl S Q
theorem eX0_isFree_18 {d : Nat} {S : zS} {Q : zR → Prop} : zW d MX0_isFree 18 S Q = zGo d MX0_isFree (.getfield 61) (zf 3 9 1) 21 S Q := zW_step (I := .getfield 61) rfl S Q
theorem eX0_isFree_21 {d : Nat} {S : zS} {Q : zR → Prop} : zW d MX0_isFree 21 S Q = zGo d MX0_isFree (.iload 2) z0 22 S Q := zW_step (I := .iload_n 2) rfl S Q
theorem eX0_isFree_22 {d : Nat} {S : zS} {Q : zR → Prop} : zW d MX0_isFree 22 S Q = zGo d MX0_isFree (.iaload) z0 23 S Q := zW_step (I := .iaload) rfl S Q
theorem eX0_isFree_23 {d : Nat} {S : zS} {Q : zR → Prop} : zW d MX0_isFree 23 S Q = zGo d MX0_isFree (.iload 4) z0 25 S Q := zW_step (I := .iload 4) rfl S Q
theorem eX0_isFree_25 {d : Nat} {S : zS} {Q : zR → Prop} : zW d MX0_isFree 25 S Q = zGo d MX0_isFree (.ishr) z0 26 S Q := zW_step (I := .ishr) rfl S Q
theorem eX0_isFree_26 {d : Nat} {S : zS} {Q : zR → Prop} : zW d MX0_isFree 26 S Q = zGo d MX0_isFree (.iconst 1) (zv (.int 1)) 27 S Q := zW_step (I := .iconst 1) rfl S Q
theorem eX0_isFree_27 {d : Nat} {S : zS} {Q : zR → Prop} : zW d MX0_isFree 27 S Q = zGo d MX0_isFree (.iand) z0 28 S Q := zW_step (I := .iand) rfl S Q
theorem eX0_isFree_28 {d : Nat} {S : zS} {Q : zR → Prop} : zW d MX0_isFree 28 S Q = zGo d MX0_isFree (.iconst 1) (zv (.int 1)) 29 S Q := zW_step (I := .iconst 1) rfl S Q
theorem eX0_isFree_29 {d : Nat} {S : zS} {Q : zR → Prop} : zW d MX0_isFree 29 S Q = zGo d MX0_isFree (.if_icmp .ne 5) (zt 34) 32 S Q := zW_step (I := .if_icmp .ne 5) rfl S Q
theorem eX0_isFree_32 {d : Nat} {S : zS} {Q : zR → Prop} : zW d MX0_isFree 32 S Q = zGo d MX0_isFree (.iconst 0) (zv (.int 0)) 33 S Q := zW_step (I := .iconst 0) rfl S Q
theorem eX0_isFree_33 {d : Nat} {S : zS} {Q : zR → Prop} : zW d MX0_isFree 33 S Q = zGo d MX0_isFree (.ireturn) z0 34 S Q := zW_step (I := .ireturn) rfl S Q
theorem eX0_isFree_34 {d : Nat} {S : zS} {Q : zR → Prop} : zW d MX0_isFree 34 S Q = zGo d MX0_isFree (.iinc 4 1) (zv (.int 1)) 37 S Q := zW_step (I := .iinc 4 1) rfl S Q
theorem eX0_isFree_37 {d : Nat} {S : zS} {Q : zR → Prop} : zW d MX0_isFree 37 S Q = zGo d MX0_isFree (.goto (-34)) (zt 3) 40 S Q := zW_step (I := .goto (-34)) rfl S Q
theorem eX0_isFree_40 {d : Nat} {S : zS} {Q : zR → Prop} : zW d MX0_isFree 40 S Q = zGo d MX0_isFree (.iconst 1) (zv (.int 1)) 41 S Q := zW_step (I := .iconst 1) rfl S Q
theorem eX0_isFree_41 {d : Nat} {S : zS} {Q : zR → Prop} : zW d MX0_isFree 41 S Q = zGo d MX0_isFree (.ireturn) z0 42 S Q := zW_step (I := .ireturn) rfl S Q
theorem rX0_isFree : MX0_isFree.2.2.2.2.1 = some .boolean := rfl
theorem eX0_turnIsLess_0 {d : Nat} {S : zS} {Q : zR → Prop} : zW d MX0_turnIsLess 0 S Q = zGo d MX0_turnIsLess (.iconst 0) (zv (.int 0)) 1 S Q := zW_step (I := .iconst 0) rfl S Q
theorem eX0_turnIsLess_1 {d : Nat} {S : zS} {Q : zR → Prop} : zW d MX0_turnIsLess 1 S Q = zGo d MX0_turnIsLess (.istore 2) z0 2 S Q := zW_step (I := .istore_n 2) rfl S Q
theorem eX0_turnIsLess_2 {d : Nat} {S : zS} {Q : zR → Prop} : zW d MX0_turnIsLess 2 S Q = zGo d MX0_turnIsLess (.iload 2) z0 3 S Q := zW_step (I := .iload_n 2) rfl S Q
theorem eX0_turnIsLess_3 {d : Nat} {S : zS} {Q : zR → Prop} : zW d MX0_turnIsLess 3 S Q = zGo d MX0_turnIsLess (.iload 1) z0 4 S Q := zW_step (I := .iload_n 1) rfl S Q
theorem eX0_turnIsLess_4 {d : Nat} {S : zS} {Q : zR → Prop} : zW d MX0_turnIsLess 4 S Q = zGo d MX0_turnIsLess (.if_icmp .ge 45) (zt 49) 7 S Q := zW_step (I := .if_icmp .ge 45) rfl S Q
theorem eX0_turnIsLess_7 {d : Nat} {S : zS} {Q : zR → Prop} : zW d MX0_turnIsLess 7 S Q = zGo d MX0_turnIsLess (.aload 0) z0 8 S Q := zW_step (I := .aload_n 0) rfl S Q
theorem eX0_turnIsLess_8 {d : Nat} {S : zS} {Q : zR → Prop} : zW d MX0_turnIsLess 8 S Q = zGo d MX0_turnIsLess (.getfield 9) (zf 3 0 0) 11 S Q := zW_step (I := .getfield 9) rfl S Q
theorem eX0_turnIsLess_11 {d : Nat} {S : zS} {Q : zR → Prop} : zW d MX0_turnIsLess 11 S Q = zGo d MX0_turnIsLess (.iload 2) z0 12 S Q := zW_step (I := .iload_n 2) rfl S Q
theorem eX0_turnIsLess_12 {d : Nat} {S : zS} {Q : zR → Prop} : zW d MX0_turnIsLess 12 S Q = zGo d MX0_turnIsLess (.iaload) z0 13 S Q := zW_step (I := .iaload) rfl S Q
theorem eX0_turnIsLess_13 {d : Nat} {S : zS} {Q : zR → Prop} : zW d MX0_turnIsLess 13 S Q = zGo d MX0_turnIsLess (.aload 0) z0 14 S Q := zW_step (I := .aload_n 0) rfl S Q
theorem eX0_turnIsLess_14 {d : Nat} {S : zS} {Q : zR → Prop} : zW d MX0_turnIsLess 14 S Q = zGo d MX0_turnIsLess (.getfield 15) (zf 3 0 1) 17 S Q := zW_step (I := .getfield 15) rfl S Q
theorem eX0_turnIsLess_17 {d : Nat} {S : zS} {Q : zR → Prop} : zW d MX0_turnIsLess 17 S Q = zGo d MX0_turnIsLess (.iload 2) z0 18 S Q := zW_step (I := .iload_n 2) rfl S Q
theorem eX0_turnIsLess_18 {d : Nat} {S : zS} {Q : zR → Prop} : zW d MX0_turnIsLess 18 S Q = zGo d MX0_turnIsLess (.iaload) z0 19 S Q := zW_step (I := .iaload) rfl S Q
theorem eX0_turnIsLess_19 {d : Nat} {S : zS} {Q : zR → Prop} : zW d MX0_turnIsLess 19 S Q = zGo d MX0_turnIsLess (.if_icmp .eq 24) (zt 43) 22 S Q := zW_step (I := .if_icmp .eq 24) rfl S Q
theorem eX0_turnIsLess_22 {d : Nat} {S : zS} {Q : zR → Prop} : zW d MX0_turnIsLess 22 S Q = zGo d MX0_turnIsLess (.aload 0) z0 23 S Q := zW_step (I := .aload_n 0) rfl S Q
theorem eX0_turnIsLess_23 {d : Nat} {S : zS} {Q : zR → Prop} : zW d MX0_turnIsLess 23 S Q = zGo d MX0_turnIsLess (.getfield 9) (zf 3 0 0) 26 S Q := zW_step (I := .getfield 9) rfl S Q
theorem eX0_turnIsLess_26 {d : Nat} {S : zS} {Q : zR → Prop} : zW d MX0_turnIsLess 26 S Q = zGo d MX0_turnIsLess (.iload 2) z0 27 S Q := zW_step (I := .iload_n 2) rfl S Q
theorem eX0_turnIsLess_27 {d : Nat} {S : zS} {Q : zR → Prop} : zW d MX0_turnIsLess 27 S Q = zGo d MX0_turnIsLess (.iaload) z0 28 S Q := zW_step (I := .iaload) rfl S Q
theorem eX0_turnIsLess_28 {d : Nat} {S : zS} {Q : zR → Prop} : zW d MX0_turnIsLess 28 S Q = zGo d MX0_turnIsLess (.aload 0) z0 29 S Q := zW_step (I := .aload_n 0) rfl S Q
theorem eX0_turnIsLess_29 {d : Nat} {S : zS} {Q : zR → Prop} : zW d MX0_turnIsLess 29 S Q = zGo d MX0_turnIsLess (.getfield 15) (zf 3 0 1) 32 S Q := zW_step (I := .getfield 15) rfl S Q
theorem eX0_turnIsLess_32 {d : Nat} {S : zS} {Q : zR → Prop} : zW d MX0_turnIsLess 32 S Q = zGo d MX0_turnIsLess (.iload 2) z0 33 S Q := zW_step (I := .iload_n 2) rfl S Q
theorem eX0_turnIsLess_33 {d : Nat} {S : zS} {Q : zR → Prop} : zW d MX0_turnIsLess 33 S Q = zGo d MX0_turnIsLess (.iaload) z0 34 S Q := zW_step (I := .iaload) rfl S Q
theorem eX0_turnIsLess_34 {d : Nat} {S : zS} {Q : zR → Prop} : zW d MX0_turnIsLess 34 S Q = zGo d MX0_turnIsLess (.if_icmp .ge 7) (zt 41) 37 S Q := zW_step (I := .if_icmp .ge 7) rfl S Q
theorem eX0_turnIsLess_37 {d : Nat} {S : zS} {Q : zR → Prop} : zW d MX0_turnIsLess 37 S Q = zGo d MX0_turnIsLess (.iconst 1) (zv (.int 1)) 38 S Q := zW_step (I := .iconst 1) rfl S Q
theorem eX0_turnIsLess_38 {d : Nat} {S : zS} {Q : zR → Prop} : zW d MX0_turnIsLess 38 S Q = zGo d MX0_turnIsLess (.goto 4) (zt 42) 41 S Q := zW_step (I := .goto 4) rfl S Q
theorem eX0_turnIsLess_41 {d : Nat} {S : zS} {Q : zR → Prop} : zW d MX0_turnIsLess 41 S Q = zGo d MX0_turnIsLess (.iconst 0) (zv (.int 0)) 42 S Q := zW_step (I := .iconst 0) rfl S Q
theorem eX0_turnIsLess_42 {d : Nat} {S : zS} {Q : zR → Prop} : zW d MX0_turnIsLess 42 S Q = zGo d MX0_turnIsLess (.ireturn) z0 43 S Q := zW_step (I := .ireturn) rfl S Q
theorem eX0_turnIsLess_43 {d : Nat} {S : zS} {Q : zR → Prop} : zW d MX0_turnIsLess 43 S Q = zGo d MX0_turnIsLess (.iinc 2 1) (zv (.int 1)) 46 S Q := zW_step (I := .iinc 2 1) rfl S Q
theorem eX0_turnIsLess_46 {d : Nat} {S : zS} {Q : zR → Prop} : zW d MX0_turnIsLess 46 S Q = zGo d MX0_turnIsLess (.goto (-44)) (zt 2) 49 S Q := zW_step (I := .goto (-44)) rfl S Q
theorem eX0_turnIsLess_49 {d : Nat} {S : zS} {Q : zR → Prop} : zW d MX0_turnIsLess 49 S Q = zGo d MX0_turnIsLess (.iconst 0) (zv (.int 0)) 50 S Q := zW_step (I := .iconst 0) rfl S Q
theorem eX0_turnIsLess_50 {d : Nat} {S : zS} {Q : zR → Prop} : zW d MX0_turnIsLess 50 S Q = zGo d MX0_turnIsLess (.ireturn) z0 51 S Q := zW_step (I := .ireturn) rfl S Q
theorem rX0_turnIsLess : MX0_turnIsLess.2.2.2.2.1 = some .boolean := rfl
theorem eX0_isRing_0 {d : Nat} {S : zS} {Q : zR → Prop} : zW d MX0_isRing 0 S Q = zGo d MX0_isRing (.iconst 0) (zv (.int 0)) 1 S Q := zW_step (I := .iconst 0) rfl S Q
theorem eX0_isRing_1 {d : Nat} {S : zS} {Q : zR → Prop} : zW d MX0_isRing 1 S Q = zGo d MX0_isRing (.istore 4) z0 3 S Q := zW_step (I := .istore 4) rfl S Q
theorem eX0_isRing_3 {d : Nat} {S : zS} {Q : zR → Prop} : zW d MX0_isRing 3 S Q = zGo d MX0_isRing (.iload 4) z0 5 S Q := zW_step (I := .iload 4) rfl S Q
theorem eX0_isRing_5 {d : Nat} {S : zS} {Q : zR → Prop} : zW d MX0_isRing 5 S Q = zGo d MX0_isRing (.aload 1) z0 6 S Q := zW_step (I := .aload_n 1) rfl S Q
theorem eX0_isRing_6 {d : Nat} {S : zS} {Q : zR → Prop} : zW d MX0_isRing 6 S Q = zGo d MX0_isRing (.getfield 18) (zf 0 9 3) 9 S Q := zW_step (I := .getfield 18) rfl S Q
theorem eX0_isRing_9 {d : Nat} {S : zS} {Q : zR → Prop} : zW d MX0_isRing 9 S Q = zGo d MX0_isRing (.if_icmp .ge 60) (zt 69) 12 S Q := zW_step (I := .if_icmp .ge 60) rfl S Q
theorem eX0_isRing_12 {d : Nat} {S : zS} {Q : zR → Prop} : zW d MX0_isRing 12 S Q = zGo d MX0_isRing (.iload 2) z0 13 S Q := zW_step (I := .iload_n 2) rfl S Q
theorem eX0_isRing_13 {d : Nat} {S : zS} {Q : zR → Prop} : zW d MX0_isRing 13 S Q = zGo d MX0_isRing (.iload 4) z0 15 S Q := zW_step (I := .iload 4) rfl S Q
theorem eX0_isRing_15 {d : Nat} {S : zS} {Q : zR → Prop} : zW d MX0_isRing 15 S Q = zGo d MX0_isRing (.ishr) z0 16 S Q := zW_step (I := .ishr) rfl S Q
theorem eX0_isRing_16 {d : Nat} {S : zS} {Q : zR → Prop} : zW d MX0_isRing 16 S Q = zGo d MX0_isRing (.iconst 1) (zv (.int 1)) 17 S Q := zW_step (I := .iconst 1) rfl S Q
theorem eX0_isRing_17 {d : Nat} {S : zS} {Q : zR → Prop} : zW d MX0_isRing 17 S Q = zGo d MX0_isRing (.iand) z0 18 S Q := zW_step (I := .iand) rfl S Q
theorem eX0_isRing_18 {d : Nat} {S : zS} {Q : zR → Prop} : zW d MX0_isRing 18 S Q = zGo d MX0_isRing (.iconst 1) (zv (.int 1)) 19 S Q := zW_step (I := .iconst 1) rfl S Q
theorem eX0_isRing_19 {d : Nat} {S : zS} {Q : zR → Prop} : zW d MX0_isRing 19 S Q = zGo d MX0_isRing (.if_icmp .ne 44) (zt 63) 22 S Q := zW_step (I := .if_icmp .ne 44) rfl S Q
theorem eX0_isRing_22 {d : Nat} {S : zS} {Q : zR → Prop} : zW d MX0_isRing 22 S Q = zGo d MX0_isRing (.aload 1) z0 23 S Q := zW_step (I := .aload_n 1) rfl S Q
theorem eX0_isRing_23 {d : Nat} {S : zS} {Q : zR → Prop} : zW d MX0_isRing 23 S Q = zGo d MX0_isRing (.getfield 61) (zf 3 9 1) 26 S Q := zW_step (I := .getfield 61) rfl S Q
theorem eX0_isRing_26 {d : Nat} {S : zS} {Q : zR → Prop} : zW d MX0_isRing 26 S Q = zGo d MX0_isRing (.iload 4) z0 28 S Q := zW_step (I := .iload 4) rfl S Q
theorem eX0_isRing_28 {d : Nat} {S : zS} {Q : zR → Prop} : zW d MX0_isRing 28 S Q = zGo d MX0_isRing (.iaload) z0 29 S Q := zW_step (I := .iaload) rfl S Q
theorem eX0_isRing_29 {d : Nat} {S : zS} {Q : zR → Prop} : zW d MX0_isRing 29 S Q = zGo d MX0_isRing (.iload 2) z0 30 S Q := zW_step (I := .iload_n 2) rfl S Q
theorem eX0_isRing_30 {d : Nat} {S : zS} {Q : zR → Prop} : zW d MX0_isRing 30 S Q = zGo d MX0_isRing (.iand) z0 31 S Q := zW_step (I := .iand) rfl S Q
theorem eX0_isRing_31 {d : Nat} {S : zS} {Q : zR → Prop} : zW d MX0_isRing 31 S Q = zGo d MX0_isRing (.invokestatic 28) (zc 292 1 0) 34 S Q := zW_step (I := .invokestatic 28) rfl S Q
theorem eX0_isRing_34 {d : Nat} {S : zS} {Q : zR → Prop} : zW d MX0_isRing 34 S Q = zGo d MX0_isRing (.iconst 2) (zv (.int 2)) 35 S Q := zW_step (I := .iconst 2) rfl S Q
theorem eX0_isRing_35 {d : Nat} {S : zS} {Q : zR → Prop} : zW d MX0_isRing 35 S Q = zGo d MX0_isRing (.if_icmp .ne 7) (zt 42) 38 S Q := zW_step (I := .if_icmp .ne 7) rfl S Q
theorem eX0_isRing_38 {d : Nat} {S : zS} {Q : zR → Prop} : zW d MX0_isRing 38 S Q = zGo d MX0_isRing (.iconst 1) (zv (.int 1)) 39 S Q := zW_step (I := .iconst 1) rfl S Q
theorem eX0_isRing_39 {d : Nat} {S : zS} {Q : zR → Prop} : zW d MX0_isRing 39 S Q = zGo d MX0_isRing (.goto 4) (zt 43) 42 S Q := zW_step (I := .goto 4) rfl S Q
theorem eX0_isRing_42 {d : Nat} {S : zS} {Q : zR → Prop} : zW d MX0_isRing 42 S Q = zGo d MX0_isRing (.iconst 0) (zv (.int 0)) 43 S Q := zW_step (I := .iconst 0) rfl S Q
theorem eX0_isRing_43 {d : Nat} {S : zS} {Q : zR → Prop} : zW d MX0_isRing 43 S Q = zGo d MX0_isRing (.istore 5) z0 45 S Q := zW_step (I := .istore 5) rfl S Q
theorem eX0_isRing_45 {d : Nat} {S : zS} {Q : zR → Prop} : zW d MX0_isRing 45 S Q = zGo d MX0_isRing (.iload 5) z0 47 S Q := zW_step (I := .iload 5) rfl S Q
theorem eX0_isRing_47 {d : Nat} {S : zS} {Q : zR → Prop} : zW d MX0_isRing 47 S Q = zGo d MX0_isRing (.ifCond .eq 14) (zt 61) 50 S Q := zW_step (I := .ifCond .eq 14) rfl S Q
theorem eX0_isRing_50 {d : Nat} {S : zS} {Q : zR → Prop} : zW d MX0_isRing 50 S Q = zGo d MX0_isRing (.aload 1) z0 51 S Q := zW_step (I := .aload_n 1) rfl S Q
theorem eX0_isRing_51 {d : Nat} {S : zS} {Q : zR → Prop} : zW d MX0_isRing 51 S Q = zGo d MX0_isRing (.iload 4) z0 53 S Q := zW_step (I := .iload 4) rfl S Q
theorem eX0_isRing_53 {d : Nat} {S : zS} {Q : zR → Prop} : zW d MX0_isRing 53 S Q = zGo d MX0_isRing (.invokevirtual 64) (zc 111 2 9) 56 S Q := zW_step (I := .invokevirtual 64) rfl S Q
theorem eX0_isRing_56 {d : Nat} {S : zS} {Q : zR → Prop} : zW d MX0_isRing 56 S Q = zGo d MX0_isRing (.iload 2) z0 57 S Q := zW_step (I := .iload_n 2) rfl S Q
theorem eX0_isRing_57 {d : Nat} {S : zS} {Q : zR → Prop} : zW d MX0_isRing 57 S Q = zGo d MX0_isRing (.iand) z0 58 S Q := zW_step (I := .iand) rfl S Q
theorem eX0_isRing_58 {d : Nat} {S : zS} {Q : zR → Prop} : zW d MX0_isRing 58 S Q = zGo d MX0_isRing (.ifCond .eq 5) (zt 63) 61 S Q := zW_step (I := .ifCond .eq 5) rfl S Q
theorem eX0_isRing_61 {d : Nat} {S : zS} {Q : zR → Prop} : zW d MX0_isRing 61 S Q = zGo d MX0_isRing (.iconst 0) (zv (.int 0)) 62 S Q := zW_step (I := .iconst 0) rfl S Q
theorem eX0_isRing_62 {d : Nat} {S : zS} {Q : zR → Prop} : zW d MX0_isRing 62 S Q = zGo d MX0_isRing (.ireturn) z0 63 S Q := zW_step (I := .ireturn) rfl S Q
theorem eX0_isRing_63 {d : Nat} {S : zS} {Q : zR → Prop} : zW d MX0_isRing 63 S Q = zGo d MX0_isRing (.iinc 4 1) (zv (.int 1)) 66 S Q := zW_step (I := .iinc 4 1) rfl S Q
theorem eX0_isRing_66 {d : Nat} {S : zS} {Q : zR → Prop} : zW d MX0_isRing 66 S Q = zGo d MX0_isRing (.goto (-63)) (zt 3) 69 S Q := zW_step (I := .goto (-63)) rfl S Q
theorem eX0_isRing_69 {d : Nat} {S : zS} {Q : zR → Prop} : zW d MX0_isRing 69 S Q = zGo d MX0_isRing (.aload 0) z0 70 S Q := zW_step (I := .aload_n 0) rfl S Q
theorem eX0_isRing_70 {d : Nat} {S : zS} {Q : zR → Prop} : zW d MX0_isRing 70 S Q = zGo d MX0_isRing (.aload 1) z0 71 S Q := zW_step (I := .aload_n 1) rfl S Q
theorem eX0_isRing_71 {d : Nat} {S : zS} {Q : zR → Prop} : zW d MX0_isRing 71 S Q = zGo d MX0_isRing (.iload 2) z0 72 S Q := zW_step (I := .iload_n 2) rfl S Q
theorem eX0_isRing_72 {d : Nat} {S : zS} {Q : zR → Prop} : zW d MX0_isRing 72 S Q = zGo d MX0_isRing (.iload 3) z0 73 S Q := zW_step (I := .iload_n 3) rfl S Q
theorem eX0_isRing_73 {d : Nat} {S : zS} {Q : zR → Prop} : zW d MX0_isRing 73 S Q = zGo d MX0_isRing (.invokevirtual 67) (zc 5 4 0) 76 S Q := zW_step (I := .invokevirtual 67) rfl S Q
theorem eX0_isRing_76 {d : Nat} {S : zS} {Q : zR → Prop} : zW d MX0_isRing 76 S Q = zGo d MX0_isRing (.ireturn) z0 77 S Q := zW_step (I := .ireturn) rfl S Q
theorem rX0_isRing : MX0_isRing.2.2.2.2.1 = some .boolean := rfl
theorem eX0_walkRound_0 {d : Nat} {S : zS} {Q : zR → Prop} : zW d MX0_walkRound 0 S Q = zGo d MX0_walkRound (.iload 2) z0 1 S Q := zW_step (I := .iload_n 2) rfl S Q
theorem eX0_walkRound_1 {d : Nat} {S : zS} {Q : zR → Prop} : zW d MX0_walkRound 1 S Q = zGo d MX0_walkRound (.istore 4) z0 3 S Q := zW_step (I := .istore 4) rfl S Q
theorem eX0_walkRound_3 {d : Nat} {S : zS} {Q : zR → Prop} : zW d MX0_walkRound 3 S Q = zGo d MX0_walkRound (.iload 2) z0 4 S Q := zW_step (I := .iload_n 2) rfl S Q
theorem eX0_walkRound_4 {d : Nat} {S : zS} {Q : zR → Prop} : zW d MX0_walkRound 4 S Q = zGo d MX0_walkRound (.istore 5) z0 6 S Q := zW_step (I := .istore 5) rfl S Q
theorem eX0_walkRound_6 {d : Nat} {S : zS} {Q : zR → Prop} : zW d MX0_walkRound 6 S Q = zGo d MX0_walkRound (.iconst 0) (zv (.int 0)) 7 S Q := zW_step (I := .iconst 0) rfl S Q
theorem eX0_walkRound_7 {d : Nat} {S : zS} {Q : zR → Prop} : zW d MX0_walkRound 7 S Q = zGo d MX0_walkRound (.istore 6) z0 9 S Q := zW_step (I := .istore 6) rfl S Q
theorem eX0_walkRound_9 {d : Nat} {S : zS} {Q : zR → Prop} : zW d MX0_walkRound 9 S Q = zGo d MX0_walkRound (.iload 6) z0 11 S Q := zW_step (I := .iload 6) rfl S Q
theorem eX0_walkRound_11 {d : Nat} {S : zS} {Q : zR → Prop} : zW d MX0_walkRound 11 S Q = zGo d MX0_walkRound (.iload 3) z0 12 S Q := zW_step (I := .iload_n 3) rfl S Q
theorem eX0_walkRound_12 {d : Nat} {S : zS} {Q : zR → Prop} : zW d MX0_walkRound 12 S Q = zGo d MX0_walkRound (.if_icmp .ge 59) (zt 71) 15 S Q := zW_step (I := .if_icmp .ge 59) rfl S Q
theorem eX0_walkRound_15 {d : Nat} {S : zS} {Q : zR → Prop} : zW d MX0_walkRound 15 S Q = zGo d MX0_walkRound (.iload 5) z0 17 S Q := zW_step (I := .iload 5) rfl S Q
theorem eX0_walkRound_17 {d : Nat} {S : zS} {Q : zR → Prop} : zW d MX0_walkRound 17 S Q = zGo d MX0_walkRound (.iload 4) z0 19 S Q := zW_step (I := .iload 4) rfl S Q
theorem eX0_walkRound_19 {d : Nat} {S : zS} {Q : zR → Prop} : zW d MX0_walkRound 19 S Q = zGo d MX0_walkRound (.iand) z0 20 S Q := zW_step (I := .iand) rfl S Q
theorem eX0_walkRound_20 {d : Nat} {S : zS} {Q : zR → Prop} : zW d MX0_walkRound 20 S Q = zGo d MX0_walkRound (.invokestatic 70) (zc 177 1 0) 23 S Q := zW_step (I := .invokestatic 70) rfl S Q
theorem eX0_walkRound_23 {d : Nat} {S : zS} {Q : zR → Prop} : zW d MX0_walkRound 23 S Q = zGo d MX0_walkRound (.istore 7) z0 25 S Q := zW_step (I := .istore 7) rfl S Q
theorem eX0_walkRound_25 {d : Nat} {S : zS} {Q : zR → Prop} : zW d MX0_walkRound 25 S Q = zGo d MX0_walkRound (.iload 7) z0 27 S Q := zW_step (I := .iload 7) rfl S Q
theorem eX0_walkRound_27 {d : Nat} {S : zS} {Q : zR → Prop} : zW d MX0_walkRound 27 S Q = zGo d MX0_walkRound (.aload 1) z0 28 S Q := zW_step (I := .aload_n 1) rfl S Q
theorem eX0_walkRound_28 {d : Nat} {S : zS} {Q : zR → Prop} : zW d MX0_walkRound 28 S Q = zGo d MX0_walkRound (.getfield 18) (zf 0 9 3) 31 S Q := zW_step (I := .getfield 18) rfl S Q
theorem eX0_walkRound_31 {d : Nat} {S : zS} {Q : zR → Prop} : zW d MX0_walkRound 31 S Q = zGo d MX0_walkRound (.if_icmp .lt 5) (zt 36) 34 S Q := zW_step (I := .if_icmp .lt 5) rfl S Q
theorem eX0_walkRound_34 {d : Nat} {S : zS} {Q : zR → Prop} : zW d MX0_walkRound 34 S Q = zGo d MX0_walkRound (.iconst 0) (zv (.int 0)) 35 S Q := zW_step (I := .iconst 0) rfl S Q
theorem eX0_walkRound_35 {d : Nat} {S : zS} {Q : zR → Prop} : zW d MX0_walkRound 35 S Q = zGo d MX0_walkRound (.ireturn) z0 36 S Q := zW_step (I := .ireturn) rfl S Q
theorem eX0_walkRound_36 {d : Nat} {S : zS} {Q : zR → Prop} : zW d MX0_walkRound 36 S Q = zGo d MX0_walkRound (.aload 0) z0 37 S Q := zW_step (I := .aload_n 0) rfl S Q
theorem eX0_walkRound_37 {d : Nat} {S : zS} {Q : zR → Prop} : zW d MX0_walkRound 37 S Q = zGo d MX0_walkRound (.getfield 9) (zf 3 0 0) 40 S Q := zW_step (I := .getfield 9) rfl S Q
theorem eX0_walkRound_40 {d : Nat} {S : zS} {Q : zR → Prop} : zW d MX0_walkRound 40 S Q = zGo d MX0_walkRound (.iload 6) z0 42 S Q := zW_step (I := .iload 6) rfl S Q
theorem eX0_walkRound_42 {d : Nat} {S : zS} {Q : zR → Prop} : zW d MX0_walkRound 42 S Q = zGo d MX0_walkRound (.iload 7) z0 44 S Q := zW_step (I := .iload 7) rfl S Q
theorem eX0_walkRound_44 {d : Nat} {S : zS} {Q : zR → Prop} : zW d MX0_walkRound 44 S Q = zGo d MX0_walkRound (.iastore) z0 45 S Q := zW_step (I := .iastore) rfl S Q
theorem eX0_walkRound_45 {d : Nat} {S : zS} {Q : zR → Prop} : zW d MX0_walkRound 45 S Q = zGo d MX0_walkRound (.iload 4) z0 47 S Q := zW_step (I := .iload 4) rfl S Q
theorem eX0_walkRound_47 {d : Nat} {S : zS} {Q : zR → Prop} : zW d MX0_walkRound 47 S Q = zGo d MX0_walkRound (.iconst 1) (zv (.int 1)) 48 S Q := zW_step (I := .iconst 1) rfl S Q
theorem eX0_walkRound_48 {d : Nat} {S : zS} {Q : zR → Prop} : zW d MX0_walkRound 48 S Q = zGo d MX0_walkRound (.iload 7) z0 50 S Q := zW_step (I := .iload 7) rfl S Q
theorem eX0_walkRound_50 {d : Nat} {S : zS} {Q : zR → Prop} : zW d MX0_walkRound 50 S Q = zGo d MX0_walkRound (.ishl) z0 51 S Q := zW_step (I := .ishl) rfl S Q
theorem eX0_walkRound_51 {d : Nat} {S : zS} {Q : zR → Prop} : zW d MX0_walkRound 51 S Q = zGo d MX0_walkRound (.iconst (-1)) (zv (.int (-1))) 52 S Q := zW_step (I := .iconst (-1)) rfl S Q
theorem eX0_walkRound_52 {d : Nat} {S : zS} {Q : zR → Prop} : zW d MX0_walkRound 52 S Q = zGo d MX0_walkRound (.ixor) z0 53 S Q := zW_step (I := .ixor) rfl S Q
theorem eX0_walkRound_53 {d : Nat} {S : zS} {Q : zR → Prop} : zW d MX0_walkRound 53 S Q = zGo d MX0_walkRound (.iand) z0 54 S Q := zW_step (I := .iand) rfl S Q
theorem eX0_walkRound_54 {d : Nat} {S : zS} {Q : zR → Prop} : zW d MX0_walkRound 54 S Q = zGo d MX0_walkRound (.istore 4) z0 56 S Q := zW_step (I := .istore 4) rfl S Q
theorem eX0_walkRound_56 {d : Nat} {S : zS} {Q : zR → Prop} : zW d MX0_walkRound 56 S Q = zGo d MX0_walkRound (.aload 1) z0 57 S Q := zW_step (I := .aload_n 1) rfl S Q
theorem eX0_walkRound_57 {d : Nat} {S : zS} {Q : zR → Prop} : zW d MX0_walkRound 57 S Q = zGo d MX0_walkRound (.getfield 61) (zf 3 9 1) 60 S Q := zW_step (I := .getfield 61) rfl S Q
theorem eX0_walkRound_60 {d : Nat} {S : zS} {Q : zR → Prop} : zW d MX0_walkRound 60 S Q = zGo d MX0_walkRound (.iload 7) z0 62 S Q := zW_step (I := .iload 7) rfl S Q
theorem eX0_walkRound_62 {d : Nat} {S : zS} {Q : zR → Prop} : zW d MX0_walkRound 62 S Q = zGo d MX0_walkRound (.iaload) z0 63 S Q := zW_step (I := .iaload) rfl S Q
theorem eX0_walkRound_63 {d : Nat} {S : zS} {Q : zR → Prop} : zW d MX0_walkRound 63 S Q = zGo d MX0_walkRound (.istore 5) z0 65 S Q := zW_step (I := .istore 5) rfl S Q
theorem eX0_walkRound_65 {d : Nat} {S : zS} {Q : zR → Prop} : zW d MX0_walkRound 65 S Q = zGo d MX0_walkRound (.iinc 6 1) (zv (.int 1)) 68 S Q := zW_step (I := .iinc 6 1) rfl S Q
theorem eX0_walkRound_68 {d : Nat} {S : zS} {Q : zR → Prop} : zW d MX0_walkRound 68 S Q = zGo d MX0_walkRound (.goto (-59)) (zt 9) 71 S Q := zW_step (I := .goto (-59)) rfl S Q
theorem eX0_walkRound_71 {d : Nat} {S : zS} {Q : zR → Prop} : zW d MX0_walkRound 71 S Q = zGo d MX0_walkRound (.iconst 1) (zv (.int 1)) 72 S Q := zW_step (I := .iconst 1) rfl S Q
theorem eX0_walkRound_72 {d : Nat} {S : zS} {Q : zR → Prop} : zW d MX0_walkRound 72 S Q = zGo d MX0_walkRound (.ireturn) z0 73 S Q := zW_step (I := .ireturn) rfl S Q
theorem rX0_walkRound : MX0_walkRound.2.2.2.2.1 = some .boolean := rfl
theorem eX0_reachBack_0 {d : Nat} {S : zS} {Q : zR → Prop} : zW d MX0_reachBack 0 S Q = zGo d MX0_reachBack (.iconst 1) (zv (.int 1)) 1 S Q := zW_step (I := .iconst 1) rfl S Q
theorem eX0_reachBack_1 {d : Nat} {S : zS} {Q : zR → Prop} : zW d MX0_reachBack 1 S Q = zGo d MX0_reachBack (.iload 3) z0 2 S Q := zW_step (I := .iload_n 3) rfl S Q
theorem eX0_reachBack_2 {d : Nat} {S : zS} {Q : zR → Prop} : zW d MX0_reachBack 2 S Q = zGo d MX0_reachBack (.ishl) z0 3 S Q := zW_step (I := .ishl) rfl S Q
theorem eX0_reachBack_3 {d : Nat} {S : zS} {Q : zR → Prop} : zW d MX0_reachBack 3 S Q = zGo d MX0_reachBack (.istore 4) z0 5 S Q := zW_step (I := .istore 4) rfl S Q
theorem eX0_reachBack_5 {d : Nat} {S : zS} {Q : zR → Prop} : zW d MX0_reachBack 5 S Q = zGo d MX0_reachBack (.iconst 0) (zv (.int 0)) 6 S Q := zW_step (I := .iconst 0) rfl S Q
theorem eX0_reachBack_6 {d : Nat} {S : zS} {Q : zR → Prop} : zW d MX0_reachBack 6 S Q = zGo d MX0_reachBack (.istore 5) z0 8 S Q := zW_step (I := .istore 5) rfl S Q
theorem eX0_reachBack_8 {d : Nat} {S : zS} {Q : zR → Prop} : zW d MX0_reachBack 8 S Q = zGo d MX0_reachBack (.iload 5) z0 10 S Q := zW_step (I := .iload 5) rfl S Q
theorem eX0_reachBack_10 {d : Nat} {S : zS} {Q : zR → Prop} : zW d MX0_reachBack 10 S Q = zGo d MX0_reachBack (.aload 1) z0 11 S Q := zW_step (I := .aload_n 1) rfl S Q
theorem eX0_reachBack_11 {d : Nat} {S : zS} {Q : zR → Prop} : zW d MX0_reachBack 11 S Q = zGo d MX0_reachBack (.getfield 18) (zf 0 9 3) 14 S Q := zW_step (I := .getfield 18) rfl S Q
theorem eX0_reachBack_14 {d : Nat} {S : zS} {Q : zR → Prop} : zW d MX0_reachBack 14 S Q = zGo d MX0_reachBack (.if_icmp .ge 44) (zt 58) 17 S Q := zW_step (I := .if_icmp .ge 44) rfl S Q
theorem eX0_reachBack_17 {d : Nat} {S : zS} {Q : zR → Prop} : zW d MX0_reachBack 17 S Q = zGo d MX0_reachBack (.aload 0) z0 18 S Q := zW_step (I := .aload_n 0) rfl S Q
theorem eX0_reachBack_18 {d : Nat} {S : zS} {Q : zR → Prop} : zW d MX0_reachBack 18 S Q = zGo d MX0_reachBack (.getfield 15) (zf 3 0 1) 21 S Q := zW_step (I := .getfield 15) rfl S Q
theorem eX0_reachBack_21 {d : Nat} {S : zS} {Q : zR → Prop} : zW d MX0_reachBack 21 S Q = zGo d MX0_reachBack (.iload 5) z0 23 S Q := zW_step (I := .iload 5) rfl S Q
theorem eX0_reachBack_23 {d : Nat} {S : zS} {Q : zR → Prop} : zW d MX0_reachBack 23 S Q = zGo d MX0_reachBack (.iload 4) z0 25 S Q := zW_step (I := .iload 4) rfl S Q
theorem eX0_reachBack_25 {d : Nat} {S : zS} {Q : zR → Prop} : zW d MX0_reachBack 25 S Q = zGo d MX0_reachBack (.iastore) z0 26 S Q := zW_step (I := .iastore) rfl S Q
theorem eX0_reachBack_26 {d : Nat} {S : zS} {Q : zR → Prop} : zW d MX0_reachBack 26 S Q = zGo d MX0_reachBack (.iload 4) z0 28 S Q := zW_step (I := .iload 4) rfl S Q
theorem eX0_reachBack_28 {d : Nat} {S : zS} {Q : zR → Prop} : zW d MX0_reachBack 28 S Q = zGo d MX0_reachBack (.iload 2) z0 29 S Q := zW_step (I := .iload_n 2) rfl S Q
theorem eX0_reachBack_29 {d : Nat} {S : zS} {Q : zR → Prop} : zW d MX0_reachBack 29 S Q = zGo d MX0_reachBack (.ishr) z0 30 S Q := zW_step (I := .ishr) rfl S Q
theorem eX0_reachBack_30 {d : Nat} {S : zS} {Q : zR → Prop} : zW d MX0_reachBack 30 S Q = zGo d MX0_reachBack (.iconst 1) (zv (.int 1)) 31 S Q := zW_step (I := .iconst 1) rfl S Q
theorem eX0_reachBack_31 {d : Nat} {S : zS} {Q : zR → Prop} : zW d MX0_reachBack 31 S Q = zGo d MX0_reachBack (.iand) z0 32 S Q := zW_step (I := .iand) rfl S Q
theorem eX0_reachBack_32 {d : Nat} {S : zS} {Q : zR → Prop} : zW d MX0_reachBack 32 S Q = zGo d MX0_reachBack (.iconst 1) (zv (.int 1)) 33 S Q := zW_step (I := .iconst 1) rfl S Q
theorem eX0_reachBack_33 {d : Nat} {S : zS} {Q : zR → Prop} : zW d MX0_reachBack 33 S Q = zGo d MX0_reachBack (.if_icmp .ne 8) (zt 41) 36 S Q := zW_step (I := .if_icmp .ne 8) rfl S Q
theorem eX0_reachBack_36 {d : Nat} {S : zS} {Q : zR → Prop} : zW d MX0_reachBack 36 S Q = zGo d MX0_reachBack (.iload 5) z0 38 S Q := zW_step (I := .iload 5) rfl S Q
theorem eX0_reachBack_38 {d : Nat} {S : zS} {Q : zR → Prop} : zW d MX0_reachBack 38 S Q = zGo d MX0_reachBack (.iconst 1) (zv (.int 1)) 39 S Q := zW_step (I := .iconst 1) rfl S Q
theorem eX0_reachBack_39 {d : Nat} {S : zS} {Q : zR → Prop} : zW d MX0_reachBack 39 S Q = zGo d MX0_reachBack (.iadd) z0 40 S Q := zW_step (I := .iadd) rfl S Q
theorem eX0_reachBack_40 {d : Nat} {S : zS} {Q : zR → Prop} : zW d MX0_reachBack 40 S Q = zGo d MX0_reachBack (.ireturn) z0 41 S Q := zW_step (I := .ireturn) rfl S Q
theorem eX0_reachBack_41 {d : Nat} {S : zS} {Q : zR → Prop} : zW d MX0_reachBack 41 S Q = zGo d MX0_reachBack (.iload 4) z0 43 S Q := zW_step (I := .iload 4) rfl S Q
theorem eX0_reachBack_43 {d : Nat} {S : zS} {Q : zR → Prop} : zW d MX0_reachBack 43 S Q = zGo d MX0_reachBack (.aload 1) z0 44 S Q := zW_step (I := .aload_n 1) rfl S Q
theorem eX0_reachBack_44 {d : Nat} {S : zS} {Q : zR → Prop} : zW d MX0_reachBack 44 S Q = zGo d MX0_reachBack (.iload 4) z0 46 S Q := zW_step (I := .iload 4) rfl S Q
theorem eX0_reachBack_46 {d : Nat} {S : zS} {Q : zR → Prop} : zW d MX0_reachBack 46 S Q = zGo d MX0_reachBack (.invokestatic 84) (zc 9 2 0) 49 S Q := zW_step (I := .invokestatic 84) rfl S Q
theorem eX0_reachBack_49 {d : Nat} {S : zS} {Q : zR → Prop} : zW d MX0_reachBack 49 S Q = zGo d MX0_reachBack (.ior) z0 50 S Q := zW_step (I := .ior) rfl S Q
theorem eX0_reachBack_50 {d : Nat} {S : zS} {Q : zR → Prop} : zW d MX0_reachBack 50 S Q = zGo d MX0_reachBack (.istore 4) z0 52 S Q := zW_step (I := .istore 4) rfl S Q
theorem eX0_reachBack_52 {d : Nat} {S : zS} {Q : zR → Prop} : zW d MX0_reachBack 52 S Q = zGo d MX0_reachBack (.iinc 5 1) (zv (.int 1)) 55 S Q := zW_step (I := .iinc 5 1) rfl S Q
theorem eX0_reachBack_55 {d : Nat} {S : zS} {Q : zR → Prop} : zW d MX0_reachBack 55 S Q = zGo d MX0_reachBack (.goto (-47)) (zt 8) 58 S Q := zW_step (I := .goto (-47)) rfl S Q
theorem eX0_reachBack_58 {d : Nat} {S : zS} {Q : zR → Prop} : zW d MX0_reachBack 58 S Q = zGo d MX0_reachBack (.iconst 0) (zv (.int 0)) 59 S Q := zW_step (I := .iconst 0) rfl S Q
theorem eX0_reachBack_59 {d : Nat} {S : zS} {Q : zR → Prop} : zW d MX0_reachBack 59 S Q = zGo d MX0_reachBack (.ireturn) z0 60 S Q := zW_step (I := .ireturn) rfl S Q
theorem rX0_reachBack : MX0_reachBack.2.2.2.2.1 = some .int := rfl
theorem eX0_farThrees_0 {d : Nat} {S : zS} {Q : zR → Prop} : zW d MX0_farThrees 0 S Q = zGo d MX0_farThrees (.aload 2) z0 1 S Q := zW_step (I := .aload_n 2) rfl S Q
theorem eX0_farThrees_1 {d : Nat} {S : zS} {Q : zR → Prop} : zW d MX0_farThrees 1 S Q = zGo d MX0_farThrees (.invokevirtual 52) (zc 78 1 6) 4 S Q := zW_step (I := .invokevirtual 52) rfl S Q
theorem eX0_farThrees_4 {d : Nat} {S : zS} {Q : zR → Prop} : zW d MX0_farThrees 4 S Q = zGo d MX0_farThrees (.iconst 0) (zv (.int 0)) 5 S Q := zW_step (I := .iconst 0) rfl S Q
theorem eX0_farThrees_5 {d : Nat} {S : zS} {Q : zR → Prop} : zW d MX0_farThrees 5 S Q = zGo d MX0_farThrees (.istore 3) z0 6 S Q := zW_step (I := .istore_n 3) rfl S Q
theorem eX0_farThrees_6 {d : Nat} {S : zS} {Q : zR → Prop} : zW d MX0_farThrees 6 S Q = zGo d MX0_farThrees (.iconst 0) (zv (.int 0)) 7 S Q := zW_step (I := .iconst 0) rfl S Q
theorem eX0_farThrees_7 {d : Nat} {S : zS} {Q : zR → Prop} : zW d MX0_farThrees 7 S Q = zGo d MX0_farThrees (.istore 4) z0 9 S Q := zW_step (I := .istore 4) rfl S Q
theorem eX0_farThrees_9 {d : Nat} {S : zS} {Q : zR → Prop} : zW d MX0_farThrees 9 S Q = zGo d MX0_farThrees (.iload 4) z0 11 S Q := zW_step (I := .iload 4) rfl S Q
theorem eX0_farThrees_11 {d : Nat} {S : zS} {Q : zR → Prop} : zW d MX0_farThrees 11 S Q = zGo d MX0_farThrees (.aload 1) z0 12 S Q := zW_step (I := .aload_n 1) rfl S Q
theorem eX0_farThrees_12 {d : Nat} {S : zS} {Q : zR → Prop} : zW d MX0_farThrees 12 S Q = zGo d MX0_farThrees (.getfield 18) (zf 0 9 3) 15 S Q := zW_step (I := .getfield 18) rfl S Q
theorem eX0_farThrees_15 {d : Nat} {S : zS} {Q : zR → Prop} : zW d MX0_farThrees 15 S Q = zGo d MX0_farThrees (.if_icmp .ge 92) (zt 107) 18 S Q := zW_step (I := .if_icmp .ge 92) rfl S Q
theorem eX0_farThrees_18 {d : Nat} {S : zS} {Q : zR → Prop} : zW d MX0_farThrees 18 S Q = zGo d MX0_farThrees (.iload 4) z0 20 S Q := zW_step (I := .iload 4) rfl S Q
theorem eX0_farThrees_20 {d : Nat} {S : zS} {Q : zR → Prop} : zW d MX0_farThrees 20 S Q = zGo d MX0_farThrees (.iconst 1) (zv (.int 1)) 21 S Q := zW_step (I := .iconst 1) rfl S Q
theorem eX0_farThrees_21 {d : Nat} {S : zS} {Q : zR → Prop} : zW d MX0_farThrees 21 S Q = zGo d MX0_farThrees (.iadd) z0 22 S Q := zW_step (I := .iadd) rfl S Q
theorem eX0_farThrees_22 {d : Nat} {S : zS} {Q : zR → Prop} : zW d MX0_farThrees 22 S Q = zGo d MX0_farThrees (.istore 5) z0 24 S Q := zW_step (I := .istore 5) rfl S Q
theorem eX0_farThrees_24 {d : Nat} {S : zS} {Q : zR → Prop} : zW d MX0_farThrees 24 S Q = zGo d MX0_farThrees (.iload 5) z0 26 S Q := zW_step (I := .iload 5) rfl S Q
theorem eX0_farThrees_26 {d : Nat} {S : zS} {Q : zR → Prop} : zW d MX0_farThrees 26 S Q = zGo d MX0_farThrees (.aload 1) z0 27 S Q := zW_step (I := .aload_n 1) rfl S Q
theorem eX0_farThrees_27 {d : Nat} {S : zS} {Q : zR → Prop} : zW d MX0_farThrees 27 S Q = zGo d MX0_farThrees (.getfield 18) (zf 0 9 3) 30 S Q := zW_step (I := .getfield 18) rfl S Q
theorem eX0_farThrees_30 {d : Nat} {S : zS} {Q : zR → Prop} : zW d MX0_farThrees 30 S Q = zGo d MX0_farThrees (.if_icmp .ge 71) (zt 101) 33 S Q := zW_step (I := .if_icmp .ge 71) rfl S Q
theorem eX0_farThrees_33 {d : Nat} {S : zS} {Q : zR → Prop} : zW d MX0_farThrees 33 S Q = zGo d MX0_farThrees (.iload 5) z0 35 S Q := zW_step (I := .iload 5) rfl S Q
theorem eX0_farThrees_35 {d : Nat} {S : zS} {Q : zR → Prop} : zW d MX0_farThrees 35 S Q = zGo d MX0_farThrees (.iconst 1) (zv (.int 1)) 36 S Q := zW_step (I := .iconst 1) rfl S Q
theorem eX0_farThrees_36 {d : Nat} {S : zS} {Q : zR → Prop} : zW d MX0_farThrees 36 S Q = zGo d MX0_farThrees (.iadd) z0 37 S Q := zW_step (I := .iadd) rfl S Q
theorem eX0_farThrees_37 {d : Nat} {S : zS} {Q : zR → Prop} : zW d MX0_farThrees 37 S Q = zGo d MX0_farThrees (.istore 6) z0 39 S Q := zW_step (I := .istore 6) rfl S Q
theorem eX0_farThrees_39 {d : Nat} {S : zS} {Q : zR → Prop} : zW d MX0_farThrees 39 S Q = zGo d MX0_farThrees (.iload 6) z0 41 S Q := zW_step (I := .iload 6) rfl S Q
theorem eX0_farThrees_41 {d : Nat} {S : zS} {Q : zR → Prop} : zW d MX0_farThrees 41 S Q = zGo d MX0_farThrees (.aload 1) z0 42 S Q := zW_step (I := .aload_n 1) rfl S Q
theorem eX0_farThrees_42 {d : Nat} {S : zS} {Q : zR → Prop} : zW d MX0_farThrees 42 S Q = zGo d MX0_farThrees (.getfield 18) (zf 0 9 3) 45 S Q := zW_step (I := .getfield 18) rfl S Q
theorem eX0_farThrees_45 {d : Nat} {S : zS} {Q : zR → Prop} : zW d MX0_farThrees 45 S Q = zGo d MX0_farThrees (.if_icmp .ge 50) (zt 95) 48 S Q := zW_step (I := .if_icmp .ge 50) rfl S Q
theorem eX0_farThrees_48 {d : Nat} {S : zS} {Q : zR → Prop} : zW d MX0_farThrees 48 S Q = zGo d MX0_farThrees (.aload 1) z0 49 S Q := zW_step (I := .aload_n 1) rfl S Q
theorem eX0_farThrees_49 {d : Nat} {S : zS} {Q : zR → Prop} : zW d MX0_farThrees 49 S Q = zGo d MX0_farThrees (.iload 4) z0 51 S Q := zW_step (I := .iload 4) rfl S Q
theorem eX0_farThrees_51 {d : Nat} {S : zS} {Q : zR → Prop} : zW d MX0_farThrees 51 S Q = zGo d MX0_farThrees (.iload 5) z0 53 S Q := zW_step (I := .iload 5) rfl S Q
theorem eX0_farThrees_53 {d : Nat} {S : zS} {Q : zR → Prop} : zW d MX0_farThrees 53 S Q = zGo d MX0_farThrees (.iload 6) z0 55 S Q := zW_step (I := .iload 6) rfl S Q
theorem eX0_farThrees_55 {d : Nat} {S : zS} {Q : zR → Prop} : zW d MX0_farThrees 55 S Q = zGo d MX0_farThrees (.invokestatic 73) (zc 7 4 0) 58 S Q := zW_step (I := .invokestatic 73) rfl S Q
theorem eX0_farThrees_58 {d : Nat} {S : zS} {Q : zR → Prop} : zW d MX0_farThrees 58 S Q = zGo d MX0_farThrees (.ifCond .eq 31) (zt 89) 61 S Q := zW_step (I := .ifCond .eq 31) rfl S Q
theorem eX0_farThrees_61 {d : Nat} {S : zS} {Q : zR → Prop} : zW d MX0_farThrees 61 S Q = zGo d MX0_farThrees (.iload 3) z0 62 S Q := zW_step (I := .iload_n 3) rfl S Q
theorem eX0_farThrees_62 {d : Nat} {S : zS} {Q : zR → Prop} : zW d MX0_farThrees 62 S Q = zGo d MX0_farThrees (.ifCond .ne 24) (zt 86) 65 S Q := zW_step (I := .ifCond .ne 24) rfl S Q
theorem eX0_farThrees_65 {d : Nat} {S : zS} {Q : zR → Prop} : zW d MX0_farThrees 65 S Q = zGo d MX0_farThrees (.aload 2) z0 66 S Q := zW_step (I := .aload_n 2) rfl S Q
theorem eX0_farThrees_66 {d : Nat} {S : zS} {Q : zR → Prop} : zW d MX0_farThrees 66 S Q = zGo d MX0_farThrees (.iload 4) z0 68 S Q := zW_step (I := .iload 4) rfl S Q
theorem eX0_farThrees_68 {d : Nat} {S : zS} {Q : zR → Prop} : zW d MX0_farThrees 68 S Q = zGo d MX0_farThrees (.i2l) z0 69 S Q := zW_step (I := .i2l) rfl S Q
theorem eX0_farThrees_69 {d : Nat} {S : zS} {Q : zR → Prop} : zW d MX0_farThrees 69 S Q = zGo d MX0_farThrees (.invokevirtual 57) (zc 79 2 6) 72 S Q := zW_step (I := .invokevirtual 57) rfl S Q
theorem eX0_farThrees_72 {d : Nat} {S : zS} {Q : zR → Prop} : zW d MX0_farThrees 72 S Q = zGo d MX0_farThrees (.aload 2) z0 73 S Q := zW_step (I := .aload_n 2) rfl S Q
theorem eX0_farThrees_73 {d : Nat} {S : zS} {Q : zR → Prop} : zW d MX0_farThrees 73 S Q = zGo d MX0_farThrees (.iload 5) z0 75 S Q := zW_step (I := .iload 5) rfl S Q
theorem eX0_farThrees_75 {d : Nat} {S : zS} {Q : zR → Prop} : zW d MX0_farThrees 75 S Q = zGo d MX0_farThrees (.i2l) z0 76 S Q := zW_step (I := .i2l) rfl S Q
theorem eX0_farThrees_76 {d : Nat} {S : zS} {Q : zR → Prop} : zW d MX0_farThrees 76 S Q = zGo d MX0_farThrees (.invokevirtual 57) (zc 79 2 6) 79 S Q := zW_step (I := .invokevirtual 57) rfl S Q
theorem eX0_farThrees_79 {d : Nat} {S : zS} {Q : zR → Prop} : zW d MX0_farThrees 79 S Q = zGo d MX0_farThrees (.aload 2) z0 80 S Q := zW_step (I := .aload_n 2) rfl S Q
theorem eX0_farThrees_80 {d : Nat} {S : zS} {Q : zR → Prop} : zW d MX0_farThrees 80 S Q = zGo d MX0_farThrees (.iload 6) z0 82 S Q := zW_step (I := .iload 6) rfl S Q
theorem eX0_farThrees_82 {d : Nat} {S : zS} {Q : zR → Prop} : zW d MX0_farThrees 82 S Q = zGo d MX0_farThrees (.i2l) z0 83 S Q := zW_step (I := .i2l) rfl S Q
theorem eX0_farThrees_83 {d : Nat} {S : zS} {Q : zR → Prop} : zW d MX0_farThrees 83 S Q = zGo d MX0_farThrees (.invokevirtual 57) (zc 79 2 6) 86 S Q := zW_step (I := .invokevirtual 57) rfl S Q
theorem eX0_farThrees_86 {d : Nat} {S : zS} {Q : zR → Prop} : zW d MX0_farThrees 86 S Q = zGo d MX0_farThrees (.iinc 3 1) (zv (.int 1)) 89 S Q := zW_step (I := .iinc 3 1) rfl S Q
theorem eX0_farThrees_89 {d : Nat} {S : zS} {Q : zR → Prop} : zW d MX0_farThrees 89 S Q = zGo d MX0_farThrees (.iinc 6 1) (zv (.int 1)) 92 S Q := zW_step (I := .iinc 6 1) rfl S Q
theorem eX0_farThrees_92 {d : Nat} {S : zS} {Q : zR → Prop} : zW d MX0_farThrees 92 S Q = zGo d MX0_farThrees (.goto (-53)) (zt 39) 95 S Q := zW_step (I := .goto (-53)) rfl S Q
theorem eX0_farThrees_95 {d : Nat} {S : zS} {Q : zR → Prop} : zW d MX0_farThrees 95 S Q = zGo d MX0_farThrees (.iinc 5 1) (zv (.int 1)) 98 S Q := zW_step (I := .iinc 5 1) rfl S Q
theorem eX0_farThrees_98 {d : Nat} {S : zS} {Q : zR → Prop} : zW d MX0_farThrees 98 S Q = zGo d MX0_farThrees (.goto (-74)) (zt 24) 101 S Q := zW_step (I := .goto (-74)) rfl S Q
theorem eX0_farThrees_101 {d : Nat} {S : zS} {Q : zR → Prop} : zW d MX0_farThrees 101 S Q = zGo d MX0_farThrees (.iinc 4 1) (zv (.int 1)) 104 S Q := zW_step (I := .iinc 4 1) rfl S Q
theorem eX0_farThrees_104 {d : Nat} {S : zS} {Q : zR → Prop} : zW d MX0_farThrees 104 S Q = zGo d MX0_farThrees (.goto (-95)) (zt 9) 107 S Q := zW_step (I := .goto (-95)) rfl S Q
theorem eX0_farThrees_107 {d : Nat} {S : zS} {Q : zR → Prop} : zW d MX0_farThrees 107 S Q = zGo d MX0_farThrees (.iload 3) z0 108 S Q := zW_step (I := .iload_n 3) rfl S Q
theorem eX0_farThrees_108 {d : Nat} {S : zS} {Q : zR → Prop} : zW d MX0_farThrees 108 S Q = zGo d MX0_farThrees (.ireturn) z0 109 S Q := zW_step (I := .ireturn) rfl S Q
theorem rX0_farThrees : MX0_farThrees.2.2.2.2.1 = some .int := rfl
theorem eX0_greatestCircle_0 {d : Nat} {S : zS} {Q : zR → Prop} : zW d MX0_greatestCircle 0 S Q = zGo d MX0_greatestCircle (.iconst 0) (zv (.int 0)) 1 S Q := zW_step (I := .iconst 0) rfl S Q
theorem eX0_greatestCircle_1 {d : Nat} {S : zS} {Q : zR → Prop} : zW d MX0_greatestCircle 1 S Q = zGo d MX0_greatestCircle (.istore 3) z0 2 S Q := zW_step (I := .istore_n 3) rfl S Q
theorem eX0_greatestCircle_2 {d : Nat} {S : zS} {Q : zR → Prop} : zW d MX0_greatestCircle 2 S Q = zGo d MX0_greatestCircle (.iconst 0) (zv (.int 0)) 3 S Q := zW_step (I := .iconst 0) rfl S Q
theorem eX0_greatestCircle_3 {d : Nat} {S : zS} {Q : zR → Prop} : zW d MX0_greatestCircle 3 S Q = zGo d MX0_greatestCircle (.istore 4) z0 5 S Q := zW_step (I := .istore 4) rfl S Q
theorem eX0_greatestCircle_5 {d : Nat} {S : zS} {Q : zR → Prop} : zW d MX0_greatestCircle 5 S Q = zGo d MX0_greatestCircle (.iconst 0) (zv (.int 0)) 6 S Q := zW_step (I := .iconst 0) rfl S Q
theorem eX0_greatestCircle_6 {d : Nat} {S : zS} {Q : zR → Prop} : zW d MX0_greatestCircle 6 S Q = zGo d MX0_greatestCircle (.istore 5) z0 8 S Q := zW_step (I := .istore 5) rfl S Q
theorem eX0_greatestCircle_8 {d : Nat} {S : zS} {Q : zR → Prop} : zW d MX0_greatestCircle 8 S Q = zGo d MX0_greatestCircle (.iload 5) z0 10 S Q := zW_step (I := .iload 5) rfl S Q
theorem eX0_greatestCircle_10 {d : Nat} {S : zS} {Q : zR → Prop} : zW d MX0_greatestCircle 10 S Q = zGo d MX0_greatestCircle (.aload 1) z0 11 S Q := zW_step (I := .aload_n 1) rfl S Q
theorem eX0_greatestCircle_11 {d : Nat} {S : zS} {Q : zR → Prop} : zW d MX0_greatestCircle 11 S Q = zGo d MX0_greatestCircle (.invokevirtual 24) (zc 109 1 9) 14 S Q := zW_step (I := .invokevirtual 24) rfl S Q
theorem eX0_greatestCircle_14 {d : Nat} {S : zS} {Q : zR → Prop} : zW d MX0_greatestCircle 14 S Q = zGo d MX0_greatestCircle (.if_icmp .gt 63) (zt 77) 17 S Q := zW_step (I := .if_icmp .gt 63) rfl S Q
theorem eX0_greatestCircle_17 {d : Nat} {S : zS} {Q : zR → Prop} : zW d MX0_greatestCircle 17 S Q = zGo d MX0_greatestCircle (.iload 5) z0 19 S Q := zW_step (I := .iload 5) rfl S Q
theorem eX0_greatestCircle_19 {d : Nat} {S : zS} {Q : zR → Prop} : zW d MX0_greatestCircle 19 S Q = zGo d MX0_greatestCircle (.invokestatic 28) (zc 292 1 0) 22 S Q := zW_step (I := .invokestatic 28) rfl S Q
theorem eX0_greatestCircle_22 {d : Nat} {S : zS} {Q : zR → Prop} : zW d MX0_greatestCircle 22 S Q = zGo d MX0_greatestCircle (.iload 4) z0 24 S Q := zW_step (I := .iload 4) rfl S Q
theorem eX0_greatestCircle_24 {d : Nat} {S : zS} {Q : zR → Prop} : zW d MX0_greatestCircle 24 S Q = zGo d MX0_greatestCircle (.invokestatic 28) (zc 292 1 0) 27 S Q := zW_step (I := .invokestatic 28) rfl S Q
theorem eX0_greatestCircle_27 {d : Nat} {S : zS} {Q : zR → Prop} : zW d MX0_greatestCircle 27 S Q = zGo d MX0_greatestCircle (.isub) z0 28 S Q := zW_step (I := .isub) rfl S Q
theorem eX0_greatestCircle_28 {d : Nat} {S : zS} {Q : zR → Prop} : zW d MX0_greatestCircle 28 S Q = zGo d MX0_greatestCircle (.istore 6) z0 30 S Q := zW_step (I := .istore 6) rfl S Q
theorem eX0_greatestCircle_30 {d : Nat} {S : zS} {Q : zR → Prop} : zW d MX0_greatestCircle 30 S Q = zGo d MX0_greatestCircle (.iload 6) z0 32 S Q := zW_step (I := .iload 6) rfl S Q
theorem eX0_greatestCircle_32 {d : Nat} {S : zS} {Q : zR → Prop} : zW d MX0_greatestCircle 32 S Q = zGo d MX0_greatestCircle (.ifCond .lt 39) (zt 71) 35 S Q := zW_step (I := .ifCond .lt 39) rfl S Q
theorem eX0_greatestCircle_35 {d : Nat} {S : zS} {Q : zR → Prop} : zW d MX0_greatestCircle 35 S Q = zGo d MX0_greatestCircle (.aload 1) z0 36 S Q := zW_step (I := .aload_n 1) rfl S Q
theorem eX0_greatestCircle_36 {d : Nat} {S : zS} {Q : zR → Prop} : zW d MX0_greatestCircle 36 S Q = zGo d MX0_greatestCircle (.iload 5) z0 38 S Q := zW_step (I := .iload 5) rfl S Q
theorem eX0_greatestCircle_38 {d : Nat} {S : zS} {Q : zR → Prop} : zW d MX0_greatestCircle 38 S Q = zGo d MX0_greatestCircle (.invokestatic 101) (zc 14 2 0) 41 S Q := zW_step (I := .invokestatic 101) rfl S Q
theorem eX0_greatestCircle_41 {d : Nat} {S : zS} {Q : zR → Prop} : zW d MX0_greatestCircle 41 S Q = zGo d MX0_greatestCircle (.ifCond .eq 30) (zt 71) 44 S Q := zW_step (I := .ifCond .eq 30) rfl S Q
theorem eX0_greatestCircle_44 {d : Nat} {S : zS} {Q : zR → Prop} : zW d MX0_greatestCircle 44 S Q = zGo d MX0_greatestCircle (.iload 6) z0 46 S Q := zW_step (I := .iload 6) rfl S Q
theorem eX0_greatestCircle_46 {d : Nat} {S : zS} {Q : zR → Prop} : zW d MX0_greatestCircle 46 S Q = zGo d MX0_greatestCircle (.ifCond .le 8) (zt 54) 49 S Q := zW_step (I := .ifCond .le 8) rfl S Q
theorem eX0_greatestCircle_49 {d : Nat} {S : zS} {Q : zR → Prop} : zW d MX0_greatestCircle 49 S Q = zGo d MX0_greatestCircle (.iload 5) z0 51 S Q := zW_step (I := .iload 5) rfl S Q
theorem eX0_greatestCircle_51 {d : Nat} {S : zS} {Q : zR → Prop} : zW d MX0_greatestCircle 51 S Q = zGo d MX0_greatestCircle (.goto 5) (zt 56) 54 S Q := zW_step (I := .goto 5) rfl S Q
theorem eX0_greatestCircle_54 {d : Nat} {S : zS} {Q : zR → Prop} : zW d MX0_greatestCircle 54 S Q = zGo d MX0_greatestCircle (.iload 4) z0 56 S Q := zW_step (I := .iload 4) rfl S Q
theorem eX0_greatestCircle_56 {d : Nat} {S : zS} {Q : zR → Prop} : zW d MX0_greatestCircle 56 S Q = zGo d MX0_greatestCircle (.istore 4) z0 58 S Q := zW_step (I := .istore 4) rfl S Q
theorem eX0_greatestCircle_58 {d : Nat} {S : zS} {Q : zR → Prop} : zW d MX0_greatestCircle 58 S Q = zGo d MX0_greatestCircle (.iload 6) z0 60 S Q := zW_step (I := .iload 6) rfl S Q
theorem eX0_greatestCircle_60 {d : Nat} {S : zS} {Q : zR → Prop} : zW d MX0_greatestCircle 60 S Q = zGo d MX0_greatestCircle (.ifCond .le 7) (zt 67) 63 S Q := zW_step (I := .ifCond .le 7) rfl S Q
theorem eX0_greatestCircle_63 {d : Nat} {S : zS} {Q : zR → Prop} : zW d MX0_greatestCircle 63 S Q = zGo d MX0_greatestCircle (.iconst 1) (zv (.int 1)) 64 S Q := zW_step (I := .iconst 1) rfl S Q
theorem eX0_greatestCircle_64 {d : Nat} {S : zS} {Q : zR → Prop} : zW d MX0_greatestCircle 64 S Q = zGo d MX0_greatestCircle (.goto 6) (zt 70) 67 S Q := zW_step (I := .goto 6) rfl S Q
theorem eX0_greatestCircle_67 {d : Nat} {S : zS} {Q : zR → Prop} : zW d MX0_greatestCircle 67 S Q = zGo d MX0_greatestCircle (.iload 3) z0 68 S Q := zW_step (I := .iload_n 3) rfl S Q
theorem eX0_greatestCircle_68 {d : Nat} {S : zS} {Q : zR → Prop} : zW d MX0_greatestCircle 68 S Q = zGo d MX0_greatestCircle (.iconst 1) (zv (.int 1)) 69 S Q := zW_step (I := .iconst 1) rfl S Q
theorem eX0_greatestCircle_69 {d : Nat} {S : zS} {Q : zR → Prop} : zW d MX0_greatestCircle 69 S Q = zGo d MX0_greatestCircle (.iadd) z0 70 S Q := zW_step (I := .iadd) rfl S Q
theorem eX0_greatestCircle_70 {d : Nat} {S : zS} {Q : zR → Prop} : zW d MX0_greatestCircle 70 S Q = zGo d MX0_greatestCircle (.istore 3) z0 71 S Q := zW_step (I := .istore_n 3) rfl S Q
theorem eX0_greatestCircle_71 {d : Nat} {S : zS} {Q : zR → Prop} : zW d MX0_greatestCircle 71 S Q = zGo d MX0_greatestCircle (.iinc 5 1) (zv (.int 1)) 74 S Q := zW_step (I := .iinc 5 1) rfl S Q
theorem eX0_greatestCircle_74 {d : Nat} {S : zS} {Q : zR → Prop} : zW d MX0_greatestCircle 74 S Q = zGo d MX0_greatestCircle (.goto (-66)) (zt 8) 77 S Q := zW_step (I := .goto (-66)) rfl S Q
theorem eX0_greatestCircle_77 {d : Nat} {S : zS} {Q : zR → Prop} : zW d MX0_greatestCircle 77 S Q = zGo d MX0_greatestCircle (.aload 2) z0 78 S Q := zW_step (I := .aload_n 2) rfl S Q
theorem eX0_greatestCircle_78 {d : Nat} {S : zS} {Q : zR → Prop} : zW d MX0_greatestCircle 78 S Q = zGo d MX0_greatestCircle (.invokevirtual 52) (zc 78 1 6) 81 S Q := zW_step (I := .invokevirtual 52) rfl S Q
theorem eX0_greatestCircle_81 {d : Nat} {S : zS} {Q : zR → Prop} : zW d MX0_greatestCircle 81 S Q = zGo d MX0_greatestCircle (.aload 2) z0 82 S Q := zW_step (I := .aload_n 2) rfl S Q
theorem eX0_greatestCircle_82 {d : Nat} {S : zS} {Q : zR → Prop} : zW d MX0_greatestCircle 82 S Q = zGo d MX0_greatestCircle (.iload 4) z0 84 S Q := zW_step (I := .iload 4) rfl S Q
theorem eX0_greatestCircle_84 {d : Nat} {S : zS} {Q : zR → Prop} : zW d MX0_greatestCircle 84 S Q = zGo d MX0_greatestCircle (.i2l) z0 85 S Q := zW_step (I := .i2l) rfl S Q
theorem eX0_greatestCircle_85 {d : Nat} {S : zS} {Q : zR → Prop} : zW d MX0_greatestCircle 85 S Q = zGo d MX0_greatestCircle (.invokevirtual 57) (zc 79 2 6) 88 S Q := zW_step (I := .invokevirtual 57) rfl S Q
theorem eX0_greatestCircle_88 {d : Nat} {S : zS} {Q : zR → Prop} : zW d MX0_greatestCircle 88 S Q = zGo d MX0_greatestCircle (.aload 2) z0 89 S Q := zW_step (I := .aload_n 2) rfl S Q
theorem eX0_greatestCircle_89 {d : Nat} {S : zS} {Q : zR → Prop} : zW d MX0_greatestCircle 89 S Q = zGo d MX0_greatestCircle (.iload 3) z0 90 S Q := zW_step (I := .iload_n 3) rfl S Q
theorem eX0_greatestCircle_90 {d : Nat} {S : zS} {Q : zR → Prop} : zW d MX0_greatestCircle 90 S Q = zGo d MX0_greatestCircle (.i2l) z0 91 S Q := zW_step (I := .i2l) rfl S Q
theorem eX0_greatestCircle_91 {d : Nat} {S : zS} {Q : zR → Prop} : zW d MX0_greatestCircle 91 S Q = zGo d MX0_greatestCircle (.invokevirtual 57) (zc 79 2 6) 94 S Q := zW_step (I := .invokevirtual 57) rfl S Q
theorem eX0_greatestCircle_94 {d : Nat} {S : zS} {Q : zR → Prop} : zW d MX0_greatestCircle 94 S Q = zGo d MX0_greatestCircle (.iload 4) z0 96 S Q := zW_step (I := .iload 4) rfl S Q
theorem eX0_greatestCircle_96 {d : Nat} {S : zS} {Q : zR → Prop} : zW d MX0_greatestCircle 96 S Q = zGo d MX0_greatestCircle (.invokestatic 28) (zc 292 1 0) 99 S Q := zW_step (I := .invokestatic 28) rfl S Q
theorem eX0_greatestCircle_99 {d : Nat} {S : zS} {Q : zR → Prop} : zW d MX0_greatestCircle 99 S Q = zGo d MX0_greatestCircle (.ireturn) z0 100 S Q := zW_step (I := .ireturn) rfl S Q
theorem rX0_greatestCircle : MX0_greatestCircle.2.2.2.2.1 = some .int := rfl
theorem eX0_shortestWay_0 {d : Nat} {S : zS} {Q : zR → Prop} : zW d MX0_shortestWay 0 S Q = zGo d MX0_shortestWay (.aload 0) z0 1 S Q := zW_step (I := .aload_n 0) rfl S Q
theorem eX0_shortestWay_1 {d : Nat} {S : zS} {Q : zR → Prop} : zW d MX0_shortestWay 1 S Q = zGo d MX0_shortestWay (.aload 1) z0 2 S Q := zW_step (I := .aload_n 1) rfl S Q
theorem eX0_shortestWay_2 {d : Nat} {S : zS} {Q : zR → Prop} : zW d MX0_shortestWay 2 S Q = zGo d MX0_shortestWay (.iload 2) z0 3 S Q := zW_step (I := .iload_n 2) rfl S Q
theorem eX0_shortestWay_3 {d : Nat} {S : zS} {Q : zR → Prop} : zW d MX0_shortestWay 3 S Q = zGo d MX0_shortestWay (.iload 3) z0 4 S Q := zW_step (I := .iload_n 3) rfl S Q
theorem eX0_shortestWay_4 {d : Nat} {S : zS} {Q : zR → Prop} : zW d MX0_shortestWay 4 S Q = zGo d MX0_shortestWay (.invokevirtual 105) (zc 16 4 0) 7 S Q := zW_step (I := .invokevirtual 105) rfl S Q
theorem eX0_shortestWay_7 {d : Nat} {S : zS} {Q : zR → Prop} : zW d MX0_shortestWay 7 S Q = zGo d MX0_shortestWay (.istore 5) z0 9 S Q := zW_step (I := .istore 5) rfl S Q
theorem eX0_shortestWay_9 {d : Nat} {S : zS} {Q : zR → Prop} : zW d MX0_shortestWay 9 S Q = zGo d MX0_shortestWay (.iload 5) z0 11 S Q := zW_step (I := .iload 5) rfl S Q
theorem eX0_shortestWay_11 {d : Nat} {S : zS} {Q : zR → Prop} : zW d MX0_shortestWay 11 S Q = zGo d MX0_shortestWay (.ifCond .ne 6) (zt 17) 14 S Q := zW_step (I := .ifCond .ne 6) rfl S Q
theorem eX0_shortestWay_14 {d : Nat} {S : zS} {Q : zR → Prop} : zW d MX0_shortestWay 14 S Q = zGo d MX0_shortestWay (.bipush (-2)) (zv (.int (-2))) 16 S Q := zW_step (I := .bipush (-2)) rfl S Q
theorem eX0_shortestWay_16 {d : Nat} {S : zS} {Q : zR → Prop} : zW d MX0_shortestWay 16 S Q = zGo d MX0_shortestWay (.ireturn) z0 17 S Q := zW_step (I := .ireturn) rfl S Q
theorem eX0_shortestWay_17 {d : Nat} {S : zS} {Q : zR → Prop} : zW d MX0_shortestWay 17 S Q = zGo d MX0_shortestWay (.aload 4) z0 19 S Q := zW_step (I := .aload 4) rfl S Q
theorem eX0_shortestWay_19 {d : Nat} {S : zS} {Q : zR → Prop} : zW d MX0_shortestWay 19 S Q = zGo d MX0_shortestWay (.invokevirtual 52) (zc 78 1 6) 22 S Q := zW_step (I := .invokevirtual 52) rfl S Q
theorem eX0_shortestWay_22 {d : Nat} {S : zS} {Q : zR → Prop} : zW d MX0_shortestWay 22 S Q = zGo d MX0_shortestWay (.aload 4) z0 24 S Q := zW_step (I := .aload 4) rfl S Q
theorem eX0_shortestWay_24 {d : Nat} {S : zS} {Q : zR → Prop} : zW d MX0_shortestWay 24 S Q = zGo d MX0_shortestWay (.iload 2) z0 25 S Q := zW_step (I := .iload_n 2) rfl S Q
theorem eX0_shortestWay_25 {d : Nat} {S : zS} {Q : zR → Prop} : zW d MX0_shortestWay 25 S Q = zGo d MX0_shortestWay (.i2l) z0 26 S Q := zW_step (I := .i2l) rfl S Q
theorem eX0_shortestWay_26 {d : Nat} {S : zS} {Q : zR → Prop} : zW d MX0_shortestWay 26 S Q = zGo d MX0_shortestWay (.invokevirtual 57) (zc 79 2 6) 29 S Q := zW_step (I := .invokevirtual 57) rfl S Q
theorem eX0_shortestWay_29 {d : Nat} {S : zS} {Q : zR → Prop} : zW d MX0_shortestWay 29 S Q = zGo d MX0_shortestWay (.iload 2) z0 30 S Q := zW_step (I := .iload_n 2) rfl S Q
theorem eX0_shortestWay_30 {d : Nat} {S : zS} {Q : zR → Prop} : zW d MX0_shortestWay 30 S Q = zGo d MX0_shortestWay (.istore 6) z0 32 S Q := zW_step (I := .istore 6) rfl S Q
theorem eX0_shortestWay_32 {d : Nat} {S : zS} {Q : zR → Prop} : zW d MX0_shortestWay 32 S Q = zGo d MX0_shortestWay (.iload 5) z0 34 S Q := zW_step (I := .iload 5) rfl S Q
theorem eX0_shortestWay_34 {d : Nat} {S : zS} {Q : zR → Prop} : zW d MX0_shortestWay 34 S Q = zGo d MX0_shortestWay (.iconst 2) (zv (.int 2)) 35 S Q := zW_step (I := .iconst 2) rfl S Q
theorem eX0_shortestWay_35 {d : Nat} {S : zS} {Q : zR → Prop} : zW d MX0_shortestWay 35 S Q = zGo d MX0_shortestWay (.isub) z0 36 S Q := zW_step (I := .isub) rfl S Q
theorem eX0_shortestWay_36 {d : Nat} {S : zS} {Q : zR → Prop} : zW d MX0_shortestWay 36 S Q = zGo d MX0_shortestWay (.istore 7) z0 38 S Q := zW_step (I := .istore 7) rfl S Q
theorem eX0_shortestWay_38 {d : Nat} {S : zS} {Q : zR → Prop} : zW d MX0_shortestWay 38 S Q = zGo d MX0_shortestWay (.iload 7) z0 40 S Q := zW_step (I := .iload 7) rfl S Q
theorem eX0_shortestWay_40 {d : Nat} {S : zS} {Q : zR → Prop} : zW d MX0_shortestWay 40 S Q = zGo d MX0_shortestWay (.ifCond .lt 46) (zt 86) 43 S Q := zW_step (I := .ifCond .lt 46) rfl S Q
theorem eX0_shortestWay_43 {d : Nat} {S : zS} {Q : zR → Prop} : zW d MX0_shortestWay 43 S Q = zGo d MX0_shortestWay (.iload 6) z0 45 S Q := zW_step (I := .iload 6) rfl S Q
theorem eX0_shortestWay_45 {d : Nat} {S : zS} {Q : zR → Prop} : zW d MX0_shortestWay 45 S Q = zGo d MX0_shortestWay (.aload 1) z0 46 S Q := zW_step (I := .aload_n 1) rfl S Q
theorem eX0_shortestWay_46 {d : Nat} {S : zS} {Q : zR → Prop} : zW d MX0_shortestWay 46 S Q = zGo d MX0_shortestWay (.getfield 18) (zf 0 9 3) 49 S Q := zW_step (I := .getfield 18) rfl S Q
theorem eX0_shortestWay_49 {d : Nat} {S : zS} {Q : zR → Prop} : zW d MX0_shortestWay 49 S Q = zGo d MX0_shortestWay (.if_icmp .ge 37) (zt 86) 52 S Q := zW_step (I := .if_icmp .ge 37) rfl S Q
theorem eX0_shortestWay_52 {d : Nat} {S : zS} {Q : zR → Prop} : zW d MX0_shortestWay 52 S Q = zGo d MX0_shortestWay (.aload 1) z0 53 S Q := zW_step (I := .aload_n 1) rfl S Q
theorem eX0_shortestWay_53 {d : Nat} {S : zS} {Q : zR → Prop} : zW d MX0_shortestWay 53 S Q = zGo d MX0_shortestWay (.getfield 61) (zf 3 9 1) 56 S Q := zW_step (I := .getfield 61) rfl S Q
theorem eX0_shortestWay_56 {d : Nat} {S : zS} {Q : zR → Prop} : zW d MX0_shortestWay 56 S Q = zGo d MX0_shortestWay (.iload 6) z0 58 S Q := zW_step (I := .iload 6) rfl S Q
theorem eX0_shortestWay_58 {d : Nat} {S : zS} {Q : zR → Prop} : zW d MX0_shortestWay 58 S Q = zGo d MX0_shortestWay (.iaload) z0 59 S Q := zW_step (I := .iaload) rfl S Q
theorem eX0_shortestWay_59 {d : Nat} {S : zS} {Q : zR → Prop} : zW d MX0_shortestWay 59 S Q = zGo d MX0_shortestWay (.aload 0) z0 60 S Q := zW_step (I := .aload_n 0) rfl S Q
theorem eX0_shortestWay_60 {d : Nat} {S : zS} {Q : zR → Prop} : zW d MX0_shortestWay 60 S Q = zGo d MX0_shortestWay (.getfield 15) (zf 3 0 1) 63 S Q := zW_step (I := .getfield 15) rfl S Q
theorem eX0_shortestWay_63 {d : Nat} {S : zS} {Q : zR → Prop} : zW d MX0_shortestWay 63 S Q = zGo d MX0_shortestWay (.iload 7) z0 65 S Q := zW_step (I := .iload 7) rfl S Q
theorem eX0_shortestWay_65 {d : Nat} {S : zS} {Q : zR → Prop} : zW d MX0_shortestWay 65 S Q = zGo d MX0_shortestWay (.iaload) z0 66 S Q := zW_step (I := .iaload) rfl S Q
theorem eX0_shortestWay_66 {d : Nat} {S : zS} {Q : zR → Prop} : zW d MX0_shortestWay 66 S Q = zGo d MX0_shortestWay (.iand) z0 67 S Q := zW_step (I := .iand) rfl S Q
theorem eX0_shortestWay_67 {d : Nat} {S : zS} {Q : zR → Prop} : zW d MX0_shortestWay 67 S Q = zGo d MX0_shortestWay (.invokestatic 70) (zc 177 1 0) 70 S Q := zW_step (I := .invokestatic 70) rfl S Q
theorem eX0_shortestWay_70 {d : Nat} {S : zS} {Q : zR → Prop} : zW d MX0_shortestWay 70 S Q = zGo d MX0_shortestWay (.istore 6) z0 72 S Q := zW_step (I := .istore 6) rfl S Q
theorem eX0_shortestWay_72 {d : Nat} {S : zS} {Q : zR → Prop} : zW d MX0_shortestWay 72 S Q = zGo d MX0_shortestWay (.aload 4) z0 74 S Q := zW_step (I := .aload 4) rfl S Q
theorem eX0_shortestWay_74 {d : Nat} {S : zS} {Q : zR → Prop} : zW d MX0_shortestWay 74 S Q = zGo d MX0_shortestWay (.iload 6) z0 76 S Q := zW_step (I := .iload 6) rfl S Q
theorem eX0_shortestWay_76 {d : Nat} {S : zS} {Q : zR → Prop} : zW d MX0_shortestWay 76 S Q = zGo d MX0_shortestWay (.i2l) z0 77 S Q := zW_step (I := .i2l) rfl S Q
theorem eX0_shortestWay_77 {d : Nat} {S : zS} {Q : zR → Prop} : zW d MX0_shortestWay 77 S Q = zGo d MX0_shortestWay (.invokevirtual 57) (zc 79 2 6) 80 S Q := zW_step (I := .invokevirtual 57) rfl S Q
theorem eX0_shortestWay_80 {d : Nat} {S : zS} {Q : zR → Prop} : zW d MX0_shortestWay 80 S Q = zGo d MX0_shortestWay (.iinc 7 (-1)) (zv (.int (-1))) 83 S Q := zW_step (I := .iinc 7 (-1)) rfl S Q
theorem eX0_shortestWay_83 {d : Nat} {S : zS} {Q : zR → Prop} : zW d MX0_shortestWay 83 S Q = zGo d MX0_shortestWay (.goto (-45)) (zt 38) 86 S Q := zW_step (I := .goto (-45)) rfl S Q
theorem eX0_shortestWay_86 {d : Nat} {S : zS} {Q : zR → Prop} : zW d MX0_shortestWay 86 S Q = zGo d MX0_shortestWay (.iload 5) z0 88 S Q := zW_step (I := .iload 5) rfl S Q
theorem eX0_shortestWay_88 {d : Nat} {S : zS} {Q : zR → Prop} : zW d MX0_shortestWay 88 S Q = zGo d MX0_shortestWay (.ireturn) z0 89 S Q := zW_step (I := .ireturn) rfl S Q
theorem rX0_shortestWay : MX0_shortestWay.2.2.2.2.1 = some .int := rfl
section CIRC
variable {h : Nat → zE} {b n : Nat} {rm mt nt : Nat → Nat} {fm : Bool} {vr : Int32} {d : Nat} {u : zU} {Q : zR → Prop}
def mbF (mt : Nat → Nat) (x : Nat) : Nat → Nat → Nat := fun i r => if x.testBit i = true then r ||| mt i else r
def mba (mt : Nat → Nat) (x n : Nat) : Nat := itr (mbF mt x) 0 n
theorem mba_lt (hm : ∀ i, mt i < 128) (x n : Nat) : mba mt x n < 128 := by
  refine itr_inv (N := n) (fun _ y => y < 128) (by decide) (fun i y _ hy => ?_) n (Nat.le_refl _)
  unfold mbF
  split
  · exact q_or_lt hy (hm i)
  · exact hy
theorem w_mba (hT : toldAt h b n rm mt nt fm vr) {x : Nat} (hx : x < 128) : ∀ j i , n - i = j → i ≤ n → zW (d) MX0_metByAny 4 ([.ref b, .int (nI x), .int (nI (itr (mbF mt x) (0) i)), .int (nI i)], [], (h, u)) Q = Q (some (.int (nI (itr (mbF mt x) (0) (n)))), (h, u)) := by
  obtain ⟨hb, h0, h1, h2, h3, hn, hr, hm, ht⟩ := id hT
  intro j
  induction j with
  | zero =>
    intro i  hj hle
    have e : i = n := by omega
    rw [eX0_metByAny_4]
    simp (disch := first | assumption | omega | decide) only [eX0_metByAny_0, eX0_metByAny_1, eX0_metByAny_2, eX0_metByAny_3, eX0_metByAny_5, eX0_metByAny_6, eX0_metByAny_9, eX0_metByAny_12, eX0_metByAny_13, eX0_metByAny_14, eX0_metByAny_15, eX0_metByAny_16, eX0_metByAny_17, eX0_metByAny_18, eX0_metByAny_21, eX0_metByAny_22, eX0_metByAny_23, eX0_metByAny_26, eX0_metByAny_27, eX0_metByAny_28, eX0_metByAny_29, eX0_metByAny_30, eX0_metByAny_33, eX0_metByAny_36, eX0_metByAny_37, rX0_metByAny, zg_aload, zg_getfield, zg_goto, zg_iaload, zg_iand, zg_icmp, zg_iconst, zg_iinc, zg_iload, zg_ior, zg_ireturn, zg_ishr, zg_istore, q10, q01, q00, ite_self, zLd_i, zLd_l, zLd_a, zInc_i, zGet_o, zGet2_s, zPut_o, zAld_i, zAll_j, zAst_i, zAsl_j, zLen_i, zLen_j, zRt_i, zRt_z, zRl2_l, zRv_n, List.getElem?_cons_zero, List.getElem?_cons_succ, List.length_cons, List.length_nil, z_set, z_set2, z_cut, List.set_cons_zero, List.set_cons_succ, Option.toList_some, Option.toList_none, List.cons_append, List.nil_append, zif, zW_ite, zfit_0, zfit_1, zfit_2, zfit_3, zisc_o, zRt_c, zRt_b, List.map_cons, List.map_nil, List.sum_cons, List.sum_nil, true_and, and_true, if_true, if_false, ite_true, ite_false, Nat.reduceLT, Nat.reduceLeDiff, Nat.reduceAdd, Nat.reduceEqDiff, eq_self, not_true_eq_false, not_false_eq_true, Nat.lt_irrefl, or_true, true_or, or_false, false_or, z_cell_lt, Value.category, ltT, ltF, leT, leF, natT, natF, iltT, iltF, ieqT, ieqF, vpT, cl_nI, q_bit, pow_cell, z_pw_eq, nI_add, nI_mul, nI_m1, nI_dn, nI_dn0, m1_lt, lg_pos, i32_irr, q_shT, ite01, ite00, updL_z, q_upd, Bool.false_eq_true, nI_l2i, jlT_0, jlF_0, jgT_0, jgF_0, jeT_0, jeF_0, jv_0, jc_0, jm_0, jM_0, ja_0, jA_0, jlT_1, jlF_1, jgT_1, jgF_1, jeT_1, jeF_1, jv_1, jc_1, jm_1, jM_1, ja_1, jA_1, jlT_3, jlF_3, jgT_3, jgF_3, jeT_3, jeF_3, jv_3, jc_3, jm_3, jM_3, ja_3, jA_3, h0, h2, q_or]
    try simp only [e]
  | succ j ih =>
    intro i  hj hle
    have hlt : i < n := by omega
    have ih := ih (i + 1) (by omega) (by omega)
    rw [eX0_metByAny_4]
    rw [itr_s] at ih
    generalize itr (mbF mt x) (0) i = r at *
    by_cases c1 : x.testBit i = true <;> first | (exfalso; omega) | (
      (try simp (disch := first | assumption | omega | decide) only [mbF, c1, natT, natF, ltT, ltF, leT, leF, Bool.false_eq_true, if_true, if_false, ite_true, ite_false, not_true_eq_false, not_false_eq_true] at ih)
      (simp (disch := first | assumption | omega | decide) only [eX0_metByAny_0, eX0_metByAny_1, eX0_metByAny_2, eX0_metByAny_3, eX0_metByAny_5, eX0_metByAny_6, eX0_metByAny_9, eX0_metByAny_12, eX0_metByAny_13, eX0_metByAny_14, eX0_metByAny_15, eX0_metByAny_16, eX0_metByAny_17, eX0_metByAny_18, eX0_metByAny_21, eX0_metByAny_22, eX0_metByAny_23, eX0_metByAny_26, eX0_metByAny_27, eX0_metByAny_28, eX0_metByAny_29, eX0_metByAny_30, eX0_metByAny_33, eX0_metByAny_36, eX0_metByAny_37, rX0_metByAny, zg_aload, zg_getfield, zg_goto, zg_iaload, zg_iand, zg_icmp, zg_iconst, zg_iinc, zg_iload, zg_ior, zg_ireturn, zg_ishr, zg_istore, q10, q01, q00, ite_self, zLd_i, zLd_l, zLd_a, zInc_i, zGet_o, zGet2_s, zPut_o, zAld_i, zAll_j, zAst_i, zAsl_j, zLen_i, zLen_j, zRt_i, zRt_z, zRl2_l, zRv_n, List.getElem?_cons_zero, List.getElem?_cons_succ, List.length_cons, List.length_nil, z_set, z_set2, z_cut, List.set_cons_zero, List.set_cons_succ, Option.toList_some, Option.toList_none, List.cons_append, List.nil_append, zif, zW_ite, zfit_0, zfit_1, zfit_2, zfit_3, zisc_o, zRt_c, zRt_b, List.map_cons, List.map_nil, List.sum_cons, List.sum_nil, true_and, and_true, if_true, if_false, ite_true, ite_false, Nat.reduceLT, Nat.reduceLeDiff, Nat.reduceAdd, Nat.reduceEqDiff, eq_self, not_true_eq_false, not_false_eq_true, Nat.lt_irrefl, or_true, true_or, or_false, false_or, z_cell_lt, Value.category, ltT, ltF, leT, leF, natT, natF, iltT, iltF, ieqT, ieqF, vpT, cl_nI, q_bit, pow_cell, z_pw_eq, nI_add, nI_mul, nI_m1, nI_dn, nI_dn0, m1_lt, lg_pos, i32_irr, q_shT, ite01, ite00, updL_z, q_upd, Bool.false_eq_true, nI_l2i, jlT_0, jlF_0, jgT_0, jgF_0, jeT_0, jeF_0, jv_0, jc_0, jm_0, jM_0, ja_0, jA_0, jlT_1, jlF_1, jgT_1, jgF_1, jeT_1, jeF_1, jv_1, jc_1, jm_1, jM_1, ja_1, jA_1, jlT_3, jlF_3, jgT_3, jgF_3, jeT_3, jeF_3, jv_3, jc_3, jm_3, jM_3, ja_3, jA_3, h0, h2, q_or, c1])
      first | done | exact ih | exact ih)
theorem c_mba (hT : toldAt h b n rm mt nt fm vr) {x : Nat} (hx : x < 128) : zK (d + 1) 9 [.ref b, .int (nI x)] (h, u) Q = Q (some (.int (nI (mba mt x n))), (h, u)) := by
  refine zK_of (k := 1) (by omega) ?_
  refine zK_in (M := MX0_metByAny) rfl (Nat.le_of_ble_eq_true rfl) ?_
  show zW 0 MX0_metByAny 0 ([.ref b, .int (nI x), .null, .null], [], (h, u)) _
  simp (disch := first | assumption | omega | decide) only [eX0_metByAny_0, eX0_metByAny_1, eX0_metByAny_2, eX0_metByAny_3, eX0_metByAny_5, eX0_metByAny_6, eX0_metByAny_9, eX0_metByAny_12, eX0_metByAny_13, eX0_metByAny_14, eX0_metByAny_15, eX0_metByAny_16, eX0_metByAny_17, eX0_metByAny_18, eX0_metByAny_21, eX0_metByAny_22, eX0_metByAny_23, eX0_metByAny_26, eX0_metByAny_27, eX0_metByAny_28, eX0_metByAny_29, eX0_metByAny_30, eX0_metByAny_33, eX0_metByAny_36, eX0_metByAny_37, rX0_metByAny, zg_aload, zg_getfield, zg_goto, zg_iaload, zg_iand, zg_icmp, zg_iconst, zg_iinc, zg_iload, zg_ior, zg_ireturn, zg_ishr, zg_istore, q10, q01, q00, ite_self, zLd_i, zLd_l, zLd_a, zInc_i, zGet_o, zGet2_s, zPut_o, zAld_i, zAll_j, zAst_i, zAsl_j, zLen_i, zLen_j, zRt_i, zRt_z, zRl2_l, zRv_n, List.getElem?_cons_zero, List.getElem?_cons_succ, List.length_cons, List.length_nil, z_set, z_set2, z_cut, List.set_cons_zero, List.set_cons_succ, Option.toList_some, Option.toList_none, List.cons_append, List.nil_append, zif, zW_ite, zfit_0, zfit_1, zfit_2, zfit_3, zisc_o, zRt_c, zRt_b, List.map_cons, List.map_nil, List.sum_cons, List.sum_nil, true_and, and_true, if_true, if_false, ite_true, ite_false, Nat.reduceLT, Nat.reduceLeDiff, Nat.reduceAdd, Nat.reduceEqDiff, eq_self, not_true_eq_false, not_false_eq_true, Nat.lt_irrefl, or_true, true_or, or_false, false_or, z_cell_lt, Value.category, ltT, ltF, leT, leF, natT, natF, iltT, iltF, ieqT, ieqF, vpT, cl_nI, q_bit, pow_cell, z_pw_eq, nI_add, nI_mul, nI_m1, nI_dn, nI_dn0, m1_lt, lg_pos, i32_irr, q_shT, ite01, ite00, updL_z, q_upd, Bool.false_eq_true, nI_l2i, jlT_0, jlF_0, jgT_0, jgF_0, jeT_0, jeF_0, jv_0, jc_0, jm_0, jM_0, ja_0, jA_0, jlT_1, jlF_1, jgT_1, jgF_1, jeT_1, jeF_1, jv_1, jc_1, jm_1, jM_1, ja_1, jA_1, jlT_3, jlF_3, jgT_3, jgF_3, jeT_3, jeF_3, jv_3, jc_3, jm_3, jM_3, ja_3, jA_3]
  exact (w_mba hT hx _ 0 rfl (Nat.zero_le _)).mpr rfl
/-- whom one reaches within some -/
def rcF (mt : Nat → Nat) (n fr : Nat) : Nat → Nat → Nat := fun _ r => r ||| (mba mt r n &&& fr)
def wayB (mt : Nat → Nat) (n f t x : Nat) : Bool := (itr (rcF mt n ((2 ^ n - 1) &&& (127 - (mt x ||| 2 ^ x)))) (2 ^ f) n).testBit t
theorem rcF_lt (hm : ∀ i, mt i < 128) {n f fr : Nat} (hf : f < 7) : ∀ i, itr (rcF mt n fr) (2 ^ f) i < 128 := by
  intro i
  refine itr_inv (N := i) (fun _ y => y < 128) (q_pow_lt hf) (fun j y _ hy => ?_) i (Nat.le_refl _)
  exact q_or_lt hy (q_and_lt (mba_lt hm _ _))
theorem w_way (hT : toldAt h b n rm mt nt fm vr) {f t x fr : Nat} (hf : f < 7) : ∀ j i , n - i = j → i ≤ n → zW (d + 1) MX0_isWay 27 ([.ref b, .int (nI f), .int (nI t), .int (nI x), .int (nI fr), .int (nI (itr (rcF mt n fr) (2 ^ f) i)), .int (nI i)], [], (h, u)) Q = zW (d + 1) MX0_isWay 56 ([.ref b, .int (nI f), .int (nI t), .int (nI x), .int (nI fr), .int (nI (itr (rcF mt n fr) (2 ^ f) (n))), .int (nI (n))], [], (h, u)) Q := by
  obtain ⟨hb, h0, h1, h2, h3, hn, hr, hm, ht⟩ := id hT
  have hrl := rcF_lt (n := n) (fr := fr) hm hf
  intro j
  induction j with
  | zero =>
    intro i  hj hle
    have e : i = n := by omega
    rw [eX0_isWay_27]
    simp (disch := first | assumption | omega | decide) only [eX0_isWay_0, eX0_isWay_1, eX0_isWay_4, eX0_isWay_5, eX0_isWay_8, eX0_isWay_9, eX0_isWay_10, eX0_isWay_11, eX0_isWay_12, eX0_isWay_13, eX0_isWay_14, eX0_isWay_15, eX0_isWay_16, eX0_isWay_17, eX0_isWay_19, eX0_isWay_20, eX0_isWay_21, eX0_isWay_22, eX0_isWay_24, eX0_isWay_25, eX0_isWay_29, eX0_isWay_30, eX0_isWay_33, eX0_isWay_36, eX0_isWay_38, eX0_isWay_39, eX0_isWay_41, eX0_isWay_44, eX0_isWay_46, eX0_isWay_47, eX0_isWay_48, eX0_isWay_50, eX0_isWay_53, eX0_isWay_58, eX0_isWay_59, eX0_isWay_60, eX0_isWay_61, eX0_isWay_62, eX0_isWay_63, eX0_isWay_66, eX0_isWay_67, eX0_isWay_70, eX0_isWay_71, rX0_isWay, zg_aload, zg_getfield, zg_goto, zg_iaload, zg_iand, zg_icmp, zg_iconst, zg_iinc, zg_iload, zg_ior, zg_ireturn, zg_is2, zg_ishl, zg_ishr, zg_istore, zg_iv0, zg_ixor, q10, q01, q00, ite_self, zLd_i, zLd_l, zLd_a, zInc_i, zGet_o, zGet2_s, zPut_o, zAld_i, zAll_j, zAst_i, zAsl_j, zLen_i, zLen_j, zRt_i, zRt_z, zRl2_l, zRv_n, List.getElem?_cons_zero, List.getElem?_cons_succ, List.length_cons, List.length_nil, z_set, z_set2, z_cut, List.set_cons_zero, List.set_cons_succ, Option.toList_some, Option.toList_none, List.cons_append, List.nil_append, zif, zW_ite, zfit_0, zfit_1, zfit_2, zfit_3, zisc_o, zRt_c, zRt_b, List.map_cons, List.map_nil, List.sum_cons, List.sum_nil, true_and, and_true, if_true, if_false, ite_true, ite_false, Nat.reduceLT, Nat.reduceLeDiff, Nat.reduceAdd, Nat.reduceEqDiff, eq_self, not_true_eq_false, not_false_eq_true, Nat.lt_irrefl, or_true, true_or, or_false, false_or, z_cell_lt, Value.category, ltT, ltF, leT, leF, natT, natF, iltT, iltF, ieqT, ieqF, vpT, cl_nI, q_bit, pow_cell, z_pw_eq, nI_add, nI_mul, nI_m1, nI_dn, nI_dn0, m1_lt, lg_pos, i32_irr, q_shT, ite01, ite00, updL_z, q_upd, Bool.false_eq_true, nI_l2i, jlT_0, jlF_0, jgT_0, jgF_0, jeT_0, jeF_0, jv_0, jc_0, jm_0, jM_0, ja_0, jA_0, jlT_1, jlF_1, jgT_1, jgF_1, jeT_1, jeF_1, jv_1, jc_1, jm_1, jM_1, ja_1, jA_1, jlT_6, jlF_6, jgT_6, jgF_6, jeT_6, jeF_6, jv_6, jc_6, jm_6, jM_6, ja_6, jA_6, h0, h2, q_or, q_and, c_mba hT, rcF]
    try simp only [e]
  | succ j ih =>
    intro i  hj hle
    have hlt : i < n := by omega
    have ih := ih (i + 1) (by omega) (by omega)
    rw [eX0_isWay_27]
    rw [itr_s] at ih
    have hri := hrl i
    generalize itr (rcF mt n fr) (2 ^ f) i = r at *
    simp (disch := first | assumption | omega | decide) only [eX0_isWay_0, eX0_isWay_1, eX0_isWay_4, eX0_isWay_5, eX0_isWay_8, eX0_isWay_9, eX0_isWay_10, eX0_isWay_11, eX0_isWay_12, eX0_isWay_13, eX0_isWay_14, eX0_isWay_15, eX0_isWay_16, eX0_isWay_17, eX0_isWay_19, eX0_isWay_20, eX0_isWay_21, eX0_isWay_22, eX0_isWay_24, eX0_isWay_25, eX0_isWay_29, eX0_isWay_30, eX0_isWay_33, eX0_isWay_36, eX0_isWay_38, eX0_isWay_39, eX0_isWay_41, eX0_isWay_44, eX0_isWay_46, eX0_isWay_47, eX0_isWay_48, eX0_isWay_50, eX0_isWay_53, eX0_isWay_58, eX0_isWay_59, eX0_isWay_60, eX0_isWay_61, eX0_isWay_62, eX0_isWay_63, eX0_isWay_66, eX0_isWay_67, eX0_isWay_70, eX0_isWay_71, rX0_isWay, zg_aload, zg_getfield, zg_goto, zg_iaload, zg_iand, zg_icmp, zg_iconst, zg_iinc, zg_iload, zg_ior, zg_ireturn, zg_is2, zg_ishl, zg_ishr, zg_istore, zg_iv0, zg_ixor, q10, q01, q00, ite_self, zLd_i, zLd_l, zLd_a, zInc_i, zGet_o, zGet2_s, zPut_o, zAld_i, zAll_j, zAst_i, zAsl_j, zLen_i, zLen_j, zRt_i, zRt_z, zRl2_l, zRv_n, List.getElem?_cons_zero, List.getElem?_cons_succ, List.length_cons, List.length_nil, z_set, z_set2, z_cut, List.set_cons_zero, List.set_cons_succ, Option.toList_some, Option.toList_none, List.cons_append, List.nil_append, zif, zW_ite, zfit_0, zfit_1, zfit_2, zfit_3, zisc_o, zRt_c, zRt_b, List.map_cons, List.map_nil, List.sum_cons, List.sum_nil, true_and, and_true, if_true, if_false, ite_true, ite_false, Nat.reduceLT, Nat.reduceLeDiff, Nat.reduceAdd, Nat.reduceEqDiff, eq_self, not_true_eq_false, not_false_eq_true, Nat.lt_irrefl, or_true, true_or, or_false, false_or, z_cell_lt, Value.category, ltT, ltF, leT, leF, natT, natF, iltT, iltF, ieqT, ieqF, vpT, cl_nI, q_bit, pow_cell, z_pw_eq, nI_add, nI_mul, nI_m1, nI_dn, nI_dn0, m1_lt, lg_pos, i32_irr, q_shT, ite01, ite00, updL_z, q_upd, Bool.false_eq_true, nI_l2i, jlT_0, jlF_0, jgT_0, jgF_0, jeT_0, jeF_0, jv_0, jc_0, jm_0, jM_0, ja_0, jA_0, jlT_1, jlF_1, jgT_1, jgF_1, jeT_1, jeF_1, jv_1, jc_1, jm_1, jM_1, ja_1, jA_1, jlT_6, jlF_6, jgT_6, jgF_6, jeT_6, jeF_6, jv_6, jc_6, jm_6, jM_6, ja_6, jA_6, h0, h2, q_or, q_and, c_mba hT, rcF]
    first | done | exact ih | exact ih
theorem c_way (hT : toldAt h b n rm mt nt fm vr) {f t x : Nat} (hf : f < n) (ht : t < n) (hx : x < n) : zK (d + 2) 8 [.ref b, .int (nI f), .int (nI t), .int (nI x)] (h, u) Q = Q (some (.int (if wayB mt n f t x = true then 1 else 0)), (h, u)) := by
  obtain ⟨hb, h0, h1, h2, h3, hn, hr, hm, htt⟩ := id hT
  have hp := p2_le n (by omega)
  have hx1 : mt x ||| 2 ^ x < 128 := q_or_lt (hm x) (q_pow_lt (by omega))
  have hlt := rcF_lt (n := n) (fr := (2 ^ n - 1) &&& (127 - (mt x ||| 2 ^ x))) hm (show f < 7 by omega) n
  refine zK_of (k := 2) (by omega) ?_
  refine zK_in (M := MX0_isWay) rfl (Nat.le_of_ble_eq_true rfl) ?_
  show zW 1 MX0_isWay 0 ([.ref b, .int (nI f), .int (nI t), .int (nI x), .null, .null, .null], [], (h, u)) _
  simp (disch := first | assumption | omega | decide) only [eX0_isWay_0, eX0_isWay_1, eX0_isWay_4, eX0_isWay_5, eX0_isWay_8, eX0_isWay_9, eX0_isWay_10, eX0_isWay_11, eX0_isWay_12, eX0_isWay_13, eX0_isWay_14, eX0_isWay_15, eX0_isWay_16, eX0_isWay_17, eX0_isWay_19, eX0_isWay_20, eX0_isWay_21, eX0_isWay_22, eX0_isWay_24, eX0_isWay_25, eX0_isWay_29, eX0_isWay_30, eX0_isWay_33, eX0_isWay_36, eX0_isWay_38, eX0_isWay_39, eX0_isWay_41, eX0_isWay_44, eX0_isWay_46, eX0_isWay_47, eX0_isWay_48, eX0_isWay_50, eX0_isWay_53, eX0_isWay_56, eX0_isWay_58, eX0_isWay_59, eX0_isWay_60, eX0_isWay_61, eX0_isWay_62, eX0_isWay_63, eX0_isWay_66, eX0_isWay_67, eX0_isWay_70, eX0_isWay_71, rX0_isWay, zg_aload, zg_getfield, zg_goto, zg_iaload, zg_iand, zg_icmp, zg_iconst, zg_iinc, zg_iload, zg_ior, zg_ireturn, zg_is2, zg_ishl, zg_ishr, zg_istore, zg_iv0, zg_ixor, q10, q01, q00, ite_self, zLd_i, zLd_l, zLd_a, zInc_i, zGet_o, zGet2_s, zPut_o, zAld_i, zAll_j, zAst_i, zAsl_j, zLen_i, zLen_j, zRt_i, zRt_z, zRl2_l, zRv_n, List.getElem?_cons_zero, List.getElem?_cons_succ, List.length_cons, List.length_nil, z_set, z_set2, z_cut, List.set_cons_zero, List.set_cons_succ, Option.toList_some, Option.toList_none, List.cons_append, List.nil_append, zif, zW_ite, zfit_0, zfit_1, zfit_2, zfit_3, zisc_o, zRt_c, zRt_b, List.map_cons, List.map_nil, List.sum_cons, List.sum_nil, true_and, and_true, if_true, if_false, ite_true, ite_false, Nat.reduceLT, Nat.reduceLeDiff, Nat.reduceAdd, Nat.reduceEqDiff, eq_self, not_true_eq_false, not_false_eq_true, Nat.lt_irrefl, or_true, true_or, or_false, false_or, z_cell_lt, Value.category, ltT, ltF, leT, leF, natT, natF, iltT, iltF, ieqT, ieqF, vpT, cl_nI, q_bit, pow_cell, z_pw_eq, nI_add, nI_mul, nI_m1, nI_dn, nI_dn0, m1_lt, lg_pos, i32_irr, q_shT, ite01, ite00, updL_z, q_upd, Bool.false_eq_true, nI_l2i, jlT_0, jlF_0, jgT_0, jgF_0, jeT_0, jeF_0, jv_0, jc_0, jm_0, jM_0, ja_0, jA_0, jlT_1, jlF_1, jgT_1, jgF_1, jeT_1, jeF_1, jv_1, jc_1, jm_1, jM_1, ja_1, jA_1, jlT_6, jlF_6, jgT_6, jgF_6, jeT_6, jeF_6, jv_6, jc_6, jm_6, jM_6, ja_6, jA_6, h0, h2, q_or, q_andn, c_all hT]
  refine (w_way (d := 0) hT (show f < 7 by omega) _ 0 rfl (Nat.zero_le _)).mpr ?_
  unfold wayB
  generalize itr (rcF mt n ((2 ^ n - 1) &&& (127 - (mt x ||| 2 ^ x)))) (2 ^ f) n = r at *
  cases cc : r.testBit t
  · simp (disch := first | assumption | omega | decide) only [eX0_isWay_0, eX0_isWay_1, eX0_isWay_4, eX0_isWay_5, eX0_isWay_8, eX0_isWay_9, eX0_isWay_10, eX0_isWay_11, eX0_isWay_12, eX0_isWay_13, eX0_isWay_14, eX0_isWay_15, eX0_isWay_16, eX0_isWay_17, eX0_isWay_19, eX0_isWay_20, eX0_isWay_21, eX0_isWay_22, eX0_isWay_24, eX0_isWay_25, eX0_isWay_27, eX0_isWay_29, eX0_isWay_30, eX0_isWay_33, eX0_isWay_36, eX0_isWay_38, eX0_isWay_39, eX0_isWay_41, eX0_isWay_44, eX0_isWay_46, eX0_isWay_47, eX0_isWay_48, eX0_isWay_50, eX0_isWay_53, eX0_isWay_56, eX0_isWay_58, eX0_isWay_59, eX0_isWay_60, eX0_isWay_61, eX0_isWay_62, eX0_isWay_63, eX0_isWay_66, eX0_isWay_67, eX0_isWay_70, eX0_isWay_71, rX0_isWay, zg_aload, zg_getfield, zg_goto, zg_iaload, zg_iand, zg_icmp, zg_iconst, zg_iinc, zg_iload, zg_ior, zg_ireturn, zg_is2, zg_ishl, zg_ishr, zg_istore, zg_iv0, zg_ixor, q10, q01, q00, ite_self, zLd_i, zLd_l, zLd_a, zInc_i, zGet_o, zGet2_s, zPut_o, zAld_i, zAll_j, zAst_i, zAsl_j, zLen_i, zLen_j, zRt_i, zRt_z, zRl2_l, zRv_n, List.getElem?_cons_zero, List.getElem?_cons_succ, List.length_cons, List.length_nil, z_set, z_set2, z_cut, List.set_cons_zero, List.set_cons_succ, Option.toList_some, Option.toList_none, List.cons_append, List.nil_append, zif, zW_ite, zfit_0, zfit_1, zfit_2, zfit_3, zisc_o, zRt_c, zRt_b, List.map_cons, List.map_nil, List.sum_cons, List.sum_nil, true_and, and_true, if_true, if_false, ite_true, ite_false, Nat.reduceLT, Nat.reduceLeDiff, Nat.reduceAdd, Nat.reduceEqDiff, eq_self, not_true_eq_false, not_false_eq_true, Nat.lt_irrefl, or_true, true_or, or_false, false_or, z_cell_lt, Value.category, ltT, ltF, leT, leF, natT, natF, iltT, iltF, ieqT, ieqF, vpT, cl_nI, q_bit, pow_cell, z_pw_eq, nI_add, nI_mul, nI_m1, nI_dn, nI_dn0, m1_lt, lg_pos, i32_irr, q_shT, ite01, ite00, updL_z, q_upd, Bool.false_eq_true, nI_l2i, jlT_0, jlF_0, jgT_0, jgF_0, jeT_0, jeF_0, jv_0, jc_0, jm_0, jM_0, ja_0, jA_0, jlT_1, jlF_1, jgT_1, jgF_1, jeT_1, jeF_1, jv_1, jc_1, jm_1, jM_1, ja_1, jA_1, jlT_6, jlF_6, jgT_6, jgF_6, jeT_6, jeF_6, jv_6, jc_6, jm_6, jM_6, ja_6, jA_6, cc, Bool.false_eq_true]
  · simp (disch := first | assumption | omega | decide) only [eX0_isWay_0, eX0_isWay_1, eX0_isWay_4, eX0_isWay_5, eX0_isWay_8, eX0_isWay_9, eX0_isWay_10, eX0_isWay_11, eX0_isWay_12, eX0_isWay_13, eX0_isWay_14, eX0_isWay_15, eX0_isWay_16, eX0_isWay_17, eX0_isWay_19, eX0_isWay_20, eX0_isWay_21, eX0_isWay_22, eX0_isWay_24, eX0_isWay_25, eX0_isWay_27, eX0_isWay_29, eX0_isWay_30, eX0_isWay_33, eX0_isWay_36, eX0_isWay_38, eX0_isWay_39, eX0_isWay_41, eX0_isWay_44, eX0_isWay_46, eX0_isWay_47, eX0_isWay_48, eX0_isWay_50, eX0_isWay_53, eX0_isWay_56, eX0_isWay_58, eX0_isWay_59, eX0_isWay_60, eX0_isWay_61, eX0_isWay_62, eX0_isWay_63, eX0_isWay_66, eX0_isWay_67, eX0_isWay_70, eX0_isWay_71, rX0_isWay, zg_aload, zg_getfield, zg_goto, zg_iaload, zg_iand, zg_icmp, zg_iconst, zg_iinc, zg_iload, zg_ior, zg_ireturn, zg_is2, zg_ishl, zg_ishr, zg_istore, zg_iv0, zg_ixor, q10, q01, q00, ite_self, zLd_i, zLd_l, zLd_a, zInc_i, zGet_o, zGet2_s, zPut_o, zAld_i, zAll_j, zAst_i, zAsl_j, zLen_i, zLen_j, zRt_i, zRt_z, zRl2_l, zRv_n, List.getElem?_cons_zero, List.getElem?_cons_succ, List.length_cons, List.length_nil, z_set, z_set2, z_cut, List.set_cons_zero, List.set_cons_succ, Option.toList_some, Option.toList_none, List.cons_append, List.nil_append, zif, zW_ite, zfit_0, zfit_1, zfit_2, zfit_3, zisc_o, zRt_c, zRt_b, List.map_cons, List.map_nil, List.sum_cons, List.sum_nil, true_and, and_true, if_true, if_false, ite_true, ite_false, Nat.reduceLT, Nat.reduceLeDiff, Nat.reduceAdd, Nat.reduceEqDiff, eq_self, not_true_eq_false, not_false_eq_true, Nat.lt_irrefl, or_true, true_or, or_false, false_or, z_cell_lt, Value.category, ltT, ltF, leT, leF, natT, natF, iltT, iltF, ieqT, ieqF, vpT, cl_nI, q_bit, pow_cell, z_pw_eq, nI_add, nI_mul, nI_m1, nI_dn, nI_dn0, m1_lt, lg_pos, i32_irr, q_shT, ite01, ite00, updL_z, q_upd, Bool.false_eq_true, nI_l2i, jlT_0, jlF_0, jgT_0, jgF_0, jeT_0, jeF_0, jv_0, jc_0, jm_0, jM_0, ja_0, jA_0, jlT_1, jlF_1, jgT_1, jgF_1, jeT_1, jeF_1, jv_1, jc_1, jm_1, jM_1, ja_1, jA_1, jlT_6, jlF_6, jgT_6, jgF_6, jeT_6, jeF_6, jv_6, jc_6, jm_6, jM_6, ja_6, jA_6, cc]
def strB (mt nt : Nat → Nat) (i j : Nat) : Bool := !(mt i).testBit j && (nt i).testBit j
theorem ab_0 {p q : Bool} : ((if p = true then (1 : Int32) else if q = true then 0 else 2) = 0) = ((!p && q) = true) := by cases p <;> cases q <;> decide
def farB (mt nt : Nat → Nat) (n i j k : Nat) : Bool := strB mt nt i j && (strB mt nt i k && (strB mt nt j k && (wayB mt n i j k && (wayB mt n i k j && wayB mt n j k i))))
theorem c_far (hT : toldAt h b n rm mt nt fm vr) {i j k : Nat} (hi : i < n) (hj : j < n) (hk : k < n) : zK (d + 3) 7 [.ref b, .int (nI i), .int (nI j), .int (nI k)] (h, u) Q = Q (some (.int (if farB mt nt n i j k = true then 1 else 0)), (h, u)) := by
  obtain ⟨hb, h0, h1, h2, h3, hn, hr, hm, htt⟩ := id hT
  have ab := fun (i j : Nat) (hi : i < 7) (hj : j < 7) Q => c_about (d := 1) (u := u) (Q := Q) hT hi hj
  refine zK_of (k := 3) (by omega) ?_
  refine zK_in (M := MX0_areFar) rfl (Nat.le_of_ble_eq_true rfl) ?_
  show zW 2 MX0_areFar 0 ([.ref b, .int (nI i), .int (nI j), .int (nI k), .null], [], (h, u)) _
  simp (disch := first | assumption | omega | decide) only [eX0_areFar_0, eX0_areFar_1, eX0_areFar_2, eX0_areFar_3, eX0_areFar_6, eX0_areFar_9, eX0_areFar_10, eX0_areFar_11, eX0_areFar_12, eX0_areFar_15, eX0_areFar_18, eX0_areFar_19, eX0_areFar_20, eX0_areFar_21, eX0_areFar_24, eX0_areFar_27, eX0_areFar_28, eX0_areFar_31, eX0_areFar_32, eX0_areFar_34, eX0_areFar_36, eX0_areFar_39, eX0_areFar_40, eX0_areFar_41, eX0_areFar_42, eX0_areFar_43, eX0_areFar_46, eX0_areFar_49, eX0_areFar_50, eX0_areFar_51, eX0_areFar_52, eX0_areFar_53, eX0_areFar_56, eX0_areFar_59, eX0_areFar_60, eX0_areFar_61, eX0_areFar_62, eX0_areFar_63, eX0_areFar_66, eX0_areFar_69, eX0_areFar_70, eX0_areFar_73, eX0_areFar_74, rX0_areFar, zg_aload, zg_goto, zg_iconst, zg_if, zg_iload, zg_ireturn, zg_is4, zg_istore, zg_iv2, q10, q01, q00, ite_self, zLd_i, zLd_l, zLd_a, zInc_i, zGet_o, zGet2_s, zPut_o, zAld_i, zAll_j, zAst_i, zAsl_j, zLen_i, zLen_j, zRt_i, zRt_z, zRl2_l, zRv_n, List.getElem?_cons_zero, List.getElem?_cons_succ, List.length_cons, List.length_nil, z_set, z_set2, z_cut, List.set_cons_zero, List.set_cons_succ, Option.toList_some, Option.toList_none, List.cons_append, List.nil_append, zif, zW_ite, zfit_0, zfit_1, zfit_2, zfit_3, zisc_o, zRt_c, zRt_b, List.map_cons, List.map_nil, List.sum_cons, List.sum_nil, true_and, and_true, if_true, if_false, ite_true, ite_false, Nat.reduceLT, Nat.reduceLeDiff, Nat.reduceAdd, Nat.reduceEqDiff, eq_self, not_true_eq_false, not_false_eq_true, Nat.lt_irrefl, or_true, true_or, or_false, false_or, z_cell_lt, Value.category, ltT, ltF, leT, leF, natT, natF, iltT, iltF, ieqT, ieqF, vpT, cl_nI, q_bit, pow_cell, z_pw_eq, nI_add, nI_mul, nI_m1, nI_dn, nI_dn0, m1_lt, lg_pos, i32_irr, q_shT, ite01, ite00, updL_z, q_upd, Bool.false_eq_true, nI_l2i, jlT_0, jlF_0, jgT_0, jgF_0, jeT_0, jeF_0, jv_0, jc_0, jm_0, jM_0, ja_0, jA_0, jlT_1, jlF_1, jgT_1, jgF_1, jeT_1, jeF_1, jv_1, jc_1, jm_1, jM_1, ja_1, jA_1, h0, ab, ab_0, c_way hT, ite00]
  unfold farB strB
  repeat' split
  all_goals simp_all
def crB (mt : Nat → Nat) (x i : Nat) : Bool := x.testBit i && decide (¬ x &&& (127 - (mt i ||| 2 ^ i)) = 0)
theorem w_cr (hT : toldAt h b n rm mt nt fm vr) {x : Nat} (hx : x < 128) : ∀ j i , n - i = j → i ≤ n → zW (d) MX0_isCircle 2 ([.ref b, .int (nI x), .int (nI i)], [], (h, u)) Q = Q (some (.int (if okF (crB mt x) i j = true then 1 else 0)), (h, u)) := by
  obtain ⟨hb, h0, h1, h2, h3, hn, hr, hm, ht⟩ := id hT
  intro j
  induction j with
  | zero =>
    intro i  hj hle
    have e : i = n := by omega
    rw [eX0_isCircle_2]
    simp (disch := first | assumption | omega | decide) only [eX0_isCircle_0, eX0_isCircle_1, eX0_isCircle_3, eX0_isCircle_4, eX0_isCircle_7, eX0_isCircle_10, eX0_isCircle_11, eX0_isCircle_12, eX0_isCircle_13, eX0_isCircle_14, eX0_isCircle_15, eX0_isCircle_16, eX0_isCircle_19, eX0_isCircle_20, eX0_isCircle_21, eX0_isCircle_24, eX0_isCircle_25, eX0_isCircle_26, eX0_isCircle_27, eX0_isCircle_28, eX0_isCircle_29, eX0_isCircle_30, eX0_isCircle_31, eX0_isCircle_32, eX0_isCircle_33, eX0_isCircle_36, eX0_isCircle_37, eX0_isCircle_38, eX0_isCircle_41, eX0_isCircle_44, eX0_isCircle_45, rX0_isCircle, zg_aload, zg_getfield, zg_goto, zg_iaload, zg_iand, zg_icmp, zg_iconst, zg_if, zg_iinc, zg_iload, zg_ior, zg_ireturn, zg_ishl, zg_ishr, zg_istore, zg_ixor, q10, q01, q00, ite_self, zLd_i, zLd_l, zLd_a, zInc_i, zGet_o, zGet2_s, zPut_o, zAld_i, zAll_j, zAst_i, zAsl_j, zLen_i, zLen_j, zRt_i, zRt_z, zRl2_l, zRv_n, List.getElem?_cons_zero, List.getElem?_cons_succ, List.length_cons, List.length_nil, z_set, z_set2, z_cut, List.set_cons_zero, List.set_cons_succ, Option.toList_some, Option.toList_none, List.cons_append, List.nil_append, zif, zW_ite, zfit_0, zfit_1, zfit_2, zfit_3, zisc_o, zRt_c, zRt_b, List.map_cons, List.map_nil, List.sum_cons, List.sum_nil, true_and, and_true, if_true, if_false, ite_true, ite_false, Nat.reduceLT, Nat.reduceLeDiff, Nat.reduceAdd, Nat.reduceEqDiff, eq_self, not_true_eq_false, not_false_eq_true, Nat.lt_irrefl, or_true, true_or, or_false, false_or, z_cell_lt, Value.category, ltT, ltF, leT, leF, natT, natF, iltT, iltF, ieqT, ieqF, vpT, cl_nI, q_bit, pow_cell, z_pw_eq, nI_add, nI_mul, nI_m1, nI_dn, nI_dn0, m1_lt, lg_pos, i32_irr, q_shT, ite01, ite00, updL_z, q_upd, Bool.false_eq_true, nI_l2i, jlT_0, jlF_0, jgT_0, jgF_0, jeT_0, jeF_0, jv_0, jc_0, jm_0, jM_0, ja_0, jA_0, jlT_1, jlF_1, jgT_1, jgF_1, jeT_1, jeF_1, jv_1, jc_1, jm_1, jM_1, ja_1, jA_1, jlT_2, jlF_2, jgT_2, jgF_2, jeT_2, jeF_2, jv_2, jc_2, jm_2, jM_2, ja_2, jA_2, h0, h2, q_or, q_andn, Bool.true_and, Bool.false_and, decide_true, decide_false, okF_0, okF_s]
    try simp only [e]
  | succ j ih =>
    intro i  hj hle
    have hlt : i < n := by omega
    have ih := ih (i + 1) (by omega) (by omega)
    rw [eX0_isCircle_2]
    have hx1 : mt i ||| 2 ^ i < 128 := q_or_lt (hm i) (q_pow_lt (by omega))
    have hx2 : x &&& (127 - (mt i ||| 2 ^ i)) < 128 := q_and_lt hx
    have hcr : crB mt x i = (x.testBit i && decide (¬ x &&& (127 - (mt i ||| 2 ^ i)) = 0)) := rfl
    by_cases c1 : x.testBit i = true <;> by_cases c2 : x &&& (127 - (mt i ||| 2 ^ i)) = 0 <;> first | (exfalso; omega) | (
      (simp (disch := first | assumption | omega | decide) only [eX0_isCircle_0, eX0_isCircle_1, eX0_isCircle_3, eX0_isCircle_4, eX0_isCircle_7, eX0_isCircle_10, eX0_isCircle_11, eX0_isCircle_12, eX0_isCircle_13, eX0_isCircle_14, eX0_isCircle_15, eX0_isCircle_16, eX0_isCircle_19, eX0_isCircle_20, eX0_isCircle_21, eX0_isCircle_24, eX0_isCircle_25, eX0_isCircle_26, eX0_isCircle_27, eX0_isCircle_28, eX0_isCircle_29, eX0_isCircle_30, eX0_isCircle_31, eX0_isCircle_32, eX0_isCircle_33, eX0_isCircle_36, eX0_isCircle_37, eX0_isCircle_38, eX0_isCircle_41, eX0_isCircle_44, eX0_isCircle_45, rX0_isCircle, zg_aload, zg_getfield, zg_goto, zg_iaload, zg_iand, zg_icmp, zg_iconst, zg_if, zg_iinc, zg_iload, zg_ior, zg_ireturn, zg_ishl, zg_ishr, zg_istore, zg_ixor, q10, q01, q00, ite_self, zLd_i, zLd_l, zLd_a, zInc_i, zGet_o, zGet2_s, zPut_o, zAld_i, zAll_j, zAst_i, zAsl_j, zLen_i, zLen_j, zRt_i, zRt_z, zRl2_l, zRv_n, List.getElem?_cons_zero, List.getElem?_cons_succ, List.length_cons, List.length_nil, z_set, z_set2, z_cut, List.set_cons_zero, List.set_cons_succ, Option.toList_some, Option.toList_none, List.cons_append, List.nil_append, zif, zW_ite, zfit_0, zfit_1, zfit_2, zfit_3, zisc_o, zRt_c, zRt_b, List.map_cons, List.map_nil, List.sum_cons, List.sum_nil, true_and, and_true, if_true, if_false, ite_true, ite_false, Nat.reduceLT, Nat.reduceLeDiff, Nat.reduceAdd, Nat.reduceEqDiff, eq_self, not_true_eq_false, not_false_eq_true, Nat.lt_irrefl, or_true, true_or, or_false, false_or, z_cell_lt, Value.category, ltT, ltF, leT, leF, natT, natF, iltT, iltF, ieqT, ieqF, vpT, cl_nI, q_bit, pow_cell, z_pw_eq, nI_add, nI_mul, nI_m1, nI_dn, nI_dn0, m1_lt, lg_pos, i32_irr, q_shT, ite01, ite00, updL_z, q_upd, Bool.false_eq_true, nI_l2i, jlT_0, jlF_0, jgT_0, jgF_0, jeT_0, jeF_0, jv_0, jc_0, jm_0, jM_0, ja_0, jA_0, jlT_1, jlF_1, jgT_1, jgF_1, jeT_1, jeF_1, jv_1, jc_1, jm_1, jM_1, ja_1, jA_1, jlT_2, jlF_2, jgT_2, jgF_2, jeT_2, jeF_2, jv_2, jc_2, jm_2, jM_2, ja_2, jA_2, h0, h2, q_or, q_andn, Bool.true_and, Bool.false_and, decide_true, decide_false, okF_0, okF_s, c1, c2, hcr])
      first | done | exact ih | exact ih)
theorem c_cr (hT : toldAt h b n rm mt nt fm vr) {x : Nat} (hx : x < 128) : zK (d + 1) 14 [.ref b, .int (nI x)] (h, u) Q = Q (some (.int (if okF (crB mt x) 0 n = true then 1 else 0)), (h, u)) := by
  refine zK_of (k := 1) (by omega) ?_
  refine zK_in (M := MX0_isCircle) rfl (Nat.le_of_ble_eq_true rfl) ?_
  show zW 0 MX0_isCircle 0 ([.ref b, .int (nI x), .null], [], (h, u)) _
  simp (disch := first | assumption | omega | decide) only [eX0_isCircle_0, eX0_isCircle_1, eX0_isCircle_3, eX0_isCircle_4, eX0_isCircle_7, eX0_isCircle_10, eX0_isCircle_11, eX0_isCircle_12, eX0_isCircle_13, eX0_isCircle_14, eX0_isCircle_15, eX0_isCircle_16, eX0_isCircle_19, eX0_isCircle_20, eX0_isCircle_21, eX0_isCircle_24, eX0_isCircle_25, eX0_isCircle_26, eX0_isCircle_27, eX0_isCircle_28, eX0_isCircle_29, eX0_isCircle_30, eX0_isCircle_31, eX0_isCircle_32, eX0_isCircle_33, eX0_isCircle_36, eX0_isCircle_37, eX0_isCircle_38, eX0_isCircle_41, eX0_isCircle_44, eX0_isCircle_45, rX0_isCircle, zg_aload, zg_getfield, zg_goto, zg_iaload, zg_iand, zg_icmp, zg_iconst, zg_if, zg_iinc, zg_iload, zg_ior, zg_ireturn, zg_ishl, zg_ishr, zg_istore, zg_ixor, q10, q01, q00, ite_self, zLd_i, zLd_l, zLd_a, zInc_i, zGet_o, zGet2_s, zPut_o, zAld_i, zAll_j, zAst_i, zAsl_j, zLen_i, zLen_j, zRt_i, zRt_z, zRl2_l, zRv_n, List.getElem?_cons_zero, List.getElem?_cons_succ, List.length_cons, List.length_nil, z_set, z_set2, z_cut, List.set_cons_zero, List.set_cons_succ, Option.toList_some, Option.toList_none, List.cons_append, List.nil_append, zif, zW_ite, zfit_0, zfit_1, zfit_2, zfit_3, zisc_o, zRt_c, zRt_b, List.map_cons, List.map_nil, List.sum_cons, List.sum_nil, true_and, and_true, if_true, if_false, ite_true, ite_false, Nat.reduceLT, Nat.reduceLeDiff, Nat.reduceAdd, Nat.reduceEqDiff, eq_self, not_true_eq_false, not_false_eq_true, Nat.lt_irrefl, or_true, true_or, or_false, false_or, z_cell_lt, Value.category, ltT, ltF, leT, leF, natT, natF, iltT, iltF, ieqT, ieqF, vpT, cl_nI, q_bit, pow_cell, z_pw_eq, nI_add, nI_mul, nI_m1, nI_dn, nI_dn0, m1_lt, lg_pos, i32_irr, q_shT, ite01, ite00, updL_z, q_upd, Bool.false_eq_true, nI_l2i, jlT_0, jlF_0, jgT_0, jgF_0, jeT_0, jeF_0, jv_0, jc_0, jm_0, jM_0, ja_0, jA_0, jlT_1, jlF_1, jgT_1, jgF_1, jeT_1, jeF_1, jv_1, jc_1, jm_1, jM_1, ja_1, jA_1, jlT_2, jlF_2, jgT_2, jgF_2, jeT_2, jeF_2, jv_2, jc_2, jm_2, jM_2, ja_2, jA_2]
  exact (w_cr hT hx n 0 (by omega) (Nat.zero_le _)).mpr rfl
end CIRC

