/-! likeThat, fill of longs, what a new object is -/
theorem eJ7_fill_d0a16_0 {d : Nat} {S : zS} {Q : zR → Prop} : zW d MJ7_fill_d0a16 0 S Q = zGo d MJ7_fill_d0a16 (.iconst 0) (zv (.int 0)) 1 S Q := zW_step (I := .iconst 0) rfl S Q
theorem eJ7_fill_d0a16_1 {d : Nat} {S : zS} {Q : zR → Prop} : zW d MJ7_fill_d0a16 1 S Q = zGo d MJ7_fill_d0a16 (.istore 3) z0 2 S Q := zW_step (I := .istore_n 3) rfl S Q
theorem eJ7_fill_d0a16_2 {d : Nat} {S : zS} {Q : zR → Prop} : zW d MJ7_fill_d0a16 2 S Q = zGo d MJ7_fill_d0a16 (.aload 0) z0 3 S Q := zW_step (I := .aload_n 0) rfl S Q
theorem eJ7_fill_d0a16_3 {d : Nat} {S : zS} {Q : zR → Prop} : zW d MJ7_fill_d0a16 3 S Q = zGo d MJ7_fill_d0a16 (.arraylength) z0 4 S Q := zW_step (I := .arraylength) rfl S Q
theorem eJ7_fill_d0a16_4 {d : Nat} {S : zS} {Q : zR → Prop} : zW d MJ7_fill_d0a16 4 S Q = zGo d MJ7_fill_d0a16 (.istore 4) z0 6 S Q := zW_step (I := .istore 4) rfl S Q
theorem eJ7_fill_d0a16_6 {d : Nat} {S : zS} {Q : zR → Prop} : zW d MJ7_fill_d0a16 6 S Q = zGo d MJ7_fill_d0a16 (.iload 3) z0 7 S Q := zW_step (I := .iload_n 3) rfl S Q
theorem eJ7_fill_d0a16_7 {d : Nat} {S : zS} {Q : zR → Prop} : zW d MJ7_fill_d0a16 7 S Q = zGo d MJ7_fill_d0a16 (.iload 4) z0 9 S Q := zW_step (I := .iload 4) rfl S Q
theorem eJ7_fill_d0a16_9 {d : Nat} {S : zS} {Q : zR → Prop} : zW d MJ7_fill_d0a16 9 S Q = zGo d MJ7_fill_d0a16 (.if_icmp .ge 13) (zt 22) 12 S Q := zW_step (I := .if_icmp .ge 13) rfl S Q
theorem eJ7_fill_d0a16_12 {d : Nat} {S : zS} {Q : zR → Prop} : zW d MJ7_fill_d0a16 12 S Q = zGo d MJ7_fill_d0a16 (.aload 0) z0 13 S Q := zW_step (I := .aload_n 0) rfl S Q
theorem eJ7_fill_d0a16_13 {d : Nat} {S : zS} {Q : zR → Prop} : zW d MJ7_fill_d0a16 13 S Q = zGo d MJ7_fill_d0a16 (.iload 3) z0 14 S Q := zW_step (I := .iload_n 3) rfl S Q
theorem eJ7_fill_d0a16_14 {d : Nat} {S : zS} {Q : zR → Prop} : zW d MJ7_fill_d0a16 14 S Q = zGo d MJ7_fill_d0a16 (.lload 1) z0 15 S Q := zW_step (I := .lload_n 1) rfl S Q
theorem eJ7_fill_d0a16_15 {d : Nat} {S : zS} {Q : zR → Prop} : zW d MJ7_fill_d0a16 15 S Q = zGo d MJ7_fill_d0a16 (.lastore) z0 16 S Q := zW_step (I := .lastore) rfl S Q
theorem eJ7_fill_d0a16_16 {d : Nat} {S : zS} {Q : zR → Prop} : zW d MJ7_fill_d0a16 16 S Q = zGo d MJ7_fill_d0a16 (.iinc 3 1) (zv (.int 1)) 19 S Q := zW_step (I := .iinc 3 1) rfl S Q
theorem eJ7_fill_d0a16_19 {d : Nat} {S : zS} {Q : zR → Prop} : zW d MJ7_fill_d0a16 19 S Q = zGo d MJ7_fill_d0a16 (.goto (-13)) (zt 6) 22 S Q := zW_step (I := .goto (-13)) rfl S Q
theorem eJ7_fill_d0a16_22 {d : Nat} {S : zS} {Q : zR → Prop} : zW d MJ7_fill_d0a16 22 S Q = zGo d MJ7_fill_d0a16 (.return_) z0 23 S Q := zW_step (I := .return_) rfl S Q
theorem rJ7_fill_d0a16 : MJ7_fill_d0a16.2.2.2.2.1 = none := rfl
theorem eX9_init_0 {d : Nat} {S : zS} {Q : zR → Prop} : zW d MX9_init 0 S Q = zGo d MX9_init (.aload 0) z0 1 S Q := zW_step (I := .aload_n 0) rfl S Q
theorem eX9_init_1 {d : Nat} {S : zS} {Q : zR → Prop} : zW d MX9_init 1 S Q = zGo d MX9_init (.invokespecial 3) (zt 998) 4 S Q := zW_step (I := .invokespecial 3) rfl S Q
theorem eX9_init_4 {d : Nat} {S : zS} {Q : zR → Prop} : zW d MX9_init 4 S Q = zGo d MX9_init (.aload 0) z0 5 S Q := zW_step (I := .aload_n 0) rfl S Q
theorem eX9_init_5 {d : Nat} {S : zS} {Q : zR → Prop} : zW d MX9_init 5 S Q = zGo d MX9_init (.bipush 7) (zv (.int 7)) 7 S Q := zW_step (I := .bipush 7) rfl S Q
theorem eX9_init_7 {d : Nat} {S : zS} {Q : zR → Prop} : zW d MX9_init 7 S Q = zGo d MX9_init (.newarray .int) (zb 0) 9 S Q := zW_step (I := .newarray .int) rfl S Q
theorem eX9_init_9 {d : Nat} {S : zS} {Q : zR → Prop} : zW d MX9_init 9 S Q = zGo d MX9_init (.putfield 9) (zf 3 9 0) 12 S Q := zW_step (I := .putfield 9) rfl S Q
theorem eX9_init_12 {d : Nat} {S : zS} {Q : zR → Prop} : zW d MX9_init 12 S Q = zGo d MX9_init (.aload 0) z0 13 S Q := zW_step (I := .aload_n 0) rfl S Q
theorem eX9_init_13 {d : Nat} {S : zS} {Q : zR → Prop} : zW d MX9_init 13 S Q = zGo d MX9_init (.bipush 7) (zv (.int 7)) 15 S Q := zW_step (I := .bipush 7) rfl S Q
theorem eX9_init_15 {d : Nat} {S : zS} {Q : zR → Prop} : zW d MX9_init 15 S Q = zGo d MX9_init (.newarray .int) (zb 0) 17 S Q := zW_step (I := .newarray .int) rfl S Q
theorem eX9_init_17 {d : Nat} {S : zS} {Q : zR → Prop} : zW d MX9_init 17 S Q = zGo d MX9_init (.putfield 15) (zf 3 9 1) 20 S Q := zW_step (I := .putfield 15) rfl S Q
theorem eX9_init_20 {d : Nat} {S : zS} {Q : zR → Prop} : zW d MX9_init 20 S Q = zGo d MX9_init (.aload 0) z0 21 S Q := zW_step (I := .aload_n 0) rfl S Q
theorem eX9_init_21 {d : Nat} {S : zS} {Q : zR → Prop} : zW d MX9_init 21 S Q = zGo d MX9_init (.bipush 7) (zv (.int 7)) 23 S Q := zW_step (I := .bipush 7) rfl S Q
theorem eX9_init_23 {d : Nat} {S : zS} {Q : zR → Prop} : zW d MX9_init 23 S Q = zGo d MX9_init (.newarray .int) (zb 0) 25 S Q := zW_step (I := .newarray .int) rfl S Q
theorem eX9_init_25 {d : Nat} {S : zS} {Q : zR → Prop} : zW d MX9_init 25 S Q = zGo d MX9_init (.putfield 18) (zf 3 9 2) 28 S Q := zW_step (I := .putfield 18) rfl S Q
theorem eX9_init_28 {d : Nat} {S : zS} {Q : zR → Prop} : zW d MX9_init 28 S Q = zGo d MX9_init (.return_) z0 29 S Q := zW_step (I := .return_) rfl S Q
theorem rX9_init : MX9_init.2.2.2.2.1 = none := rfl
theorem eX8_init_0 {d : Nat} {S : zS} {Q : zR → Prop} : zW d MX8_init 0 S Q = zGo d MX8_init (.aload 0) z0 1 S Q := zW_step (I := .aload_n 0) rfl S Q
theorem eX8_init_1 {d : Nat} {S : zS} {Q : zR → Prop} : zW d MX8_init 1 S Q = zGo d MX8_init (.invokespecial 3) (zt 998) 4 S Q := zW_step (I := .invokespecial 3) rfl S Q
theorem eX8_init_4 {d : Nat} {S : zS} {Q : zR → Prop} : zW d MX8_init 4 S Q = zGo d MX8_init (.aload 0) z0 5 S Q := zW_step (I := .aload_n 0) rfl S Q
theorem eX8_init_5 {d : Nat} {S : zS} {Q : zR → Prop} : zW d MX8_init 5 S Q = zGo d MX8_init (.bipush 80) (zv (.int 80)) 7 S Q := zW_step (I := .bipush 80) rfl S Q
theorem eX8_init_7 {d : Nat} {S : zS} {Q : zR → Prop} : zW d MX8_init 7 S Q = zGo d MX8_init (.newarray .char) (zb 3) 9 S Q := zW_step (I := .newarray .char) rfl S Q
theorem eX8_init_9 {d : Nat} {S : zS} {Q : zR → Prop} : zW d MX8_init 9 S Q = zGo d MX8_init (.putfield 9) (zf 3 8 0) 12 S Q := zW_step (I := .putfield 9) rfl S Q
theorem eX8_init_12 {d : Nat} {S : zS} {Q : zR → Prop} : zW d MX8_init 12 S Q = zGo d MX8_init (.return_) z0 13 S Q := zW_step (I := .return_) rfl S Q
theorem rX8_init : MX8_init.2.2.2.2.1 = none := rfl
theorem eX6_init_0 {d : Nat} {S : zS} {Q : zR → Prop} : zW d MX6_init 0 S Q = zGo d MX6_init (.aload 0) z0 1 S Q := zW_step (I := .aload_n 0) rfl S Q
theorem eX6_init_1 {d : Nat} {S : zS} {Q : zR → Prop} : zW d MX6_init 1 S Q = zGo d MX6_init (.invokespecial 3) (zt 998) 4 S Q := zW_step (I := .invokespecial 3) rfl S Q
theorem eX6_init_4 {d : Nat} {S : zS} {Q : zR → Prop} : zW d MX6_init 4 S Q = zGo d MX6_init (.aload 0) z0 5 S Q := zW_step (I := .aload_n 0) rfl S Q
theorem eX6_init_5 {d : Nat} {S : zS} {Q : zR → Prop} : zW d MX6_init 5 S Q = zGo d MX6_init (.bipush 14) (zv (.int 14)) 7 S Q := zW_step (I := .bipush 14) rfl S Q
theorem eX6_init_7 {d : Nat} {S : zS} {Q : zR → Prop} : zW d MX6_init 7 S Q = zGo d MX6_init (.newarray .long) (zb 1) 9 S Q := zW_step (I := .newarray .long) rfl S Q
theorem eX6_init_9 {d : Nat} {S : zS} {Q : zR → Prop} : zW d MX6_init 9 S Q = zGo d MX6_init (.putfield 9) (zf 3 6 0) 12 S Q := zW_step (I := .putfield 9) rfl S Q
theorem eX6_init_12 {d : Nat} {S : zS} {Q : zR → Prop} : zW d MX6_init 12 S Q = zGo d MX6_init (.return_) z0 13 S Q := zW_step (I := .return_) rfl S Q
theorem rX6_init : MX6_init.2.2.2.2.1 = none := rfl
theorem eX5_init_0 {d : Nat} {S : zS} {Q : zR → Prop} : zW d MX5_init 0 S Q = zGo d MX5_init (.aload 0) z0 1 S Q := zW_step (I := .aload_n 0) rfl S Q
theorem eX5_init_1 {d : Nat} {S : zS} {Q : zR → Prop} : zW d MX5_init 1 S Q = zGo d MX5_init (.invokespecial 3) (zt 998) 4 S Q := zW_step (I := .invokespecial 3) rfl S Q
theorem eX5_init_4 {d : Nat} {S : zS} {Q : zR → Prop} : zW d MX5_init 4 S Q = zGo d MX5_init (.aload 0) z0 5 S Q := zW_step (I := .aload_n 0) rfl S Q
theorem eX5_init_5 {d : Nat} {S : zS} {Q : zR → Prop} : zW d MX5_init 5 S Q = zGo d MX5_init (.bipush 45) (zv (.int 45)) 7 S Q := zW_step (I := .bipush 45) rfl S Q
theorem eX5_init_7 {d : Nat} {S : zS} {Q : zR → Prop} : zW d MX5_init 7 S Q = zGo d MX5_init (.newarray .long) (zb 1) 9 S Q := zW_step (I := .newarray .long) rfl S Q
theorem eX5_init_9 {d : Nat} {S : zS} {Q : zR → Prop} : zW d MX5_init 9 S Q = zGo d MX5_init (.putfield 11) (zf 3 5 0) 12 S Q := zW_step (I := .putfield 11) rfl S Q
theorem eX5_init_12 {d : Nat} {S : zS} {Q : zR → Prop} : zW d MX5_init 12 S Q = zGo d MX5_init (.aload 0) z0 13 S Q := zW_step (I := .aload_n 0) rfl S Q
theorem eX5_init_13 {d : Nat} {S : zS} {Q : zR → Prop} : zW d MX5_init 13 S Q = zGo d MX5_init (.iconst 3) (zv (.int 3)) 14 S Q := zW_step (I := .iconst 3) rfl S Q
theorem eX5_init_14 {d : Nat} {S : zS} {Q : zR → Prop} : zW d MX5_init 14 S Q = zGo d MX5_init (.newarray .long) (zb 1) 16 S Q := zW_step (I := .newarray .long) rfl S Q
theorem eX5_init_16 {d : Nat} {S : zS} {Q : zR → Prop} : zW d MX5_init 16 S Q = zGo d MX5_init (.putfield 15) (zf 3 5 1) 19 S Q := zW_step (I := .putfield 15) rfl S Q
theorem eX5_init_19 {d : Nat} {S : zS} {Q : zR → Prop} : zW d MX5_init 19 S Q = zGo d MX5_init (.aload 0) z0 20 S Q := zW_step (I := .aload_n 0) rfl S Q
theorem eX5_init_20 {d : Nat} {S : zS} {Q : zR → Prop} : zW d MX5_init 20 S Q = zGo d MX5_init (.bipush 9) (zv (.int 9)) 22 S Q := zW_step (I := .bipush 9) rfl S Q
theorem eX5_init_22 {d : Nat} {S : zS} {Q : zR → Prop} : zW d MX5_init 22 S Q = zGo d MX5_init (.newarray .long) (zb 1) 24 S Q := zW_step (I := .newarray .long) rfl S Q
theorem eX5_init_24 {d : Nat} {S : zS} {Q : zR → Prop} : zW d MX5_init 24 S Q = zGo d MX5_init (.putfield 18) (zf 3 5 2) 27 S Q := zW_step (I := .putfield 18) rfl S Q
theorem eX5_init_27 {d : Nat} {S : zS} {Q : zR → Prop} : zW d MX5_init 27 S Q = zGo d MX5_init (.return_) z0 28 S Q := zW_step (I := .return_) rfl S Q
theorem rX5_init : MX5_init.2.2.2.2.1 = none := rfl
theorem eX2_init_0 {d : Nat} {S : zS} {Q : zR → Prop} : zW d MX2_init 0 S Q = zGo d MX2_init (.aload 0) z0 1 S Q := zW_step (I := .aload_n 0) rfl S Q
theorem eX2_init_1 {d : Nat} {S : zS} {Q : zR → Prop} : zW d MX2_init 1 S Q = zGo d MX2_init (.invokespecial 3) (zt 998) 4 S Q := zW_step (I := .invokespecial 3) rfl S Q
theorem eX2_init_4 {d : Nat} {S : zS} {Q : zR → Prop} : zW d MX2_init 4 S Q = zGo d MX2_init (.aload 0) z0 5 S Q := zW_step (I := .aload_n 0) rfl S Q
theorem eX2_init_5 {d : Nat} {S : zS} {Q : zR → Prop} : zW d MX2_init 5 S Q = zGo d MX2_init (.bipush 7) (zv (.int 7)) 7 S Q := zW_step (I := .bipush 7) rfl S Q
theorem eX2_init_7 {d : Nat} {S : zS} {Q : zR → Prop} : zW d MX2_init 7 S Q = zGo d MX2_init (.newarray .int) (zb 0) 9 S Q := zW_step (I := .newarray .int) rfl S Q
theorem eX2_init_9 {d : Nat} {S : zS} {Q : zR → Prop} : zW d MX2_init 9 S Q = zGo d MX2_init (.putfield 9) (zf 3 2 0) 12 S Q := zW_step (I := .putfield 9) rfl S Q
theorem eX2_init_12 {d : Nat} {S : zS} {Q : zR → Prop} : zW d MX2_init 12 S Q = zGo d MX2_init (.aload 0) z0 13 S Q := zW_step (I := .aload_n 0) rfl S Q
theorem eX2_init_13 {d : Nat} {S : zS} {Q : zR → Prop} : zW d MX2_init 13 S Q = zGo d MX2_init (.bipush 7) (zv (.int 7)) 15 S Q := zW_step (I := .bipush 7) rfl S Q
theorem eX2_init_15 {d : Nat} {S : zS} {Q : zR → Prop} : zW d MX2_init 15 S Q = zGo d MX2_init (.newarray .int) (zb 0) 17 S Q := zW_step (I := .newarray .int) rfl S Q
theorem eX2_init_17 {d : Nat} {S : zS} {Q : zR → Prop} : zW d MX2_init 17 S Q = zGo d MX2_init (.putfield 15) (zf 3 2 1) 20 S Q := zW_step (I := .putfield 15) rfl S Q
theorem eX2_init_20 {d : Nat} {S : zS} {Q : zR → Prop} : zW d MX2_init 20 S Q = zGo d MX2_init (.aload 0) z0 21 S Q := zW_step (I := .aload_n 0) rfl S Q
theorem eX2_init_21 {d : Nat} {S : zS} {Q : zR → Prop} : zW d MX2_init 21 S Q = zGo d MX2_init (.sipush 128) (zv (.int 128)) 24 S Q := zW_step (I := .sipush 128) rfl S Q
theorem eX2_init_24 {d : Nat} {S : zS} {Q : zR → Prop} : zW d MX2_init 24 S Q = zGo d MX2_init (.newarray .byte) (zb 2) 26 S Q := zW_step (I := .newarray .byte) rfl S Q
theorem eX2_init_26 {d : Nat} {S : zS} {Q : zR → Prop} : zW d MX2_init 26 S Q = zGo d MX2_init (.putfield 18) (zf 3 2 2) 29 S Q := zW_step (I := .putfield 18) rfl S Q
theorem eX2_init_29 {d : Nat} {S : zS} {Q : zR → Prop} : zW d MX2_init 29 S Q = zGo d MX2_init (.return_) z0 30 S Q := zW_step (I := .return_) rfl S Q
theorem rX2_init : MX2_init.2.2.2.2.1 = none := rfl
theorem eX7_init_0 {d : Nat} {S : zS} {Q : zR → Prop} : zW d MX7_init 0 S Q = zGo d MX7_init (.aload 0) z0 1 S Q := zW_step (I := .aload_n 0) rfl S Q
theorem eX7_init_1 {d : Nat} {S : zS} {Q : zR → Prop} : zW d MX7_init 1 S Q = zGo d MX7_init (.invokespecial 5) (zt 998) 4 S Q := zW_step (I := .invokespecial 5) rfl S Q
theorem eX7_init_4 {d : Nat} {S : zS} {Q : zR → Prop} : zW d MX7_init 4 S Q = zGo d MX7_init (.aload 0) z0 5 S Q := zW_step (I := .aload_n 0) rfl S Q
theorem eX7_init_5 {d : Nat} {S : zS} {Q : zR → Prop} : zW d MX7_init 5 S Q = zGo d MX7_init (.bipush 40) (zv (.int 40)) 7 S Q := zW_step (I := .bipush 40) rfl S Q
theorem eX7_init_7 {d : Nat} {S : zS} {Q : zR → Prop} : zW d MX7_init 7 S Q = zGo d MX7_init (.newarray .int) (zb 0) 9 S Q := zW_step (I := .newarray .int) rfl S Q
theorem eX7_init_9 {d : Nat} {S : zS} {Q : zR → Prop} : zW d MX7_init 9 S Q = zGo d MX7_init (.putfield 11) (zf 3 7 0) 12 S Q := zW_step (I := .putfield 11) rfl S Q
theorem eX7_init_12 {d : Nat} {S : zS} {Q : zR → Prop} : zW d MX7_init 12 S Q = zGo d MX7_init (.aload 0) z0 13 S Q := zW_step (I := .aload_n 0) rfl S Q
theorem eX7_init_13 {d : Nat} {S : zS} {Q : zR → Prop} : zW d MX7_init 13 S Q = zGo d MX7_init (.bipush 40) (zv (.int 40)) 15 S Q := zW_step (I := .bipush 40) rfl S Q
theorem eX7_init_15 {d : Nat} {S : zS} {Q : zR → Prop} : zW d MX7_init 15 S Q = zGo d MX7_init (.newarray .int) (zb 0) 17 S Q := zW_step (I := .newarray .int) rfl S Q
theorem eX7_init_17 {d : Nat} {S : zS} {Q : zR → Prop} : zW d MX7_init 17 S Q = zGo d MX7_init (.putfield 15) (zf 3 7 1) 20 S Q := zW_step (I := .putfield 15) rfl S Q
theorem eX7_init_20 {d : Nat} {S : zS} {Q : zR → Prop} : zW d MX7_init 20 S Q = zGo d MX7_init (.aload 0) z0 21 S Q := zW_step (I := .aload_n 0) rfl S Q
theorem eX7_init_21 {d : Nat} {S : zS} {Q : zR → Prop} : zW d MX7_init 21 S Q = zGo d MX7_init (.bipush 40) (zv (.int 40)) 23 S Q := zW_step (I := .bipush 40) rfl S Q
theorem eX7_init_23 {d : Nat} {S : zS} {Q : zR → Prop} : zW d MX7_init 23 S Q = zGo d MX7_init (.newarray .int) (zb 0) 25 S Q := zW_step (I := .newarray .int) rfl S Q
theorem eX7_init_25 {d : Nat} {S : zS} {Q : zR → Prop} : zW d MX7_init 25 S Q = zGo d MX7_init (.putfield 18) (zf 3 7 2) 28 S Q := zW_step (I := .putfield 18) rfl S Q
theorem eX7_init_28 {d : Nat} {S : zS} {Q : zR → Prop} : zW d MX7_init 28 S Q = zGo d MX7_init (.aload 0) z0 29 S Q := zW_step (I := .aload_n 0) rfl S Q
theorem eX7_init_29 {d : Nat} {S : zS} {Q : zR → Prop} : zW d MX7_init 29 S Q = zGo d MX7_init (.getfield 11) (zf 3 7 0) 32 S Q := zW_step (I := .getfield 11) rfl S Q
theorem eX7_init_32 {d : Nat} {S : zS} {Q : zR → Prop} : zW d MX7_init 32 S Q = zGo d MX7_init (.iconst 0) (zv (.int 0)) 33 S Q := zW_step (I := .iconst 0) rfl S Q
theorem eX7_init_33 {d : Nat} {S : zS} {Q : zR → Prop} : zW d MX7_init 33 S Q = zGo d MX7_init (.sipush 1003) (zv (.int 1003)) 36 S Q := zW_step (I := .sipush 1003) rfl S Q
theorem eX7_init_36 {d : Nat} {S : zS} {Q : zR → Prop} : zW d MX7_init 36 S Q = zGo d MX7_init (.iastore) z0 37 S Q := zW_step (I := .iastore) rfl S Q
theorem eX7_init_37 {d : Nat} {S : zS} {Q : zR → Prop} : zW d MX7_init 37 S Q = zGo d MX7_init (.aload 0) z0 38 S Q := zW_step (I := .aload_n 0) rfl S Q
theorem eX7_init_38 {d : Nat} {S : zS} {Q : zR → Prop} : zW d MX7_init 38 S Q = zGo d MX7_init (.iconst 1) (zv (.int 1)) 39 S Q := zW_step (I := .iconst 1) rfl S Q
theorem eX7_init_39 {d : Nat} {S : zS} {Q : zR → Prop} : zW d MX7_init 39 S Q = zGo d MX7_init (.putfield 21) (zf 0 7 3) 42 S Q := zW_step (I := .putfield 21) rfl S Q
theorem eX7_init_42 {d : Nat} {S : zS} {Q : zR → Prop} : zW d MX7_init 42 S Q = zGo d MX7_init (.return_) z0 43 S Q := zW_step (I := .return_) rfl S Q
theorem rX7_init : MX7_init.2.2.2.2.1 = none := rfl
theorem toldUp_0 {h : Nat → zE} {b n n' : Nat} {rm mt nt : Nat → Nat} {fm f : Bool} {vr v : Int32} : z_up (toldSet h b n rm mt nt fm vr) b (zO 9 [.ref (b + 1), .ref (b + 2), .ref (b + 3), .int (nI n'), .int (if f then 1 else 0), .int v]) = toldSet h b n' rm mt nt f v := by
  apply toldSet_of
  · intro k hk; rw [z_up_n _ _ (by omega), toldSet_out hk]
  · rw [z_up_s]
  · rw [z_up_n _ _ (by omega)]; simp [toldSet]
  · rw [z_up_n _ _ (by omega)]; simp [toldSet]
  · rw [z_up_n _ _ (by omega)]; simp [toldSet]
theorem toldUp_1 {h : Nat → zE} {b n : Nat} {rm mt nt rm' : Nat → Nat} {fm : Bool} {vr : Int32} : z_up (toldSet h b n rm mt nt fm vr) (b + 1) (zI 0 7 (fun i => nI (rm' i))) = toldSet h b n rm' mt nt fm vr := by
  apply toldSet_of
  · intro k hk; rw [z_up_n _ _ (by omega), toldSet_out hk]
  · rw [z_up_n _ _ (by omega)]; simp [toldSet]
  · rw [z_up_s]
  · rw [z_up_n _ _ (by omega)]; simp [toldSet]
  · rw [z_up_n _ _ (by omega)]; simp [toldSet]
theorem toldUp_2 {h : Nat → zE} {b n : Nat} {rm mt nt rm' : Nat → Nat} {fm : Bool} {vr : Int32} : z_up (toldSet h b n rm mt nt fm vr) (b + 2) (zI 0 7 (fun i => nI (rm' i))) = toldSet h b n rm rm' nt fm vr := by
  apply toldSet_of
  · intro k hk; rw [z_up_n _ _ (by omega), toldSet_out hk]
  · rw [z_up_n _ _ (by omega)]; simp [toldSet]
  · rw [z_up_n _ _ (by omega)]; simp [toldSet]
  · rw [z_up_s]
  · rw [z_up_n _ _ (by omega)]; simp [toldSet]
theorem toldUp_3 {h : Nat → zE} {b n : Nat} {rm mt nt rm' : Nat → Nat} {fm : Bool} {vr : Int32} : z_up (toldSet h b n rm mt nt fm vr) (b + 3) (zI 0 7 (fun i => nI (rm' i))) = toldSet h b n rm mt rm' fm vr := by
  apply toldSet_of
  · intro k hk; rw [z_up_n _ _ (by omega), toldSet_out hk]
  · rw [z_up_n _ _ (by omega)]; simp [toldSet]
  · rw [z_up_n _ _ (by omega)]; simp [toldSet]
  · rw [z_up_n _ _ (by omega)]; simp [toldSet]
  · rw [z_up_s]
section REST
variable {h h' : Nat → zE} {b n a m : Nat} {rm mt nt rm' mt' nt' : Nat → Nat} {fm fm' : Bool} {vr vr' : Int32} {d : Nat} {u : zU} {Q : zR → Prop}
theorem toldSet_1 : toldSet h b n rm mt nt fm vr (b + 1) = zI 0 7 (fun i => nI (rm i)) := by simp [toldSet]
theorem toldSet_2 : toldSet h b n rm mt nt fm vr (b + 2) = zI 0 7 (fun i => nI (mt i)) := by simp [toldSet]
theorem toldSet_3 : toldSet h b n rm mt nt fm vr (b + 3) = zI 0 7 (fun i => nI (nt i)) := by simp [toldSet]
theorem toldAt_ts (hd : b + 3 < a ∨ a + 3 < b) (hA : toldAt h a m rm' mt' nt' fm' vr') : toldAt (toldSet h b n rm mt nt fm vr) a m rm' mt' nt' fm' vr' := toldAt_out (fun j h1 h2 => toldSet_out (by omega)) hA
theorem w_like (hb : b + 3 < 1000) (hd : b + 3 < a ∨ a + 3 < b) (hA : toldAt h a m rm' mt' nt' fm' vr') : ∀ k o, 7 - o = k → o ≤ 7 → zW d MX9_likeThat 18 ([.ref b, .ref a, .int (nI o)], [], (toldSet h b n (pre rm' rm o) (pre mt' mt o) (pre nt' nt o) fm vr, u)) (fun q => q = (none, (toldSet h b n (pre rm' rm 7) (pre mt' mt 7) (pre nt' nt 7) fm (vr + 1), u))) := by
  obtain ⟨ha, g0, g1, g2, g3, gn, gr, gm, gt⟩ := id hA
  have hb0 : b < 1000 := by omega
  have hb1 : b + 1 < 1000 := by omega
  have hb2 : b + 2 < 1000 := by omega
  have ha0 : a < 1000 := by omega
  have ha1 : a + 1 < 1000 := by omega
  have ha2 : a + 2 < 1000 := by omega
  have a0 : ∀ n rm mt nt fm vr, toldSet h b n rm mt nt fm vr a = h a := fun n rm mt nt fm vr => toldSet_out (by omega)
  have a1 : ∀ n rm mt nt fm vr, toldSet h b n rm mt nt fm vr (a + 1) = h (a + 1) := fun n rm mt nt fm vr => toldSet_out (by omega)
  have a2 : ∀ n rm mt nt fm vr, toldSet h b n rm mt nt fm vr (a + 2) = h (a + 2) := fun n rm mt nt fm vr => toldSet_out (by omega)
  have a3 : ∀ n rm mt nt fm vr, toldSet h b n rm mt nt fm vr (a + 3) = h (a + 3) := fun n rm mt nt fm vr => toldSet_out (by omega)
  intro k
  induction k with
  | zero =>
    intro o ho hle
    have e : o = 7 := by omega
    subst e
    rw [eX9_likeThat_18]
    simp only [eX9_likeThat_0, eX9_likeThat_1, eX9_likeThat_2, eX9_likeThat_5, eX9_likeThat_8, eX9_likeThat_9, eX9_likeThat_10, eX9_likeThat_13, eX9_likeThat_16, eX9_likeThat_17, eX9_likeThat_19, eX9_likeThat_21, eX9_likeThat_24, eX9_likeThat_25, eX9_likeThat_28, eX9_likeThat_29, eX9_likeThat_30, eX9_likeThat_33, eX9_likeThat_34, eX9_likeThat_35, eX9_likeThat_36, eX9_likeThat_37, eX9_likeThat_40, eX9_likeThat_41, eX9_likeThat_42, eX9_likeThat_45, eX9_likeThat_46, eX9_likeThat_47, eX9_likeThat_48, eX9_likeThat_49, eX9_likeThat_52, eX9_likeThat_53, eX9_likeThat_54, eX9_likeThat_57, eX9_likeThat_58, eX9_likeThat_59, eX9_likeThat_60, eX9_likeThat_63, eX9_likeThat_66, eX9_likeThat_67, eX9_likeThat_68, eX9_likeThat_71, eX9_likeThat_72, eX9_likeThat_73, eX9_likeThat_76, rX9_likeThat, zg_aload, zg_bipush, zg_dup, zg_getfield, zg_goto, zg_iadd, zg_iaload, zg_iastore, zg_icmp, zg_iconst, zg_iinc, zg_iload, zg_istore, zg_putfield, zg_return, q10, q01, q00, ite_self, zLd_i, zLd_l, zLd_a, zInc_i, zGet_o, zGet2_s, zPut_o, zAld_i, zAll_j, zAst_i, zAsl_j, zLen_i, zLen_j, zRt_i, zRt_z, zRl2_l, zRv_n, List.getElem?_cons_zero, List.getElem?_cons_succ, List.length_cons, List.length_nil, z_set, z_set2, z_cut, List.set_cons_zero, List.set_cons_succ, Option.toList_some, Option.toList_none, List.cons_append, List.nil_append, zif, zW_ite, zfit_0, zfit_1, zfit_2, zfit_3, zisc_o, zRt_c, zRt_b, List.map_cons, List.map_nil, List.sum_cons, List.sum_nil, true_and, and_true, if_true, if_false, ite_true, ite_false, Nat.reduceLT, Nat.reduceLeDiff, Nat.reduceAdd, Nat.reduceEqDiff, eq_self, not_true_eq_false, not_false_eq_true, Nat.lt_irrefl, or_true, true_or, or_false, false_or, z_cell_lt, Value.category, nI_77, toldSet_b, hb0, toldUp_0]
  | succ k ih =>
    intro o ho hle
    have ho7 : o < 7 := by omega
    have ih := ih (o + 1) (by omega) (by omega)
    rw [eX9_likeThat_18]
    simp only [eX9_likeThat_0, eX9_likeThat_1, eX9_likeThat_2, eX9_likeThat_5, eX9_likeThat_8, eX9_likeThat_9, eX9_likeThat_10, eX9_likeThat_13, eX9_likeThat_16, eX9_likeThat_17, eX9_likeThat_19, eX9_likeThat_21, eX9_likeThat_24, eX9_likeThat_25, eX9_likeThat_28, eX9_likeThat_29, eX9_likeThat_30, eX9_likeThat_33, eX9_likeThat_34, eX9_likeThat_35, eX9_likeThat_36, eX9_likeThat_37, eX9_likeThat_40, eX9_likeThat_41, eX9_likeThat_42, eX9_likeThat_45, eX9_likeThat_46, eX9_likeThat_47, eX9_likeThat_48, eX9_likeThat_49, eX9_likeThat_52, eX9_likeThat_53, eX9_likeThat_54, eX9_likeThat_57, eX9_likeThat_58, eX9_likeThat_59, eX9_likeThat_60, eX9_likeThat_63, eX9_likeThat_66, eX9_likeThat_67, eX9_likeThat_68, eX9_likeThat_71, eX9_likeThat_72, eX9_likeThat_73, eX9_likeThat_76, rX9_likeThat, zg_aload, zg_bipush, zg_dup, zg_getfield, zg_goto, zg_iadd, zg_iaload, zg_iastore, zg_icmp, zg_iconst, zg_iinc, zg_iload, zg_istore, zg_putfield, zg_return, q10, q01, q00, ite_self, zLd_i, zLd_l, zLd_a, zInc_i, zGet_o, zGet2_s, zPut_o, zAld_i, zAll_j, zAst_i, zAsl_j, zLen_i, zLen_j, zRt_i, zRt_z, zRl2_l, zRv_n, List.getElem?_cons_zero, List.getElem?_cons_succ, List.length_cons, List.length_nil, z_set, z_set2, z_cut, List.set_cons_zero, List.set_cons_succ, Option.toList_some, Option.toList_none, List.cons_append, List.nil_append, zif, zW_ite, zfit_0, zfit_1, zfit_2, zfit_3, zisc_o, zRt_c, zRt_b, List.map_cons, List.map_nil, List.sum_cons, List.sum_nil, true_and, and_true, if_true, if_false, ite_true, ite_false, Nat.reduceLT, Nat.reduceLeDiff, Nat.reduceAdd, Nat.reduceEqDiff, eq_self, not_true_eq_false, not_false_eq_true, Nat.lt_irrefl, or_true, true_or, or_false, false_or, z_cell_lt, Value.category, nI_lt7 ho7, nI_7 ho7, nI_c ho7, toldSet_b, toldSet_1, toldSet_2, toldSet_3, hb, hb0, hb1, hb2, ha, ha0, ha1, ha2, a0, a1, a2, a3, g0, g1, g2, g3, q_upd, pre_up, toldUp_1, toldUp_2, toldUp_3, nI_1]
    exact ih
theorem c_like (hT : toldAt h b n rm mt nt fm vr) (hA : toldAt h a m rm' mt' nt' fm' vr') (hd : b + 3 < a ∨ a + 3 < b) : zK (d + 1) 124 [.ref b, .ref a] (h, u) Q = Q (none, (toldSet h b m (pre rm' rm 7) (pre mt' mt 7) (pre nt' nt 7) fm' (vr + 1), u)) := by
  obtain ⟨hb, h0, -⟩ := id hT
  obtain ⟨ha, g0, -⟩ := id hA
  have hb0 : b < 1000 := by omega
  have ha0 : a < 1000 := by omega
  have a0 : ∀ n rm mt nt fm vr, toldSet h b n rm mt nt fm vr a = h a := fun n rm mt nt fm vr => toldSet_out (by omega)
  have w := w_like (h := h) (n := m) (rm := rm) (mt := mt) (nt := nt) (fm := fm') (vr := vr) (d := 0) (u := u) hb hd hA 7 0 (by omega) (by omega)
  rw [pre_0, pre_0, pre_0] at w
  refine zK_of (k := 1) (by omega) ?_
  refine zK_in (M := MX9_likeThat) rfl (Nat.le_of_ble_eq_true rfl) ?_
  have e := toldSet_self hT
  show zW 0 MX9_likeThat 0 ([.ref b, .ref a, .null], [], (h, u)) (fun q => q = (none, (toldSet h b m (pre rm' rm 7) (pre mt' mt 7) (pre nt' nt 7) fm' (vr + 1), u)))
  generalize hG : (fun q : zR => q = (none, (toldSet h b m (pre rm' rm 7) (pre mt' mt 7) (pre nt' nt 7) fm' (vr + 1), u))) = G at *
  rw [show (([.ref b, .ref a, .null], [], (h, u)) : zS) = ([.ref b, .ref a, .null], [], (toldSet h b n rm mt nt fm vr, u)) by rw [e]]
  simp only [eX9_likeThat_0, eX9_likeThat_1, eX9_likeThat_2, eX9_likeThat_5, eX9_likeThat_8, eX9_likeThat_9, eX9_likeThat_10, eX9_likeThat_13, eX9_likeThat_16, eX9_likeThat_17, eX9_likeThat_19, eX9_likeThat_21, eX9_likeThat_24, eX9_likeThat_25, eX9_likeThat_28, eX9_likeThat_29, eX9_likeThat_30, eX9_likeThat_33, eX9_likeThat_34, eX9_likeThat_35, eX9_likeThat_36, eX9_likeThat_37, eX9_likeThat_40, eX9_likeThat_41, eX9_likeThat_42, eX9_likeThat_45, eX9_likeThat_46, eX9_likeThat_47, eX9_likeThat_48, eX9_likeThat_49, eX9_likeThat_52, eX9_likeThat_53, eX9_likeThat_54, eX9_likeThat_57, eX9_likeThat_58, eX9_likeThat_59, eX9_likeThat_60, eX9_likeThat_63, eX9_likeThat_66, eX9_likeThat_67, eX9_likeThat_68, eX9_likeThat_71, eX9_likeThat_72, eX9_likeThat_73, eX9_likeThat_76, rX9_likeThat, zg_aload, zg_bipush, zg_dup, zg_getfield, zg_goto, zg_iadd, zg_iaload, zg_iastore, zg_icmp, zg_iconst, zg_iinc, zg_iload, zg_istore, zg_putfield, zg_return, q10, q01, q00, ite_self, zLd_i, zLd_l, zLd_a, zInc_i, zGet_o, zGet2_s, zPut_o, zAld_i, zAll_j, zAst_i, zAsl_j, zLen_i, zLen_j, zRt_i, zRt_z, zRl2_l, zRv_n, List.getElem?_cons_zero, List.getElem?_cons_succ, List.length_cons, List.length_nil, z_set, z_set2, z_cut, List.set_cons_zero, List.set_cons_succ, Option.toList_some, Option.toList_none, List.cons_append, List.nil_append, zif, zW_ite, zfit_0, zfit_1, zfit_2, zfit_3, zisc_o, zRt_c, zRt_b, List.map_cons, List.map_nil, List.sum_cons, List.sum_nil, true_and, and_true, if_true, if_false, ite_true, ite_false, Nat.reduceLT, Nat.reduceLeDiff, Nat.reduceAdd, Nat.reduceEqDiff, eq_self, not_true_eq_false, not_false_eq_true, Nat.lt_irrefl, or_true, true_or, or_false, false_or, z_cell_lt, Value.category, toldSet_b, hb0, ha0, a0, g0, toldUp_0]
  exact ⟨by cases fm' <;> simp, w⟩
theorem w_fillL {f : Nat → Int64} {N : Nat} {v : Int64} (ha : a < 1000) (hN : N < 100000) : ∀ k o g, h a = zJ N g → (∀ i, i < o → g i = v) → (∀ i, o ≤ i → g i = f i) → N - o = k → o ≤ N → zW d MJ7_fill_d0a16 6 ([.ref a, .long v, .null, .int (nI o), .int (nI N)], [], (h, u)) (fun q => q = (none, (z_up h a (zJ N (fun i => if i < N then v else f i)), u))) := by
  intro k
  induction k generalizing h with
  | zero =>
    intro o g hg hz hf ho hle
    have e : o = N := by omega
    subst e
    rw [eJ7_fill_d0a16_6]
    simp only [eJ7_fill_d0a16_0, eJ7_fill_d0a16_1, eJ7_fill_d0a16_2, eJ7_fill_d0a16_3, eJ7_fill_d0a16_4, eJ7_fill_d0a16_7, eJ7_fill_d0a16_9, eJ7_fill_d0a16_12, eJ7_fill_d0a16_13, eJ7_fill_d0a16_14, eJ7_fill_d0a16_15, eJ7_fill_d0a16_16, eJ7_fill_d0a16_19, eJ7_fill_d0a16_22, rJ7_fill_d0a16, zg_aload, zg_arraylength, zg_goto, zg_icmp, zg_iconst, zg_iinc, zg_iload, zg_istore, zg_lastore, zg_lload, zg_return, q10, q01, q00, ite_self, zLd_i, zLd_l, zLd_a, zInc_i, zGet_o, zGet2_s, zPut_o, zAld_i, zAll_j, zAst_i, zAsl_j, zLen_i, zLen_j, zRt_i, zRt_z, zRl2_l, zRv_n, List.getElem?_cons_zero, List.getElem?_cons_succ, List.length_cons, List.length_nil, z_set, z_set2, z_cut, List.set_cons_zero, List.set_cons_succ, Option.toList_some, Option.toList_none, List.cons_append, List.nil_append, zif, zW_ite, zfit_0, zfit_1, zfit_2, zfit_3, zisc_o, zRt_c, zRt_b, List.map_cons, List.map_nil, List.sum_cons, List.sum_nil, true_and, and_true, if_true, if_false, ite_true, ite_false, Nat.reduceLT, Nat.reduceLeDiff, Nat.reduceAdd, Nat.reduceEqDiff, eq_self, not_true_eq_false, not_false_eq_true, Nat.lt_irrefl, or_true, true_or, or_false, false_or, z_cell_lt, Value.category, Int32.lt_irrefl]
    have e : (fun i => if i < o then v else f i) = g := by
      funext i
      split
      · rename_i q; rw [hz i q]
      · rename_i q; rw [hf i (by omega)]
    rw [e, ← hg]
    congr 2
    funext j
    unfold z_up
    split
    · rename_i q; rw [q]
    · rfl
  | succ k ih =>
    intro o g hg hz hf ho hle
    have c1 : nI o < nI N := nI_lt (show o < N by omega) (by omega)
    have i1 : vp_in (nI o) N := vp_in_nI (show o < N by omega) (by omega)
    have i2 : (nI o).toNatClampNeg = o := nI_clamp (by omega)
    have ih := ih (h := z_up h a (zJ N (vp_updL g o v))) (o + 1) (vp_updL g o v) (z_up_s _ _ _) (by intro i hi; unfold vp_updL; split; rfl; exact hz i (by omega)) (by intro i hi; unfold vp_updL; rw [if_neg (by omega)]; exact hf i (by omega)) (by omega) (by omega)
    rw [z_up_up] at ih
    rw [eJ7_fill_d0a16_6]
    simp only [eJ7_fill_d0a16_0, eJ7_fill_d0a16_1, eJ7_fill_d0a16_2, eJ7_fill_d0a16_3, eJ7_fill_d0a16_4, eJ7_fill_d0a16_7, eJ7_fill_d0a16_9, eJ7_fill_d0a16_12, eJ7_fill_d0a16_13, eJ7_fill_d0a16_14, eJ7_fill_d0a16_15, eJ7_fill_d0a16_16, eJ7_fill_d0a16_19, eJ7_fill_d0a16_22, rJ7_fill_d0a16, zg_aload, zg_arraylength, zg_goto, zg_icmp, zg_iconst, zg_iinc, zg_iload, zg_istore, zg_lastore, zg_lload, zg_return, q10, q01, q00, ite_self, zLd_i, zLd_l, zLd_a, zInc_i, zGet_o, zGet2_s, zPut_o, zAld_i, zAll_j, zAst_i, zAsl_j, zLen_i, zLen_j, zRt_i, zRt_z, zRl2_l, zRv_n, List.getElem?_cons_zero, List.getElem?_cons_succ, List.length_cons, List.length_nil, z_set, z_set2, z_cut, List.set_cons_zero, List.set_cons_succ, Option.toList_some, Option.toList_none, List.cons_append, List.nil_append, zif, zW_ite, zfit_0, zfit_1, zfit_2, zfit_3, zisc_o, zRt_c, zRt_b, List.map_cons, List.map_nil, List.sum_cons, List.sum_nil, true_and, and_true, if_true, if_false, ite_true, ite_false, Nat.reduceLT, Nat.reduceLeDiff, Nat.reduceAdd, Nat.reduceEqDiff, eq_self, not_true_eq_false, not_false_eq_true, Nat.lt_irrefl, or_true, true_or, or_false, false_or, z_cell_lt, Value.category, c1, i1, i2, hg, ha, nI_1]
    exact ih
theorem c_fillL {f : Nat → Int64} {N : Nat} {v : Int64} (ha : a < 1000) (hN : N < 100000) (hf : h a = zJ N f) : zK (d + 1) 304 [.ref a, .long v] (h, u) Q = Q (none, (z_up h a (zJ N (fun i => if i < N then v else f i)), u)) := by
  refine zK_of (k := 1) (by omega) ?_
  refine zK_in (M := MJ7_fill_d0a16) rfl (Nat.le_of_ble_eq_true rfl) ?_
  show zW 0 MJ7_fill_d0a16 0 ([.ref a, .long v, .null, .null, .null], [], (h, u)) _
  simp only [eJ7_fill_d0a16_0, eJ7_fill_d0a16_1, eJ7_fill_d0a16_2, eJ7_fill_d0a16_3, eJ7_fill_d0a16_4, eJ7_fill_d0a16_7, eJ7_fill_d0a16_9, eJ7_fill_d0a16_12, eJ7_fill_d0a16_13, eJ7_fill_d0a16_14, eJ7_fill_d0a16_15, eJ7_fill_d0a16_16, eJ7_fill_d0a16_19, eJ7_fill_d0a16_22, rJ7_fill_d0a16, zg_aload, zg_arraylength, zg_goto, zg_icmp, zg_iconst, zg_iinc, zg_iload, zg_istore, zg_lastore, zg_lload, zg_return, q10, q01, q00, ite_self, zLd_i, zLd_l, zLd_a, zInc_i, zGet_o, zGet2_s, zPut_o, zAld_i, zAll_j, zAst_i, zAsl_j, zLen_i, zLen_j, zRt_i, zRt_z, zRl2_l, zRv_n, List.getElem?_cons_zero, List.getElem?_cons_succ, List.length_cons, List.length_nil, z_set, z_set2, z_cut, List.set_cons_zero, List.set_cons_succ, Option.toList_some, Option.toList_none, List.cons_append, List.nil_append, zif, zW_ite, zfit_0, zfit_1, zfit_2, zfit_3, zisc_o, zRt_c, zRt_b, List.map_cons, List.map_nil, List.sum_cons, List.sum_nil, true_and, and_true, if_true, if_false, ite_true, ite_false, Nat.reduceLT, Nat.reduceLeDiff, Nat.reduceAdd, Nat.reduceEqDiff, eq_self, not_true_eq_false, not_false_eq_true, Nat.lt_irrefl, or_true, true_or, or_false, false_or, z_cell_lt, Value.category, hf, ha]
  exact w_fillL ha hN N 0 f hf (by omega) (fun _ _ => rfl) (by omega) (by omega)
variable {kc ks : Nat}
theorem z_out6 {H : Nat → zE} {j x1 x2 x3 x4 x5 x6 : Nat} {e1 e2 e3 e4 e5 e6 : zE} (h1 : j ≠ x1) (h2 : j ≠ x2) (h3 : j ≠ x3) (h4 : j ≠ x4) (h5 : j ≠ x5) (h6 : j ≠ x6) : z_up (z_up (z_up (z_up (z_up (z_up H x1 e1) x2 e2) x3 e3) x4 e4) x5 e5) x6 e6 j = H j := by
  rw [z_up_n _ _ h6, z_up_n _ _ h5, z_up_n _ _ h4, z_up_n _ _ h3, z_up_n _ _ h2, z_up_n _ _ h1]
theorem c_toldNew (hb : b + 3 < 1000) (h0 : h b = zO 9 [.null, .null, .null, .int 0, .int 0, .int 0]) : zK (d + 1) 106 [.ref b] (h, (b + 1, kc, ks)) Q = Q (none, (toldSet h b 0 (fun _ => 0) (fun _ => 0) (fun _ => 0) false 0, (b + 4, kc + 3, ks + 21))) := by
  have hb0 : b < 1000 := by omega
  have hb1 : b + 1 < 1000 := by omega
  have hb2 : b + 2 < 1000 := by omega
  have n1 : ∀ (H : Nat → zE) e, z_up H (b + 1) e b = H b := fun H e => z_up_n _ _ (by omega)
  have n2 : ∀ (H : Nat → zE) e, z_up H (b + 2) e b = H b := fun H e => z_up_n _ _ (by omega)
  have n3 : ∀ (H : Nat → zE) e, z_up H (b + 3) e b = H b := fun H e => z_up_n _ _ (by omega)
  refine zK_of (k := 1) (by omega) ?_
  refine zK_in (M := MX9_init) rfl (Nat.le_of_ble_eq_true rfl) ?_
  show zW 0 MX9_init 0 ([.ref b], [], (h, (b + 1, kc, ks))) _
  simp only [eX9_init_0, eX9_init_1, eX9_init_4, eX9_init_5, eX9_init_7, eX9_init_9, eX9_init_12, eX9_init_13, eX9_init_15, eX9_init_17, eX9_init_20, eX9_init_21, eX9_init_23, eX9_init_25, eX9_init_28, rX9_init, zg_aload, zg_bipush, zg_newarray, zg_obj, zg_putfield, zg_return, q10, q01, q00, ite_self, zLd_i, zLd_l, zLd_a, zInc_i, zGet_o, zGet2_s, zPut_o, zAld_i, zAll_j, zAst_i, zAsl_j, zLen_i, zLen_j, zRt_i, zRt_z, zRl2_l, zRv_n, List.getElem?_cons_zero, List.getElem?_cons_succ, List.length_cons, List.length_nil, z_set, z_set2, z_cut, List.set_cons_zero, List.set_cons_succ, Option.toList_some, Option.toList_none, List.cons_append, List.nil_append, zif, zW_ite, zfit_0, zfit_1, zfit_2, zfit_3, zisc_o, zRt_c, zRt_b, List.map_cons, List.map_nil, List.sum_cons, List.sum_nil, true_and, and_true, if_true, if_false, ite_true, ite_false, Nat.reduceLT, Nat.reduceLeDiff, Nat.reduceAdd, Nat.reduceEqDiff, eq_self, not_true_eq_false, not_false_eq_true, Nat.lt_irrefl, or_true, true_or, or_false, false_or, z_cell_lt, Value.category, h0, hb, hb0, hb1, hb2, n1, n2, n3, z_up_s, show (7 : Int32).toNatClampNeg = 7 from by decide, show ((7 : Int32) < 0) = False from by decide, show z_a0 0 7 = zI 0 7 (fun _ => 0) from rfl, show b + 1 + 1 = b + 2 from rfl, show b + 2 + 1 = b + 3 from rfl, show b + 3 + 1 = b + 4 from rfl]
  refine congr (congrArg Prod.mk rfl) (congr (congrArg Prod.mk ?_) rfl)
  apply toldSet_of
  · intro j hj; exact z_out6 (by omega) (by omega) (by omega) (by omega) (by omega) (by omega)
  · rw [z_up_s]; rfl
  · simp [z_up]; rfl
  · simp [z_up]; rfl
  · simp [z_up]; rfl
end REST

