/-! new objects: ORDERS, COSTS, CIRCLES, GAMES, InnRegister -/
theorem eX4_init_0 {d : Nat} {S : zS} {Q : zR → Prop} : zW d MX4_init 0 S Q = zGo d MX4_init (.aload 0) z0 1 S Q := zW_step (I := .aload_n 0) rfl S Q
theorem eX4_init_1 {d : Nat} {S : zS} {Q : zR → Prop} : zW d MX4_init 1 S Q = zGo d MX4_init (.invokespecial 3) (zt 998) 4 S Q := zW_step (I := .invokespecial 3) rfl S Q
theorem eX4_init_4 {d : Nat} {S : zS} {Q : zR → Prop} : zW d MX4_init 4 S Q = zGo d MX4_init (.aload 0) z0 5 S Q := zW_step (I := .aload_n 0) rfl S Q
theorem eX4_init_5 {d : Nat} {S : zS} {Q : zR → Prop} : zW d MX4_init 5 S Q = zGo d MX4_init (.iconst 1) (zv (.int 1)) 6 S Q := zW_step (I := .iconst 1) rfl S Q
theorem eX4_init_6 {d : Nat} {S : zS} {Q : zR → Prop} : zW d MX4_init 6 S Q = zGo d MX4_init (.newarray .int) (zb 0) 8 S Q := zW_step (I := .newarray .int) rfl S Q
theorem eX4_init_8 {d : Nat} {S : zS} {Q : zR → Prop} : zW d MX4_init 8 S Q = zGo d MX4_init (.putfield 9) (zf 3 4 0) 11 S Q := zW_step (I := .putfield 9) rfl S Q
theorem eX4_init_11 {d : Nat} {S : zS} {Q : zR → Prop} : zW d MX4_init 11 S Q = zGo d MX4_init (.aload 0) z0 12 S Q := zW_step (I := .aload_n 0) rfl S Q
theorem eX4_init_12 {d : Nat} {S : zS} {Q : zR → Prop} : zW d MX4_init 12 S Q = zGo d MX4_init (.iconst 1) (zv (.int 1)) 13 S Q := zW_step (I := .iconst 1) rfl S Q
theorem eX4_init_13 {d : Nat} {S : zS} {Q : zR → Prop} : zW d MX4_init 13 S Q = zGo d MX4_init (.newarray .int) (zb 0) 15 S Q := zW_step (I := .newarray .int) rfl S Q
theorem eX4_init_15 {d : Nat} {S : zS} {Q : zR → Prop} : zW d MX4_init 15 S Q = zGo d MX4_init (.putfield 15) (zf 3 4 1) 18 S Q := zW_step (I := .putfield 15) rfl S Q
theorem eX4_init_18 {d : Nat} {S : zS} {Q : zR → Prop} : zW d MX4_init 18 S Q = zGo d MX4_init (.aload 0) z0 19 S Q := zW_step (I := .aload_n 0) rfl S Q
theorem eX4_init_19 {d : Nat} {S : zS} {Q : zR → Prop} : zW d MX4_init 19 S Q = zGo d MX4_init (.iconst 1) (zv (.int 1)) 20 S Q := zW_step (I := .iconst 1) rfl S Q
theorem eX4_init_20 {d : Nat} {S : zS} {Q : zR → Prop} : zW d MX4_init 20 S Q = zGo d MX4_init (.newarray .int) (zb 0) 22 S Q := zW_step (I := .newarray .int) rfl S Q
theorem eX4_init_22 {d : Nat} {S : zS} {Q : zR → Prop} : zW d MX4_init 22 S Q = zGo d MX4_init (.putfield 18) (zf 3 4 2) 25 S Q := zW_step (I := .putfield 18) rfl S Q
theorem eX4_init_25 {d : Nat} {S : zS} {Q : zR → Prop} : zW d MX4_init 25 S Q = zGo d MX4_init (.aload 0) z0 26 S Q := zW_step (I := .aload_n 0) rfl S Q
theorem eX4_init_26 {d : Nat} {S : zS} {Q : zR → Prop} : zW d MX4_init 26 S Q = zGo d MX4_init (.iconst 1) (zv (.int 1)) 27 S Q := zW_step (I := .iconst 1) rfl S Q
theorem eX4_init_27 {d : Nat} {S : zS} {Q : zR → Prop} : zW d MX4_init 27 S Q = zGo d MX4_init (.newarray .long) (zb 1) 29 S Q := zW_step (I := .newarray .long) rfl S Q
theorem eX4_init_29 {d : Nat} {S : zS} {Q : zR → Prop} : zW d MX4_init 29 S Q = zGo d MX4_init (.putfield 21) (zf 3 4 3) 32 S Q := zW_step (I := .putfield 21) rfl S Q
theorem eX4_init_32 {d : Nat} {S : zS} {Q : zR → Prop} : zW d MX4_init 32 S Q = zGo d MX4_init (.aload 0) z0 33 S Q := zW_step (I := .aload_n 0) rfl S Q
theorem eX4_init_33 {d : Nat} {S : zS} {Q : zR → Prop} : zW d MX4_init 33 S Q = zGo d MX4_init (.iconst 1) (zv (.int 1)) 34 S Q := zW_step (I := .iconst 1) rfl S Q
theorem eX4_init_34 {d : Nat} {S : zS} {Q : zR → Prop} : zW d MX4_init 34 S Q = zGo d MX4_init (.newarray .long) (zb 1) 36 S Q := zW_step (I := .newarray .long) rfl S Q
theorem eX4_init_36 {d : Nat} {S : zS} {Q : zR → Prop} : zW d MX4_init 36 S Q = zGo d MX4_init (.putfield 25) (zf 3 4 4) 39 S Q := zW_step (I := .putfield 25) rfl S Q
theorem eX4_init_39 {d : Nat} {S : zS} {Q : zR → Prop} : zW d MX4_init 39 S Q = zGo d MX4_init (.aload 0) z0 40 S Q := zW_step (I := .aload_n 0) rfl S Q
theorem eX4_init_40 {d : Nat} {S : zS} {Q : zR → Prop} : zW d MX4_init 40 S Q = zGo d MX4_init (.iconst 1) (zv (.int 1)) 41 S Q := zW_step (I := .iconst 1) rfl S Q
theorem eX4_init_41 {d : Nat} {S : zS} {Q : zR → Prop} : zW d MX4_init 41 S Q = zGo d MX4_init (.newarray .long) (zb 1) 43 S Q := zW_step (I := .newarray .long) rfl S Q
theorem eX4_init_43 {d : Nat} {S : zS} {Q : zR → Prop} : zW d MX4_init 43 S Q = zGo d MX4_init (.putfield 28) (zf 3 4 5) 46 S Q := zW_step (I := .putfield 28) rfl S Q
theorem eX4_init_46 {d : Nat} {S : zS} {Q : zR → Prop} : zW d MX4_init 46 S Q = zGo d MX4_init (.aload 0) z0 47 S Q := zW_step (I := .aload_n 0) rfl S Q
theorem eX4_init_47 {d : Nat} {S : zS} {Q : zR → Prop} : zW d MX4_init 47 S Q = zGo d MX4_init (.iconst 1) (zv (.int 1)) 48 S Q := zW_step (I := .iconst 1) rfl S Q
theorem eX4_init_48 {d : Nat} {S : zS} {Q : zR → Prop} : zW d MX4_init 48 S Q = zGo d MX4_init (.newarray .long) (zb 1) 50 S Q := zW_step (I := .newarray .long) rfl S Q
theorem eX4_init_50 {d : Nat} {S : zS} {Q : zR → Prop} : zW d MX4_init 50 S Q = zGo d MX4_init (.putfield 31) (zf 3 4 6) 53 S Q := zW_step (I := .putfield 31) rfl S Q
theorem eX4_init_53 {d : Nat} {S : zS} {Q : zR → Prop} : zW d MX4_init 53 S Q = zGo d MX4_init (.aload 0) z0 54 S Q := zW_step (I := .aload_n 0) rfl S Q
theorem eX4_init_54 {d : Nat} {S : zS} {Q : zR → Prop} : zW d MX4_init 54 S Q = zGo d MX4_init (.iconst 1) (zv (.int 1)) 55 S Q := zW_step (I := .iconst 1) rfl S Q
theorem eX4_init_55 {d : Nat} {S : zS} {Q : zR → Prop} : zW d MX4_init 55 S Q = zGo d MX4_init (.newarray .long) (zb 1) 57 S Q := zW_step (I := .newarray .long) rfl S Q
theorem eX4_init_57 {d : Nat} {S : zS} {Q : zR → Prop} : zW d MX4_init 57 S Q = zGo d MX4_init (.putfield 34) (zf 3 4 7) 60 S Q := zW_step (I := .putfield 34) rfl S Q
theorem eX4_init_60 {d : Nat} {S : zS} {Q : zR → Prop} : zW d MX4_init 60 S Q = zGo d MX4_init (.aload 0) z0 61 S Q := zW_step (I := .aload_n 0) rfl S Q
theorem eX4_init_61 {d : Nat} {S : zS} {Q : zR → Prop} : zW d MX4_init 61 S Q = zGo d MX4_init (.sipush 128) (zv (.int 128)) 64 S Q := zW_step (I := .sipush 128) rfl S Q
theorem eX4_init_64 {d : Nat} {S : zS} {Q : zR → Prop} : zW d MX4_init 64 S Q = zGo d MX4_init (.newarray .int) (zb 0) 66 S Q := zW_step (I := .newarray .int) rfl S Q
theorem eX4_init_66 {d : Nat} {S : zS} {Q : zR → Prop} : zW d MX4_init 66 S Q = zGo d MX4_init (.putfield 37) (zf 3 4 8) 69 S Q := zW_step (I := .putfield 37) rfl S Q
theorem eX4_init_69 {d : Nat} {S : zS} {Q : zR → Prop} : zW d MX4_init 69 S Q = zGo d MX4_init (.aload 0) z0 70 S Q := zW_step (I := .aload_n 0) rfl S Q
theorem eX4_init_70 {d : Nat} {S : zS} {Q : zR → Prop} : zW d MX4_init 70 S Q = zGo d MX4_init (.sipush 128) (zv (.int 128)) 73 S Q := zW_step (I := .sipush 128) rfl S Q
theorem eX4_init_73 {d : Nat} {S : zS} {Q : zR → Prop} : zW d MX4_init 73 S Q = zGo d MX4_init (.newarray .int) (zb 0) 75 S Q := zW_step (I := .newarray .int) rfl S Q
theorem eX4_init_75 {d : Nat} {S : zS} {Q : zR → Prop} : zW d MX4_init 75 S Q = zGo d MX4_init (.putfield 40) (zf 3 4 9) 78 S Q := zW_step (I := .putfield 40) rfl S Q
theorem eX4_init_78 {d : Nat} {S : zS} {Q : zR → Prop} : zW d MX4_init 78 S Q = zGo d MX4_init (.aload 0) z0 79 S Q := zW_step (I := .aload_n 0) rfl S Q
theorem eX4_init_79 {d : Nat} {S : zS} {Q : zR → Prop} : zW d MX4_init 79 S Q = zGo d MX4_init (.bipush 49) (zv (.int 49)) 81 S Q := zW_step (I := .bipush 49) rfl S Q
theorem eX4_init_81 {d : Nat} {S : zS} {Q : zR → Prop} : zW d MX4_init 81 S Q = zGo d MX4_init (.newarray .int) (zb 0) 83 S Q := zW_step (I := .newarray .int) rfl S Q
theorem eX4_init_83 {d : Nat} {S : zS} {Q : zR → Prop} : zW d MX4_init 83 S Q = zGo d MX4_init (.putfield 43) (zf 3 4 10) 86 S Q := zW_step (I := .putfield 43) rfl S Q
theorem eX4_init_86 {d : Nat} {S : zS} {Q : zR → Prop} : zW d MX4_init 86 S Q = zGo d MX4_init (.aload 0) z0 87 S Q := zW_step (I := .aload_n 0) rfl S Q
theorem eX4_init_87 {d : Nat} {S : zS} {Q : zR → Prop} : zW d MX4_init 87 S Q = zGo d MX4_init (.iconst (-1)) (zv (.int (-1))) 88 S Q := zW_step (I := .iconst (-1)) rfl S Q
theorem eX4_init_88 {d : Nat} {S : zS} {Q : zR → Prop} : zW d MX4_init 88 S Q = zGo d MX4_init (.putfield 46) (zf 0 4 11) 91 S Q := zW_step (I := .putfield 46) rfl S Q
theorem eX4_init_91 {d : Nat} {S : zS} {Q : zR → Prop} : zW d MX4_init 91 S Q = zGo d MX4_init (.return_) z0 92 S Q := zW_step (I := .return_) rfl S Q
theorem rX4_init : MX4_init.2.2.2.2.1 = none := rfl
theorem eX1_init_0 {d : Nat} {S : zS} {Q : zR → Prop} : zW d MX1_init 0 S Q = zGo d MX1_init (.aload 0) z0 1 S Q := zW_step (I := .aload_n 0) rfl S Q
theorem eX1_init_1 {d : Nat} {S : zS} {Q : zR → Prop} : zW d MX1_init 1 S Q = zGo d MX1_init (.invokespecial 3) (zt 998) 4 S Q := zW_step (I := .invokespecial 3) rfl S Q
theorem eX1_init_4 {d : Nat} {S : zS} {Q : zR → Prop} : zW d MX1_init 4 S Q = zGo d MX1_init (.aload 0) z0 5 S Q := zW_step (I := .aload_n 0) rfl S Q
theorem eX1_init_5 {d : Nat} {S : zS} {Q : zR → Prop} : zW d MX1_init 5 S Q = zGo d MX1_init (.iconst 1) (zv (.int 1)) 6 S Q := zW_step (I := .iconst 1) rfl S Q
theorem eX1_init_6 {d : Nat} {S : zS} {Q : zR → Prop} : zW d MX1_init 6 S Q = zGo d MX1_init (.newarray .int) (zb 0) 8 S Q := zW_step (I := .newarray .int) rfl S Q
theorem eX1_init_8 {d : Nat} {S : zS} {Q : zR → Prop} : zW d MX1_init 8 S Q = zGo d MX1_init (.putfield 9) (zf 3 1 0) 11 S Q := zW_step (I := .putfield 9) rfl S Q
theorem eX1_init_11 {d : Nat} {S : zS} {Q : zR → Prop} : zW d MX1_init 11 S Q = zGo d MX1_init (.aload 0) z0 12 S Q := zW_step (I := .aload_n 0) rfl S Q
theorem eX1_init_12 {d : Nat} {S : zS} {Q : zR → Prop} : zW d MX1_init 12 S Q = zGo d MX1_init (.sipush 896) (zv (.int 896)) 15 S Q := zW_step (I := .sipush 896) rfl S Q
theorem eX1_init_15 {d : Nat} {S : zS} {Q : zR → Prop} : zW d MX1_init 15 S Q = zGo d MX1_init (.newarray .int) (zb 0) 17 S Q := zW_step (I := .newarray .int) rfl S Q
theorem eX1_init_17 {d : Nat} {S : zS} {Q : zR → Prop} : zW d MX1_init 17 S Q = zGo d MX1_init (.putfield 15) (zf 3 1 1) 20 S Q := zW_step (I := .putfield 15) rfl S Q
theorem eX1_init_20 {d : Nat} {S : zS} {Q : zR → Prop} : zW d MX1_init 20 S Q = zGo d MX1_init (.aload 0) z0 21 S Q := zW_step (I := .aload_n 0) rfl S Q
theorem eX1_init_21 {d : Nat} {S : zS} {Q : zR → Prop} : zW d MX1_init 21 S Q = zGo d MX1_init (.bipush 7) (zv (.int 7)) 23 S Q := zW_step (I := .bipush 7) rfl S Q
theorem eX1_init_23 {d : Nat} {S : zS} {Q : zR → Prop} : zW d MX1_init 23 S Q = zGo d MX1_init (.newarray .int) (zb 0) 25 S Q := zW_step (I := .newarray .int) rfl S Q
theorem eX1_init_25 {d : Nat} {S : zS} {Q : zR → Prop} : zW d MX1_init 25 S Q = zGo d MX1_init (.putfield 18) (zf 3 1 2) 28 S Q := zW_step (I := .putfield 18) rfl S Q
theorem eX1_init_28 {d : Nat} {S : zS} {Q : zR → Prop} : zW d MX1_init 28 S Q = zGo d MX1_init (.aload 0) z0 29 S Q := zW_step (I := .aload_n 0) rfl S Q
theorem eX1_init_29 {d : Nat} {S : zS} {Q : zR → Prop} : zW d MX1_init 29 S Q = zGo d MX1_init (.bipush 7) (zv (.int 7)) 31 S Q := zW_step (I := .bipush 7) rfl S Q
theorem eX1_init_31 {d : Nat} {S : zS} {Q : zR → Prop} : zW d MX1_init 31 S Q = zGo d MX1_init (.newarray .int) (zb 0) 33 S Q := zW_step (I := .newarray .int) rfl S Q
theorem eX1_init_33 {d : Nat} {S : zS} {Q : zR → Prop} : zW d MX1_init 33 S Q = zGo d MX1_init (.putfield 21) (zf 3 1 3) 36 S Q := zW_step (I := .putfield 21) rfl S Q
theorem eX1_init_36 {d : Nat} {S : zS} {Q : zR → Prop} : zW d MX1_init 36 S Q = zGo d MX1_init (.aload 0) z0 37 S Q := zW_step (I := .aload_n 0) rfl S Q
theorem eX1_init_37 {d : Nat} {S : zS} {Q : zR → Prop} : zW d MX1_init 37 S Q = zGo d MX1_init (.bipush 7) (zv (.int 7)) 39 S Q := zW_step (I := .bipush 7) rfl S Q
theorem eX1_init_39 {d : Nat} {S : zS} {Q : zR → Prop} : zW d MX1_init 39 S Q = zGo d MX1_init (.newarray .int) (zb 0) 41 S Q := zW_step (I := .newarray .int) rfl S Q
theorem eX1_init_41 {d : Nat} {S : zS} {Q : zR → Prop} : zW d MX1_init 41 S Q = zGo d MX1_init (.putfield 24) (zf 3 1 4) 44 S Q := zW_step (I := .putfield 24) rfl S Q
theorem eX1_init_44 {d : Nat} {S : zS} {Q : zR → Prop} : zW d MX1_init 44 S Q = zGo d MX1_init (.aload 0) z0 45 S Q := zW_step (I := .aload_n 0) rfl S Q
theorem eX1_init_45 {d : Nat} {S : zS} {Q : zR → Prop} : zW d MX1_init 45 S Q = zGo d MX1_init (.bipush 7) (zv (.int 7)) 47 S Q := zW_step (I := .bipush 7) rfl S Q
theorem eX1_init_47 {d : Nat} {S : zS} {Q : zR → Prop} : zW d MX1_init 47 S Q = zGo d MX1_init (.newarray .int) (zb 0) 49 S Q := zW_step (I := .newarray .int) rfl S Q
theorem eX1_init_49 {d : Nat} {S : zS} {Q : zR → Prop} : zW d MX1_init 49 S Q = zGo d MX1_init (.putfield 27) (zf 3 1 5) 52 S Q := zW_step (I := .putfield 27) rfl S Q
theorem eX1_init_52 {d : Nat} {S : zS} {Q : zR → Prop} : zW d MX1_init 52 S Q = zGo d MX1_init (.return_) z0 53 S Q := zW_step (I := .return_) rfl S Q
theorem rX1_init : MX1_init.2.2.2.2.1 = none := rfl
theorem eX0_init_0 {d : Nat} {S : zS} {Q : zR → Prop} : zW d MX0_init 0 S Q = zGo d MX0_init (.aload 0) z0 1 S Q := zW_step (I := .aload_n 0) rfl S Q
theorem eX0_init_1 {d : Nat} {S : zS} {Q : zR → Prop} : zW d MX0_init 1 S Q = zGo d MX0_init (.invokespecial 3) (zt 998) 4 S Q := zW_step (I := .invokespecial 3) rfl S Q
theorem eX0_init_4 {d : Nat} {S : zS} {Q : zR → Prop} : zW d MX0_init 4 S Q = zGo d MX0_init (.aload 0) z0 5 S Q := zW_step (I := .aload_n 0) rfl S Q
theorem eX0_init_5 {d : Nat} {S : zS} {Q : zR → Prop} : zW d MX0_init 5 S Q = zGo d MX0_init (.bipush 7) (zv (.int 7)) 7 S Q := zW_step (I := .bipush 7) rfl S Q
theorem eX0_init_7 {d : Nat} {S : zS} {Q : zR → Prop} : zW d MX0_init 7 S Q = zGo d MX0_init (.newarray .int) (zb 0) 9 S Q := zW_step (I := .newarray .int) rfl S Q
theorem eX0_init_9 {d : Nat} {S : zS} {Q : zR → Prop} : zW d MX0_init 9 S Q = zGo d MX0_init (.putfield 9) (zf 3 0 0) 12 S Q := zW_step (I := .putfield 9) rfl S Q
theorem eX0_init_12 {d : Nat} {S : zS} {Q : zR → Prop} : zW d MX0_init 12 S Q = zGo d MX0_init (.aload 0) z0 13 S Q := zW_step (I := .aload_n 0) rfl S Q
theorem eX0_init_13 {d : Nat} {S : zS} {Q : zR → Prop} : zW d MX0_init 13 S Q = zGo d MX0_init (.bipush 7) (zv (.int 7)) 15 S Q := zW_step (I := .bipush 7) rfl S Q
theorem eX0_init_15 {d : Nat} {S : zS} {Q : zR → Prop} : zW d MX0_init 15 S Q = zGo d MX0_init (.newarray .int) (zb 0) 17 S Q := zW_step (I := .newarray .int) rfl S Q
theorem eX0_init_17 {d : Nat} {S : zS} {Q : zR → Prop} : zW d MX0_init 17 S Q = zGo d MX0_init (.putfield 15) (zf 3 0 1) 20 S Q := zW_step (I := .putfield 15) rfl S Q
theorem eX0_init_20 {d : Nat} {S : zS} {Q : zR → Prop} : zW d MX0_init 20 S Q = zGo d MX0_init (.return_) z0 21 S Q := zW_step (I := .return_) rfl S Q
theorem rX0_init : MX0_init.2.2.2.2.1 = none := rfl
theorem eX3_init_0 {d : Nat} {S : zS} {Q : zR → Prop} : zW d MX3_init 0 S Q = zGo d MX3_init (.aload 0) z0 1 S Q := zW_step (I := .aload_n 0) rfl S Q
theorem eX3_init_1 {d : Nat} {S : zS} {Q : zR → Prop} : zW d MX3_init 1 S Q = zGo d MX3_init (.invokespecial 1) (zt 998) 4 S Q := zW_step (I := .invokespecial 1) rfl S Q
theorem eX3_init_4 {d : Nat} {S : zS} {Q : zR → Prop} : zW d MX3_init 4 S Q = zGo d MX3_init (.aload 0) z0 5 S Q := zW_step (I := .aload_n 0) rfl S Q
theorem eX3_init_5 {d : Nat} {S : zS} {Q : zR → Prop} : zW d MX3_init 5 S Q = zGo d MX3_init (.bipush 61) (zv (.int 61)) 7 S Q := zW_step (I := .bipush 61) rfl S Q
theorem eX3_init_7 {d : Nat} {S : zS} {Q : zR → Prop} : zW d MX3_init 7 S Q = zGo d MX3_init (.newarray .int) (zb 0) 9 S Q := zW_step (I := .newarray .int) rfl S Q
theorem eX3_init_9 {d : Nat} {S : zS} {Q : zR → Prop} : zW d MX3_init 9 S Q = zGo d MX3_init (.putfield 7) (zf 3 3 0) 12 S Q := zW_step (I := .putfield 7) rfl S Q
theorem eX3_init_12 {d : Nat} {S : zS} {Q : zR → Prop} : zW d MX3_init 12 S Q = zGo d MX3_init (.return_) z0 13 S Q := zW_step (I := .return_) rfl S Q
theorem rX3_init : MX3_init.2.2.2.2.1 = none := rfl
theorem eX10_init_0 {d : Nat} {S : zS} {Q : zR → Prop} : zW d MX10_init 0 S Q = zGo d MX10_init (.aload 0) z0 1 S Q := zW_step (I := .aload_n 0) rfl S Q
theorem eX10_init_1 {d : Nat} {S : zS} {Q : zR → Prop} : zW d MX10_init 1 S Q = zGo d MX10_init (.invokespecial 1) (zt 998) 4 S Q := zW_step (I := .invokespecial 1) rfl S Q
theorem eX10_init_4 {d : Nat} {S : zS} {Q : zR → Prop} : zW d MX10_init 4 S Q = zGo d MX10_init (.aload 0) z0 5 S Q := zW_step (I := .aload_n 0) rfl S Q
theorem eX10_init_5 {d : Nat} {S : zS} {Q : zR → Prop} : zW d MX10_init 5 S Q = zGo d MX10_init (.new 7) (zb 8) 8 S Q := zW_step (I := .new 7) rfl S Q
theorem eX10_init_8 {d : Nat} {S : zS} {Q : zR → Prop} : zW d MX10_init 8 S Q = zGo d MX10_init (.dup) z0 9 S Q := zW_step (I := .dup) rfl S Q
theorem eX10_init_9 {d : Nat} {S : zS} {Q : zR → Prop} : zW d MX10_init 9 S Q = zGo d MX10_init (.invokespecial 9) (zc 93 1 0) 12 S Q := zW_step (I := .invokespecial 9) rfl S Q
theorem eX10_init_12 {d : Nat} {S : zS} {Q : zR → Prop} : zW d MX10_init 12 S Q = zGo d MX10_init (.putfield 10) (zf 3 10 0) 15 S Q := zW_step (I := .putfield 10) rfl S Q
theorem eX10_init_15 {d : Nat} {S : zS} {Q : zR → Prop} : zW d MX10_init 15 S Q = zGo d MX10_init (.aload 0) z0 16 S Q := zW_step (I := .aload_n 0) rfl S Q
theorem eX10_init_16 {d : Nat} {S : zS} {Q : zR → Prop} : zW d MX10_init 16 S Q = zGo d MX10_init (.new 16) (zb 9) 19 S Q := zW_step (I := .new 16) rfl S Q
theorem eX10_init_19 {d : Nat} {S : zS} {Q : zR → Prop} : zW d MX10_init 19 S Q = zGo d MX10_init (.dup) z0 20 S Q := zW_step (I := .dup) rfl S Q
theorem eX10_init_20 {d : Nat} {S : zS} {Q : zR → Prop} : zW d MX10_init 20 S Q = zGo d MX10_init (.invokespecial 18) (zc 106 1 0) 23 S Q := zW_step (I := .invokespecial 18) rfl S Q
theorem eX10_init_23 {d : Nat} {S : zS} {Q : zR → Prop} : zW d MX10_init 23 S Q = zGo d MX10_init (.putfield 19) (zf 3 10 1) 26 S Q := zW_step (I := .putfield 19) rfl S Q
theorem eX10_init_26 {d : Nat} {S : zS} {Q : zR → Prop} : zW d MX10_init 26 S Q = zGo d MX10_init (.aload 0) z0 27 S Q := zW_step (I := .aload_n 0) rfl S Q
theorem eX10_init_27 {d : Nat} {S : zS} {Q : zR → Prop} : zW d MX10_init 27 S Q = zGo d MX10_init (.new 16) (zb 9) 30 S Q := zW_step (I := .new 16) rfl S Q
theorem eX10_init_30 {d : Nat} {S : zS} {Q : zR → Prop} : zW d MX10_init 30 S Q = zGo d MX10_init (.dup) z0 31 S Q := zW_step (I := .dup) rfl S Q
theorem eX10_init_31 {d : Nat} {S : zS} {Q : zR → Prop} : zW d MX10_init 31 S Q = zGo d MX10_init (.invokespecial 18) (zc 106 1 0) 34 S Q := zW_step (I := .invokespecial 18) rfl S Q
theorem eX10_init_34 {d : Nat} {S : zS} {Q : zR → Prop} : zW d MX10_init 34 S Q = zGo d MX10_init (.putfield 23) (zf 3 10 2) 37 S Q := zW_step (I := .putfield 23) rfl S Q
theorem eX10_init_37 {d : Nat} {S : zS} {Q : zR → Prop} : zW d MX10_init 37 S Q = zGo d MX10_init (.aload 0) z0 38 S Q := zW_step (I := .aload_n 0) rfl S Q
theorem eX10_init_38 {d : Nat} {S : zS} {Q : zR → Prop} : zW d MX10_init 38 S Q = zGo d MX10_init (.new 26) (zb 5) 41 S Q := zW_step (I := .new 26) rfl S Q
theorem eX10_init_41 {d : Nat} {S : zS} {Q : zR → Prop} : zW d MX10_init 41 S Q = zGo d MX10_init (.dup) z0 42 S Q := zW_step (I := .dup) rfl S Q
theorem eX10_init_42 {d : Nat} {S : zS} {Q : zR → Prop} : zW d MX10_init 42 S Q = zGo d MX10_init (.invokespecial 28) (zc 68 1 0) 45 S Q := zW_step (I := .invokespecial 28) rfl S Q
theorem eX10_init_45 {d : Nat} {S : zS} {Q : zR → Prop} : zW d MX10_init 45 S Q = zGo d MX10_init (.putfield 29) (zf 3 10 3) 48 S Q := zW_step (I := .putfield 29) rfl S Q
theorem eX10_init_48 {d : Nat} {S : zS} {Q : zR → Prop} : zW d MX10_init 48 S Q = zGo d MX10_init (.aload 0) z0 49 S Q := zW_step (I := .aload_n 0) rfl S Q
theorem eX10_init_49 {d : Nat} {S : zS} {Q : zR → Prop} : zW d MX10_init 49 S Q = zGo d MX10_init (.new 33) (zb 6) 52 S Q := zW_step (I := .new 33) rfl S Q
theorem eX10_init_52 {d : Nat} {S : zS} {Q : zR → Prop} : zW d MX10_init 52 S Q = zGo d MX10_init (.dup) z0 53 S Q := zW_step (I := .dup) rfl S Q
theorem eX10_init_53 {d : Nat} {S : zS} {Q : zR → Prop} : zW d MX10_init 53 S Q = zGo d MX10_init (.invokespecial 35) (zc 77 1 0) 56 S Q := zW_step (I := .invokespecial 35) rfl S Q
theorem eX10_init_56 {d : Nat} {S : zS} {Q : zR → Prop} : zW d MX10_init 56 S Q = zGo d MX10_init (.putfield 36) (zf 3 10 4) 59 S Q := zW_step (I := .putfield 36) rfl S Q
theorem eX10_init_59 {d : Nat} {S : zS} {Q : zR → Prop} : zW d MX10_init 59 S Q = zGo d MX10_init (.aload 0) z0 60 S Q := zW_step (I := .aload_n 0) rfl S Q
theorem eX10_init_60 {d : Nat} {S : zS} {Q : zR → Prop} : zW d MX10_init 60 S Q = zGo d MX10_init (.new 40) (zb 2) 63 S Q := zW_step (I := .new 40) rfl S Q
theorem eX10_init_63 {d : Nat} {S : zS} {Q : zR → Prop} : zW d MX10_init 63 S Q = zGo d MX10_init (.dup) z0 64 S Q := zW_step (I := .dup) rfl S Q
theorem eX10_init_64 {d : Nat} {S : zS} {Q : zR → Prop} : zW d MX10_init 64 S Q = zGo d MX10_init (.invokespecial 42) (zc 35 1 0) 67 S Q := zW_step (I := .invokespecial 42) rfl S Q
theorem eX10_init_67 {d : Nat} {S : zS} {Q : zR → Prop} : zW d MX10_init 67 S Q = zGo d MX10_init (.putfield 43) (zf 3 10 5) 70 S Q := zW_step (I := .putfield 43) rfl S Q
theorem eX10_init_70 {d : Nat} {S : zS} {Q : zR → Prop} : zW d MX10_init 70 S Q = zGo d MX10_init (.aload 0) z0 71 S Q := zW_step (I := .aload_n 0) rfl S Q
theorem eX10_init_71 {d : Nat} {S : zS} {Q : zR → Prop} : zW d MX10_init 71 S Q = zGo d MX10_init (.new 47) (zb 4) 74 S Q := zW_step (I := .new 47) rfl S Q
theorem eX10_init_74 {d : Nat} {S : zS} {Q : zR → Prop} : zW d MX10_init 74 S Q = zGo d MX10_init (.dup) z0 75 S Q := zW_step (I := .dup) rfl S Q
theorem eX10_init_75 {d : Nat} {S : zS} {Q : zR → Prop} : zW d MX10_init 75 S Q = zGo d MX10_init (.invokespecial 49) (zc 50 1 0) 78 S Q := zW_step (I := .invokespecial 49) rfl S Q
theorem eX10_init_78 {d : Nat} {S : zS} {Q : zR → Prop} : zW d MX10_init 78 S Q = zGo d MX10_init (.putfield 50) (zf 3 10 6) 81 S Q := zW_step (I := .putfield 50) rfl S Q
theorem eX10_init_81 {d : Nat} {S : zS} {Q : zR → Prop} : zW d MX10_init 81 S Q = zGo d MX10_init (.aload 0) z0 82 S Q := zW_step (I := .aload_n 0) rfl S Q
theorem eX10_init_82 {d : Nat} {S : zS} {Q : zR → Prop} : zW d MX10_init 82 S Q = zGo d MX10_init (.new 54) (zb 1) 85 S Q := zW_step (I := .new 54) rfl S Q
theorem eX10_init_85 {d : Nat} {S : zS} {Q : zR → Prop} : zW d MX10_init 85 S Q = zGo d MX10_init (.dup) z0 86 S Q := zW_step (I := .dup) rfl S Q
theorem eX10_init_86 {d : Nat} {S : zS} {Q : zR → Prop} : zW d MX10_init 86 S Q = zGo d MX10_init (.invokespecial 56) (zc 17 1 0) 89 S Q := zW_step (I := .invokespecial 56) rfl S Q
theorem eX10_init_89 {d : Nat} {S : zS} {Q : zR → Prop} : zW d MX10_init 89 S Q = zGo d MX10_init (.putfield 57) (zf 3 10 7) 92 S Q := zW_step (I := .putfield 57) rfl S Q
theorem eX10_init_92 {d : Nat} {S : zS} {Q : zR → Prop} : zW d MX10_init 92 S Q = zGo d MX10_init (.aload 0) z0 93 S Q := zW_step (I := .aload_n 0) rfl S Q
theorem eX10_init_93 {d : Nat} {S : zS} {Q : zR → Prop} : zW d MX10_init 93 S Q = zGo d MX10_init (.new 61) (zb 0) 96 S Q := zW_step (I := .new 61) rfl S Q
theorem eX10_init_96 {d : Nat} {S : zS} {Q : zR → Prop} : zW d MX10_init 96 S Q = zGo d MX10_init (.dup) z0 97 S Q := zW_step (I := .dup) rfl S Q
theorem eX10_init_97 {d : Nat} {S : zS} {Q : zR → Prop} : zW d MX10_init 97 S Q = zGo d MX10_init (.invokespecial 63) (zc 0 1 0) 100 S Q := zW_step (I := .invokespecial 63) rfl S Q
theorem eX10_init_100 {d : Nat} {S : zS} {Q : zR → Prop} : zW d MX10_init 100 S Q = zGo d MX10_init (.putfield 64) (zf 3 10 8) 103 S Q := zW_step (I := .putfield 64) rfl S Q
theorem eX10_init_103 {d : Nat} {S : zS} {Q : zR → Prop} : zW d MX10_init 103 S Q = zGo d MX10_init (.aload 0) z0 104 S Q := zW_step (I := .aload_n 0) rfl S Q
theorem eX10_init_104 {d : Nat} {S : zS} {Q : zR → Prop} : zW d MX10_init 104 S Q = zGo d MX10_init (.new 68) (zb 3) 107 S Q := zW_step (I := .new 68) rfl S Q
theorem eX10_init_107 {d : Nat} {S : zS} {Q : zR → Prop} : zW d MX10_init 107 S Q = zGo d MX10_init (.dup) z0 108 S Q := zW_step (I := .dup) rfl S Q
theorem eX10_init_108 {d : Nat} {S : zS} {Q : zR → Prop} : zW d MX10_init 108 S Q = zGo d MX10_init (.invokespecial 70) (zc 41 1 0) 111 S Q := zW_step (I := .invokespecial 70) rfl S Q
theorem eX10_init_111 {d : Nat} {S : zS} {Q : zR → Prop} : zW d MX10_init 111 S Q = zGo d MX10_init (.putfield 71) (zf 3 10 9) 114 S Q := zW_step (I := .putfield 71) rfl S Q
theorem eX10_init_114 {d : Nat} {S : zS} {Q : zR → Prop} : zW d MX10_init 114 S Q = zGo d MX10_init (.aload 0) z0 115 S Q := zW_step (I := .aload_n 0) rfl S Q
theorem eX10_init_115 {d : Nat} {S : zS} {Q : zR → Prop} : zW d MX10_init 115 S Q = zGo d MX10_init (.new 75) (zb 7) 118 S Q := zW_step (I := .new 75) rfl S Q
theorem eX10_init_118 {d : Nat} {S : zS} {Q : zR → Prop} : zW d MX10_init 118 S Q = zGo d MX10_init (.dup) z0 119 S Q := zW_step (I := .dup) rfl S Q
theorem eX10_init_119 {d : Nat} {S : zS} {Q : zR → Prop} : zW d MX10_init 119 S Q = zGo d MX10_init (.invokespecial 77) (zc 82 1 0) 122 S Q := zW_step (I := .invokespecial 77) rfl S Q
theorem eX10_init_122 {d : Nat} {S : zS} {Q : zR → Prop} : zW d MX10_init 122 S Q = zGo d MX10_init (.putfield 78) (zf 3 10 10) 125 S Q := zW_step (I := .putfield 78) rfl S Q
theorem eX10_init_125 {d : Nat} {S : zS} {Q : zR → Prop} : zW d MX10_init 125 S Q = zGo d MX10_init (.aload 0) z0 126 S Q := zW_step (I := .aload_n 0) rfl S Q
theorem eX10_init_126 {d : Nat} {S : zS} {Q : zR → Prop} : zW d MX10_init 126 S Q = zGo d MX10_init (.new 75) (zb 7) 129 S Q := zW_step (I := .new 75) rfl S Q
theorem eX10_init_129 {d : Nat} {S : zS} {Q : zR → Prop} : zW d MX10_init 129 S Q = zGo d MX10_init (.dup) z0 130 S Q := zW_step (I := .dup) rfl S Q
theorem eX10_init_130 {d : Nat} {S : zS} {Q : zR → Prop} : zW d MX10_init 130 S Q = zGo d MX10_init (.invokespecial 77) (zc 82 1 0) 133 S Q := zW_step (I := .invokespecial 77) rfl S Q
theorem eX10_init_133 {d : Nat} {S : zS} {Q : zR → Prop} : zW d MX10_init 133 S Q = zGo d MX10_init (.putfield 82) (zf 3 10 11) 136 S Q := zW_step (I := .putfield 82) rfl S Q
theorem eX10_init_136 {d : Nat} {S : zS} {Q : zR → Prop} : zW d MX10_init 136 S Q = zGo d MX10_init (.return_) z0 137 S Q := zW_step (I := .return_) rfl S Q
theorem rX10_init : MX10_init.2.2.2.2.1 = none := rfl
section NEW2
variable {h : Nat → zE} {d kc ks : Nat} {Q : zR → Prop}
theorem zup_c {α : Type} (f : Nat → α) (a b : Nat) (v : α) : z_up f a v b = if b = a then v else f b := rfl
theorem z_a00 (N : Nat) : z_a0 0 N = zI 0 N (fun _ => 0) := rfl
theorem z_a01 (N : Nat) : z_a0 1 N = zJ N (fun _ => 0) := rfl
theorem n1_0 : ((1 : Int32) < 0) = False := by decide
theorem n7_0 : ((7 : Int32) < 0) = False := by decide
theorem n49_0 : ((49 : Int32) < 0) = False := by decide
theorem n61_0 : ((61 : Int32) < 0) = False := by decide
theorem n128_0 : ((128 : Int32) < 0) = False := by decide
theorem n896_0 : ((896 : Int32) < 0) = False := by decide
theorem c896 : (896 : Int32).toNatClampNeg = 896 := nI_clamp (n := 896) (by decide)
theorem c_ordNew (h0 : h 22 = zO 4 [.null, .null, .null, .null, .null, .null, .null, .null, .null, .null, .null, .int 0, .int 0, .int 0, .int 0]) : zK (d + 1) 50 [.ref 22] (h, (23, kc, ks)) Q = Q (none, (ordSet h 22 23 1 1 (fun _ _ => 0) (fun _ _ => 0) (fun _ _ => 0) (fun _ => 0) (-1) false 0 0, (34, kc + 1 + 1 + 1 + 1 + 1 + 1 + 1 + 1 + 1 + 1 + 1, ks + 1 + 1 + 1 + 1 + 1 + 1 + 1 + 1 + 128 + 128 + 49))) := by
  refine zK_of (k := 1) (by omega) ?_
  refine zK_in (M := MX4_init) rfl (Nat.le_of_ble_eq_true rfl) ?_
  show zW 0 MX4_init 0 ([.ref 22], [], (h, (23, kc, ks))) _
  have nn : ∀ (H : Nat → zE) (a : Nat) e, a ≠ 22 → z_up H a e 22 = H 22 := fun H a e ha => z_up_n _ _ (Ne.symm ha)
  simp (disch := first | assumption | omega | decide) only [eX4_init_0, eX4_init_1, eX4_init_4, eX4_init_5, eX4_init_6, eX4_init_8, eX4_init_11, eX4_init_12, eX4_init_13, eX4_init_15, eX4_init_18, eX4_init_19, eX4_init_20, eX4_init_22, eX4_init_25, eX4_init_26, eX4_init_27, eX4_init_29, eX4_init_32, eX4_init_33, eX4_init_34, eX4_init_36, eX4_init_39, eX4_init_40, eX4_init_41, eX4_init_43, eX4_init_46, eX4_init_47, eX4_init_48, eX4_init_50, eX4_init_53, eX4_init_54, eX4_init_55, eX4_init_57, eX4_init_60, eX4_init_61, eX4_init_64, eX4_init_66, eX4_init_69, eX4_init_70, eX4_init_73, eX4_init_75, eX4_init_78, eX4_init_79, eX4_init_81, eX4_init_83, eX4_init_86, eX4_init_87, eX4_init_88, eX4_init_91, rX4_init, zg_aload, zg_bipush, zg_iconst, zg_newarray, zg_obj, zg_putfield, zg_return, zg_sipush, q10, q01, q00, ite_self, zLd_i, zLd_l, zLd_a, zInc_i, zGet_o, zGet2_s, zPut_o, zAld_i, zAll_j, zAst_i, zAsl_j, zLen_i, zLen_j, zRt_i, zRt_z, zRl2_l, zRv_n, List.getElem?_cons_zero, List.getElem?_cons_succ, List.length_cons, List.length_nil, z_set, z_set2, z_cut, List.set_cons_zero, List.set_cons_succ, Option.toList_some, Option.toList_none, List.cons_append, List.nil_append, zif, zW_ite, zfit_0, zfit_1, zfit_2, zfit_3, zisc_o, zRt_c, zRt_b, List.map_cons, List.map_nil, List.sum_cons, List.sum_nil, true_and, and_true, if_true, if_false, ite_true, ite_false, Nat.reduceLT, Nat.reduceLeDiff, Nat.reduceAdd, Nat.reduceEqDiff, eq_self, not_true_eq_false, not_false_eq_true, Nat.lt_irrefl, or_true, true_or, or_false, false_or, z_cell_lt, Value.category, ltT, ltF, leT, leF, natT, natF, iltT, iltF, ieqT, ieqF, vpT, cl_nI, q_bit, pow_cell, z_pw_eq, nI_add, nI_mul, nI_m1, nI_dn, nI_dn0, m1_lt, lg_pos, i32_irr, q_shT, ite01, ite00, updL_z, q_upd, Bool.false_eq_true, nI_l2i, jlT_0, jlF_0, jgT_0, jgF_0, jeT_0, jeF_0, jv_0, jc_0, jm_0, jM_0, ja_0, jA_0, jlT_1, jlF_1, jgT_1, jgF_1, jeT_1, jeF_1, jv_1, jc_1, jm_1, jM_1, ja_1, jA_1, jlT_49, jlF_49, jgT_49, jgF_49, jeT_49, jeF_49, jv_49, jc_49, jm_49, jM_49, ja_49, jA_49, jlT_128, jlF_128, jgT_128, jgF_128, jeT_128, jeF_128, jv_128, jc_128, jm_128, jM_128, ja_128, jA_128, h0, nn, z_up_s, n1_0, n7_0, n49_0, n61_0, n128_0, n896_0, c896, z_a00, z_a01, Nat.reduceLeDiff]
  refine congr (congrArg Prod.mk rfl) (congr (congrArg Prod.mk ?_) rfl)
  funext j
  by_cases c0 : j = 22
  · subst c0; rfl
  by_cases c1 : j = 23
  · subst c1; rfl
  by_cases c2 : j = 24
  · subst c2; rfl
  by_cases c3 : j = 25
  · subst c3; rfl
  by_cases c4 : j = 26
  · subst c4; rfl
  by_cases c5 : j = 27
  · subst c5; rfl
  by_cases c6 : j = 28
  · subst c6; rfl
  by_cases c7 : j = 29
  · subst c7; rfl
  by_cases c8 : j = 30
  · subst c8; rfl
  by_cases c9 : j = 31
  · subst c9; rfl
  by_cases c10 : j = 32
  · subst c10; rfl
  by_cases c11 : j = 33
  · subst c11; rfl
  rw [ord_out (by omega) (by omega) (by omega)]
  simp only [z_up, c0, c1, c2, c3, c4, c5, c6, c7, c8, c9, c10, c11, if_false]
theorem c_cstNew (h0 : h 34 = zO 1 [.null, .null, .null, .null, .null, .null, .int 0]) : zK (d + 1) 17 [.ref 34] (h, (35, kc, ks)) Q = Q (none, (cstS h 34 (35, 1, (fun _ => 0), (fun _ => 0), (fun _ => 0), (fun _ => 0), (fun _ => 0), (fun _ => 0), false), (41, kc + 1 + 1 + 1 + 1 + 1 + 1, ks + 1 + 896 + 7 + 7 + 7 + 7))) := by
  refine zK_of (k := 1) (by omega) ?_
  refine zK_in (M := MX1_init) rfl (Nat.le_of_ble_eq_true rfl) ?_
  show zW 0 MX1_init 0 ([.ref 34], [], (h, (35, kc, ks))) _
  have nn : ∀ (H : Nat → zE) (a : Nat) e, a ≠ 34 → z_up H a e 34 = H 34 := fun H a e ha => z_up_n _ _ (Ne.symm ha)
  simp (disch := first | assumption | omega | decide) only [eX1_init_0, eX1_init_1, eX1_init_4, eX1_init_5, eX1_init_6, eX1_init_8, eX1_init_11, eX1_init_12, eX1_init_15, eX1_init_17, eX1_init_20, eX1_init_21, eX1_init_23, eX1_init_25, eX1_init_28, eX1_init_29, eX1_init_31, eX1_init_33, eX1_init_36, eX1_init_37, eX1_init_39, eX1_init_41, eX1_init_44, eX1_init_45, eX1_init_47, eX1_init_49, eX1_init_52, rX1_init, zg_aload, zg_bipush, zg_iconst, zg_newarray, zg_obj, zg_putfield, zg_return, zg_sipush, q10, q01, q00, ite_self, zLd_i, zLd_l, zLd_a, zInc_i, zGet_o, zGet2_s, zPut_o, zAld_i, zAll_j, zAst_i, zAsl_j, zLen_i, zLen_j, zRt_i, zRt_z, zRl2_l, zRv_n, List.getElem?_cons_zero, List.getElem?_cons_succ, List.length_cons, List.length_nil, z_set, z_set2, z_cut, List.set_cons_zero, List.set_cons_succ, Option.toList_some, Option.toList_none, List.cons_append, List.nil_append, zif, zW_ite, zfit_0, zfit_1, zfit_2, zfit_3, zisc_o, zRt_c, zRt_b, List.map_cons, List.map_nil, List.sum_cons, List.sum_nil, true_and, and_true, if_true, if_false, ite_true, ite_false, Nat.reduceLT, Nat.reduceLeDiff, Nat.reduceAdd, Nat.reduceEqDiff, eq_self, not_true_eq_false, not_false_eq_true, Nat.lt_irrefl, or_true, true_or, or_false, false_or, z_cell_lt, Value.category, ltT, ltF, leT, leF, natT, natF, iltT, iltF, ieqT, ieqF, vpT, cl_nI, q_bit, pow_cell, z_pw_eq, nI_add, nI_mul, nI_m1, nI_dn, nI_dn0, m1_lt, lg_pos, i32_irr, q_shT, ite01, ite00, updL_z, q_upd, Bool.false_eq_true, nI_l2i, jlT_0, jlF_0, jgT_0, jgF_0, jeT_0, jeF_0, jv_0, jc_0, jm_0, jM_0, ja_0, jA_0, jlT_1, jlF_1, jgT_1, jgF_1, jeT_1, jeF_1, jv_1, jc_1, jm_1, jM_1, ja_1, jA_1, jlT_7, jlF_7, jgT_7, jgF_7, jeT_7, jeF_7, jv_7, jc_7, jm_7, jM_7, ja_7, jA_7, h0, nn, z_up_s, n1_0, n7_0, n49_0, n61_0, n128_0, n896_0, c896, z_a00, z_a01, Nat.reduceLeDiff]
  refine congr (congrArg Prod.mk rfl) (congr (congrArg Prod.mk ?_) rfl)
  funext j
  by_cases c0 : j = 34
  · subst c0; rfl
  by_cases c1 : j = 35
  · subst c1; rfl
  by_cases c2 : j = 36
  · subst c2; rfl
  by_cases c3 : j = 37
  · subst c3; rfl
  by_cases c4 : j = 38
  · subst c4; rfl
  by_cases c5 : j = 39
  · subst c5; rfl
  by_cases c6 : j = 40
  · subst c6; rfl
  simp only [z_up, cstS, Nat.reduceAdd, c0, c1, c2, c3, c4, c5, c6, if_false]
theorem c_cirNew (h0 : h 41 = zO 0 [.null, .null]) : zK (d + 1) 0 [.ref 41] (h, (42, kc, ks)) Q = Q (none, (cirS h 41 ((fun _ => 0), (fun _ => 0)), (44, kc + 1 + 1, ks + 7 + 7))) := by
  refine zK_of (k := 1) (by omega) ?_
  refine zK_in (M := MX0_init) rfl (Nat.le_of_ble_eq_true rfl) ?_
  show zW 0 MX0_init 0 ([.ref 41], [], (h, (42, kc, ks))) _
  have nn : ∀ (H : Nat → zE) (a : Nat) e, a ≠ 41 → z_up H a e 41 = H 41 := fun H a e ha => z_up_n _ _ (Ne.symm ha)
  simp (disch := first | assumption | omega | decide) only [eX0_init_0, eX0_init_1, eX0_init_4, eX0_init_5, eX0_init_7, eX0_init_9, eX0_init_12, eX0_init_13, eX0_init_15, eX0_init_17, eX0_init_20, rX0_init, zg_aload, zg_bipush, zg_newarray, zg_obj, zg_putfield, zg_return, q10, q01, q00, ite_self, zLd_i, zLd_l, zLd_a, zInc_i, zGet_o, zGet2_s, zPut_o, zAld_i, zAll_j, zAst_i, zAsl_j, zLen_i, zLen_j, zRt_i, zRt_z, zRl2_l, zRv_n, List.getElem?_cons_zero, List.getElem?_cons_succ, List.length_cons, List.length_nil, z_set, z_set2, z_cut, List.set_cons_zero, List.set_cons_succ, Option.toList_some, Option.toList_none, List.cons_append, List.nil_append, zif, zW_ite, zfit_0, zfit_1, zfit_2, zfit_3, zisc_o, zRt_c, zRt_b, List.map_cons, List.map_nil, List.sum_cons, List.sum_nil, true_and, and_true, if_true, if_false, ite_true, ite_false, Nat.reduceLT, Nat.reduceLeDiff, Nat.reduceAdd, Nat.reduceEqDiff, eq_self, not_true_eq_false, not_false_eq_true, Nat.lt_irrefl, or_true, true_or, or_false, false_or, z_cell_lt, Value.category, ltT, ltF, leT, leF, natT, natF, iltT, iltF, ieqT, ieqF, vpT, cl_nI, q_bit, pow_cell, z_pw_eq, nI_add, nI_mul, nI_m1, nI_dn, nI_dn0, m1_lt, lg_pos, i32_irr, q_shT, ite01, ite00, updL_z, q_upd, Bool.false_eq_true, nI_l2i, jlT_0, jlF_0, jgT_0, jgF_0, jeT_0, jeF_0, jv_0, jc_0, jm_0, jM_0, ja_0, jA_0, jlT_1, jlF_1, jgT_1, jgF_1, jeT_1, jeF_1, jv_1, jc_1, jm_1, jM_1, ja_1, jA_1, jlT_7, jlF_7, jgT_7, jgF_7, jeT_7, jeF_7, jv_7, jc_7, jm_7, jM_7, ja_7, jA_7, h0, nn, z_up_s, n1_0, n7_0, n49_0, n61_0, n128_0, n896_0, c896, z_a00, z_a01, Nat.reduceLeDiff]
  refine congr (congrArg Prod.mk rfl) (congr (congrArg Prod.mk ?_) rfl)
  funext j
  by_cases c0 : j = 41
  · subst c0; rfl
  by_cases c1 : j = 42
  · subst c1; rfl
  by_cases c2 : j = 43
  · subst c2; rfl
  simp only [z_up, cirS, Nat.reduceAdd, c0, c1, c2, if_false]
theorem c_gamNew (h0 : h 44 = zO 3 [.null, .int 0]) : zK (d + 1) 41 [.ref 44] (h, (45, kc, ks)) Q = Q (none, (gamS h 44 ((fun _ => 0), 0), (46, kc + 1, ks + 61))) := by
  refine zK_of (k := 1) (by omega) ?_
  refine zK_in (M := MX3_init) rfl (Nat.le_of_ble_eq_true rfl) ?_
  show zW 0 MX3_init 0 ([.ref 44], [], (h, (45, kc, ks))) _
  have nn : ∀ (H : Nat → zE) (a : Nat) e, a ≠ 44 → z_up H a e 44 = H 44 := fun H a e ha => z_up_n _ _ (Ne.symm ha)
  simp (disch := first | assumption | omega | decide) only [eX3_init_0, eX3_init_1, eX3_init_4, eX3_init_5, eX3_init_7, eX3_init_9, eX3_init_12, rX3_init, zg_aload, zg_bipush, zg_newarray, zg_obj, zg_putfield, zg_return, q10, q01, q00, ite_self, zLd_i, zLd_l, zLd_a, zInc_i, zGet_o, zGet2_s, zPut_o, zAld_i, zAll_j, zAst_i, zAsl_j, zLen_i, zLen_j, zRt_i, zRt_z, zRl2_l, zRv_n, List.getElem?_cons_zero, List.getElem?_cons_succ, List.length_cons, List.length_nil, z_set, z_set2, z_cut, List.set_cons_zero, List.set_cons_succ, Option.toList_some, Option.toList_none, List.cons_append, List.nil_append, zif, zW_ite, zfit_0, zfit_1, zfit_2, zfit_3, zisc_o, zRt_c, zRt_b, List.map_cons, List.map_nil, List.sum_cons, List.sum_nil, true_and, and_true, if_true, if_false, ite_true, ite_false, Nat.reduceLT, Nat.reduceLeDiff, Nat.reduceAdd, Nat.reduceEqDiff, eq_self, not_true_eq_false, not_false_eq_true, Nat.lt_irrefl, or_true, true_or, or_false, false_or, z_cell_lt, Value.category, ltT, ltF, leT, leF, natT, natF, iltT, iltF, ieqT, ieqF, vpT, cl_nI, q_bit, pow_cell, z_pw_eq, nI_add, nI_mul, nI_m1, nI_dn, nI_dn0, m1_lt, lg_pos, i32_irr, q_shT, ite01, ite00, updL_z, q_upd, Bool.false_eq_true, nI_l2i, jlT_0, jlF_0, jgT_0, jgF_0, jeT_0, jeF_0, jv_0, jc_0, jm_0, jM_0, ja_0, jA_0, jlT_1, jlF_1, jgT_1, jgF_1, jeT_1, jeF_1, jv_1, jc_1, jm_1, jM_1, ja_1, jA_1, jlT_61, jlF_61, jgT_61, jgF_61, jeT_61, jeF_61, jv_61, jc_61, jm_61, jM_61, ja_61, jA_61, h0, nn, z_up_s, n1_0, n7_0, n49_0, n61_0, n128_0, n896_0, c896, z_a00, z_a01, Nat.reduceLeDiff]
  refine congr (congrArg Prod.mk rfl) (congr (congrArg Prod.mk ?_) rfl)
  funext j
  by_cases c0 : j = 44
  · subst c0; rfl
  by_cases c1 : j = 45
  · subst c1; rfl
  simp only [z_up, gamS, Nat.reduceAdd, c0, c1, if_false]
end NEW2

