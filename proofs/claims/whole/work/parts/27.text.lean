/-! THE TEXT -/
theorem eX8_add_0 {d : Nat} {S : zS} {Q : zR → Prop} : zW d MX8_add 0 S Q = zGo d MX8_add (.aload 0) z0 1 S Q := zW_step (I := .aload_n 0) rfl S Q
theorem eX8_add_1 {d : Nat} {S : zS} {Q : zR → Prop} : zW d MX8_add 1 S Q = zGo d MX8_add (.getfield 15) (zf 0 8 1) 4 S Q := zW_step (I := .getfield 15) rfl S Q
theorem eX8_add_4 {d : Nat} {S : zS} {Q : zR → Prop} : zW d MX8_add 4 S Q = zGo d MX8_add (.bipush 76) (zv (.int 76)) 6 S Q := zW_step (I := .bipush 76) rfl S Q
theorem eX8_add_6 {d : Nat} {S : zS} {Q : zR → Prop} : zW d MX8_add 6 S Q = zGo d MX8_add (.if_icmp .le 5) (zt 11) 9 S Q := zW_step (I := .if_icmp .le 5) rfl S Q
theorem eX8_add_9 {d : Nat} {S : zS} {Q : zR → Prop} : zW d MX8_add 9 S Q = zGo d MX8_add (.iconst (-1)) (zv (.int (-1))) 10 S Q := zW_step (I := .iconst (-1)) rfl S Q
theorem eX8_add_10 {d : Nat} {S : zS} {Q : zR → Prop} : zW d MX8_add 10 S Q = zGo d MX8_add (.ireturn) z0 11 S Q := zW_step (I := .ireturn) rfl S Q
theorem eX8_add_11 {d : Nat} {S : zS} {Q : zR → Prop} : zW d MX8_add 11 S Q = zGo d MX8_add (.bipush 24) (zv (.int 24)) 13 S Q := zW_step (I := .bipush 24) rfl S Q
theorem eX8_add_13 {d : Nat} {S : zS} {Q : zR → Prop} : zW d MX8_add 13 S Q = zGo d MX8_add (.istore 2) z0 14 S Q := zW_step (I := .istore_n 2) rfl S Q
theorem eX8_add_14 {d : Nat} {S : zS} {Q : zR → Prop} : zW d MX8_add 14 S Q = zGo d MX8_add (.iload 2) z0 15 S Q := zW_step (I := .iload_n 2) rfl S Q
theorem eX8_add_15 {d : Nat} {S : zS} {Q : zR → Prop} : zW d MX8_add 15 S Q = zGo d MX8_add (.ifCond .lt 36) (zt 51) 18 S Q := zW_step (I := .ifCond .lt 36) rfl S Q
theorem eX8_add_18 {d : Nat} {S : zS} {Q : zR → Prop} : zW d MX8_add 18 S Q = zGo d MX8_add (.aload 0) z0 19 S Q := zW_step (I := .aload_n 0) rfl S Q
theorem eX8_add_19 {d : Nat} {S : zS} {Q : zR → Prop} : zW d MX8_add 19 S Q = zGo d MX8_add (.getfield 9) (zf 3 8 0) 22 S Q := zW_step (I := .getfield 9) rfl S Q
theorem eX8_add_22 {d : Nat} {S : zS} {Q : zR → Prop} : zW d MX8_add 22 S Q = zGo d MX8_add (.aload 0) z0 23 S Q := zW_step (I := .aload_n 0) rfl S Q
theorem eX8_add_23 {d : Nat} {S : zS} {Q : zR → Prop} : zW d MX8_add 23 S Q = zGo d MX8_add (.getfield 15) (zf 0 8 1) 26 S Q := zW_step (I := .getfield 15) rfl S Q
theorem eX8_add_26 {d : Nat} {S : zS} {Q : zR → Prop} : zW d MX8_add 26 S Q = zGo d MX8_add (.iload 1) z0 27 S Q := zW_step (I := .iload_n 1) rfl S Q
theorem eX8_add_27 {d : Nat} {S : zS} {Q : zR → Prop} : zW d MX8_add 27 S Q = zGo d MX8_add (.iload 2) z0 28 S Q := zW_step (I := .iload_n 2) rfl S Q
theorem eX8_add_28 {d : Nat} {S : zS} {Q : zR → Prop} : zW d MX8_add 28 S Q = zGo d MX8_add (.iushr) z0 29 S Q := zW_step (I := .iushr) rfl S Q
theorem eX8_add_29 {d : Nat} {S : zS} {Q : zR → Prop} : zW d MX8_add 29 S Q = zGo d MX8_add (.sipush 255) (zv (.int 255)) 32 S Q := zW_step (I := .sipush 255) rfl S Q
theorem eX8_add_32 {d : Nat} {S : zS} {Q : zR → Prop} : zW d MX8_add 32 S Q = zGo d MX8_add (.iand) z0 33 S Q := zW_step (I := .iand) rfl S Q
theorem eX8_add_33 {d : Nat} {S : zS} {Q : zR → Prop} : zW d MX8_add 33 S Q = zGo d MX8_add (.i2c) z0 34 S Q := zW_step (I := .i2c) rfl S Q
theorem eX8_add_34 {d : Nat} {S : zS} {Q : zR → Prop} : zW d MX8_add 34 S Q = zGo d MX8_add (.castore) z0 35 S Q := zW_step (I := .castore) rfl S Q
theorem eX8_add_35 {d : Nat} {S : zS} {Q : zR → Prop} : zW d MX8_add 35 S Q = zGo d MX8_add (.aload 0) z0 36 S Q := zW_step (I := .aload_n 0) rfl S Q
theorem eX8_add_36 {d : Nat} {S : zS} {Q : zR → Prop} : zW d MX8_add 36 S Q = zGo d MX8_add (.dup) z0 37 S Q := zW_step (I := .dup) rfl S Q
theorem eX8_add_37 {d : Nat} {S : zS} {Q : zR → Prop} : zW d MX8_add 37 S Q = zGo d MX8_add (.getfield 15) (zf 0 8 1) 40 S Q := zW_step (I := .getfield 15) rfl S Q
theorem eX8_add_40 {d : Nat} {S : zS} {Q : zR → Prop} : zW d MX8_add 40 S Q = zGo d MX8_add (.iconst 1) (zv (.int 1)) 41 S Q := zW_step (I := .iconst 1) rfl S Q
theorem eX8_add_41 {d : Nat} {S : zS} {Q : zR → Prop} : zW d MX8_add 41 S Q = zGo d MX8_add (.iadd) z0 42 S Q := zW_step (I := .iadd) rfl S Q
theorem eX8_add_42 {d : Nat} {S : zS} {Q : zR → Prop} : zW d MX8_add 42 S Q = zGo d MX8_add (.putfield 15) (zf 0 8 1) 45 S Q := zW_step (I := .putfield 15) rfl S Q
theorem eX8_add_45 {d : Nat} {S : zS} {Q : zR → Prop} : zW d MX8_add 45 S Q = zGo d MX8_add (.iinc 2 (-8)) (zv (.int (-8))) 48 S Q := zW_step (I := .iinc 2 (-8)) rfl S Q
theorem eX8_add_48 {d : Nat} {S : zS} {Q : zR → Prop} : zW d MX8_add 48 S Q = zGo d MX8_add (.goto (-34)) (zt 14) 51 S Q := zW_step (I := .goto (-34)) rfl S Q
theorem eX8_add_51 {d : Nat} {S : zS} {Q : zR → Prop} : zW d MX8_add 51 S Q = zGo d MX8_add (.aload 0) z0 52 S Q := zW_step (I := .aload_n 0) rfl S Q
theorem eX8_add_52 {d : Nat} {S : zS} {Q : zR → Prop} : zW d MX8_add 52 S Q = zGo d MX8_add (.getfield 15) (zf 0 8 1) 55 S Q := zW_step (I := .getfield 15) rfl S Q
theorem eX8_add_55 {d : Nat} {S : zS} {Q : zR → Prop} : zW d MX8_add 55 S Q = zGo d MX8_add (.ireturn) z0 56 S Q := zW_step (I := .ireturn) rfl S Q
theorem rX8_add : MX8_add.2.2.2.2.1 = some .int := rfl
theorem eX8_cut_0 {d : Nat} {S : zS} {Q : zR → Prop} : zW d MX8_cut 0 S Q = zGo d MX8_cut (.iload 1) z0 1 S Q := zW_step (I := .iload_n 1) rfl S Q
theorem eX8_cut_1 {d : Nat} {S : zS} {Q : zR → Prop} : zW d MX8_cut 1 S Q = zGo d MX8_cut (.ifCond .lt 11) (zt 12) 4 S Q := zW_step (I := .ifCond .lt 11) rfl S Q
theorem eX8_cut_4 {d : Nat} {S : zS} {Q : zR → Prop} : zW d MX8_cut 4 S Q = zGo d MX8_cut (.iload 1) z0 5 S Q := zW_step (I := .iload_n 1) rfl S Q
theorem eX8_cut_5 {d : Nat} {S : zS} {Q : zR → Prop} : zW d MX8_cut 5 S Q = zGo d MX8_cut (.aload 0) z0 6 S Q := zW_step (I := .aload_n 0) rfl S Q
theorem eX8_cut_6 {d : Nat} {S : zS} {Q : zR → Prop} : zW d MX8_cut 6 S Q = zGo d MX8_cut (.getfield 15) (zf 0 8 1) 9 S Q := zW_step (I := .getfield 15) rfl S Q
theorem eX8_cut_9 {d : Nat} {S : zS} {Q : zR → Prop} : zW d MX8_cut 9 S Q = zGo d MX8_cut (.if_icmp .le 5) (zt 14) 12 S Q := zW_step (I := .if_icmp .le 5) rfl S Q
theorem eX8_cut_12 {d : Nat} {S : zS} {Q : zR → Prop} : zW d MX8_cut 12 S Q = zGo d MX8_cut (.iconst 0) (zv (.int 0)) 13 S Q := zW_step (I := .iconst 0) rfl S Q
theorem eX8_cut_13 {d : Nat} {S : zS} {Q : zR → Prop} : zW d MX8_cut 13 S Q = zGo d MX8_cut (.ireturn) z0 14 S Q := zW_step (I := .ireturn) rfl S Q
theorem eX8_cut_14 {d : Nat} {S : zS} {Q : zR → Prop} : zW d MX8_cut 14 S Q = zGo d MX8_cut (.aload 0) z0 15 S Q := zW_step (I := .aload_n 0) rfl S Q
theorem eX8_cut_15 {d : Nat} {S : zS} {Q : zR → Prop} : zW d MX8_cut 15 S Q = zGo d MX8_cut (.iload 1) z0 16 S Q := zW_step (I := .iload_n 1) rfl S Q
theorem eX8_cut_16 {d : Nat} {S : zS} {Q : zR → Prop} : zW d MX8_cut 16 S Q = zGo d MX8_cut (.putfield 15) (zf 0 8 1) 19 S Q := zW_step (I := .putfield 15) rfl S Q
theorem eX8_cut_19 {d : Nat} {S : zS} {Q : zR → Prop} : zW d MX8_cut 19 S Q = zGo d MX8_cut (.iconst 1) (zv (.int 1)) 20 S Q := zW_step (I := .iconst 1) rfl S Q
theorem eX8_cut_20 {d : Nat} {S : zS} {Q : zR → Prop} : zW d MX8_cut 20 S Q = zGo d MX8_cut (.ireturn) z0 21 S Q := zW_step (I := .ireturn) rfl S Q
theorem rX8_cut : MX8_cut.2.2.2.2.1 = some .boolean := rfl
theorem eX8_clear_0 {d : Nat} {S : zS} {Q : zR → Prop} : zW d MX8_clear 0 S Q = zGo d MX8_clear (.aload 0) z0 1 S Q := zW_step (I := .aload_n 0) rfl S Q
theorem eX8_clear_1 {d : Nat} {S : zS} {Q : zR → Prop} : zW d MX8_clear 1 S Q = zGo d MX8_clear (.iconst 0) (zv (.int 0)) 2 S Q := zW_step (I := .iconst 0) rfl S Q
theorem eX8_clear_2 {d : Nat} {S : zS} {Q : zR → Prop} : zW d MX8_clear 2 S Q = zGo d MX8_clear (.putfield 15) (zf 0 8 1) 5 S Q := zW_step (I := .putfield 15) rfl S Q
theorem eX8_clear_5 {d : Nat} {S : zS} {Q : zR → Prop} : zW d MX8_clear 5 S Q = zGo d MX8_clear (.return_) z0 6 S Q := zW_step (I := .return_) rfl S Q
theorem rX8_clear : MX8_clear.2.2.2.2.1 = none := rfl
theorem eX8_at_0 {d : Nat} {S : zS} {Q : zR → Prop} : zW d MX8_at 0 S Q = zGo d MX8_at (.iload 1) z0 1 S Q := zW_step (I := .iload_n 1) rfl S Q
theorem eX8_at_1 {d : Nat} {S : zS} {Q : zR → Prop} : zW d MX8_at 1 S Q = zGo d MX8_at (.ifCond .lt 20) (zt 21) 4 S Q := zW_step (I := .ifCond .lt 20) rfl S Q
theorem eX8_at_4 {d : Nat} {S : zS} {Q : zR → Prop} : zW d MX8_at 4 S Q = zGo d MX8_at (.iload 1) z0 5 S Q := zW_step (I := .iload_n 1) rfl S Q
theorem eX8_at_5 {d : Nat} {S : zS} {Q : zR → Prop} : zW d MX8_at 5 S Q = zGo d MX8_at (.aload 0) z0 6 S Q := zW_step (I := .aload_n 0) rfl S Q
theorem eX8_at_6 {d : Nat} {S : zS} {Q : zR → Prop} : zW d MX8_at 6 S Q = zGo d MX8_at (.getfield 15) (zf 0 8 1) 9 S Q := zW_step (I := .getfield 15) rfl S Q
theorem eX8_at_9 {d : Nat} {S : zS} {Q : zR → Prop} : zW d MX8_at 9 S Q = zGo d MX8_at (.if_icmp .ge 12) (zt 21) 12 S Q := zW_step (I := .if_icmp .ge 12) rfl S Q
theorem eX8_at_12 {d : Nat} {S : zS} {Q : zR → Prop} : zW d MX8_at 12 S Q = zGo d MX8_at (.aload 0) z0 13 S Q := zW_step (I := .aload_n 0) rfl S Q
theorem eX8_at_13 {d : Nat} {S : zS} {Q : zR → Prop} : zW d MX8_at 13 S Q = zGo d MX8_at (.getfield 9) (zf 3 8 0) 16 S Q := zW_step (I := .getfield 9) rfl S Q
theorem eX8_at_16 {d : Nat} {S : zS} {Q : zR → Prop} : zW d MX8_at 16 S Q = zGo d MX8_at (.iload 1) z0 17 S Q := zW_step (I := .iload_n 1) rfl S Q
theorem eX8_at_17 {d : Nat} {S : zS} {Q : zR → Prop} : zW d MX8_at 17 S Q = zGo d MX8_at (.caload) z0 18 S Q := zW_step (I := .caload) rfl S Q
theorem eX8_at_18 {d : Nat} {S : zS} {Q : zR → Prop} : zW d MX8_at 18 S Q = zGo d MX8_at (.goto 4) (zt 22) 21 S Q := zW_step (I := .goto 4) rfl S Q
theorem eX8_at_21 {d : Nat} {S : zS} {Q : zR → Prop} : zW d MX8_at 21 S Q = zGo d MX8_at (.iconst (-1)) (zv (.int (-1))) 22 S Q := zW_step (I := .iconst (-1)) rfl S Q
theorem eX8_at_22 {d : Nat} {S : zS} {Q : zR → Prop} : zW d MX8_at 22 S Q = zGo d MX8_at (.ireturn) z0 23 S Q := zW_step (I := .ireturn) rfl S Q
theorem rX8_at : MX8_at.2.2.2.2.1 = some .int := rfl
theorem eX8_digit_0 {d : Nat} {S : zS} {Q : zR → Prop} : zW d MX8_digit 0 S Q = zGo d MX8_digit (.aload 0) z0 1 S Q := zW_step (I := .aload_n 0) rfl S Q
theorem eX8_digit_1 {d : Nat} {S : zS} {Q : zR → Prop} : zW d MX8_digit 1 S Q = zGo d MX8_digit (.iload 1) z0 2 S Q := zW_step (I := .iload_n 1) rfl S Q
theorem eX8_digit_2 {d : Nat} {S : zS} {Q : zR → Prop} : zW d MX8_digit 2 S Q = zGo d MX8_digit (.invokevirtual 19) (zc 97 2 8) 5 S Q := zW_step (I := .invokevirtual 19) rfl S Q
theorem eX8_digit_5 {d : Nat} {S : zS} {Q : zR → Prop} : zW d MX8_digit 5 S Q = zGo d MX8_digit (.istore 2) z0 6 S Q := zW_step (I := .istore_n 2) rfl S Q
theorem eX8_digit_6 {d : Nat} {S : zS} {Q : zR → Prop} : zW d MX8_digit 6 S Q = zGo d MX8_digit (.iload 2) z0 7 S Q := zW_step (I := .iload_n 2) rfl S Q
theorem eX8_digit_7 {d : Nat} {S : zS} {Q : zR → Prop} : zW d MX8_digit 7 S Q = zGo d MX8_digit (.bipush 48) (zv (.int 48)) 9 S Q := zW_step (I := .bipush 48) rfl S Q
theorem eX8_digit_9 {d : Nat} {S : zS} {Q : zR → Prop} : zW d MX8_digit 9 S Q = zGo d MX8_digit (.if_icmp .lt 16) (zt 25) 12 S Q := zW_step (I := .if_icmp .lt 16) rfl S Q
theorem eX8_digit_12 {d : Nat} {S : zS} {Q : zR → Prop} : zW d MX8_digit 12 S Q = zGo d MX8_digit (.iload 2) z0 13 S Q := zW_step (I := .iload_n 2) rfl S Q
theorem eX8_digit_13 {d : Nat} {S : zS} {Q : zR → Prop} : zW d MX8_digit 13 S Q = zGo d MX8_digit (.bipush 57) (zv (.int 57)) 15 S Q := zW_step (I := .bipush 57) rfl S Q
theorem eX8_digit_15 {d : Nat} {S : zS} {Q : zR → Prop} : zW d MX8_digit 15 S Q = zGo d MX8_digit (.if_icmp .gt 10) (zt 25) 18 S Q := zW_step (I := .if_icmp .gt 10) rfl S Q
theorem eX8_digit_18 {d : Nat} {S : zS} {Q : zR → Prop} : zW d MX8_digit 18 S Q = zGo d MX8_digit (.iload 2) z0 19 S Q := zW_step (I := .iload_n 2) rfl S Q
theorem eX8_digit_19 {d : Nat} {S : zS} {Q : zR → Prop} : zW d MX8_digit 19 S Q = zGo d MX8_digit (.bipush 48) (zv (.int 48)) 21 S Q := zW_step (I := .bipush 48) rfl S Q
theorem eX8_digit_21 {d : Nat} {S : zS} {Q : zR → Prop} : zW d MX8_digit 21 S Q = zGo d MX8_digit (.isub) z0 22 S Q := zW_step (I := .isub) rfl S Q
theorem eX8_digit_22 {d : Nat} {S : zS} {Q : zR → Prop} : zW d MX8_digit 22 S Q = zGo d MX8_digit (.goto 4) (zt 26) 25 S Q := zW_step (I := .goto 4) rfl S Q
theorem eX8_digit_25 {d : Nat} {S : zS} {Q : zR → Prop} : zW d MX8_digit 25 S Q = zGo d MX8_digit (.iconst (-1)) (zv (.int (-1))) 26 S Q := zW_step (I := .iconst (-1)) rfl S Q
theorem eX8_digit_26 {d : Nat} {S : zS} {Q : zR → Prop} : zW d MX8_digit 26 S Q = zGo d MX8_digit (.ireturn) z0 27 S Q := zW_step (I := .ireturn) rfl S Q
theorem rX8_digit : MX8_digit.2.2.2.2.1 = some .int := rfl
theorem eX8_toldBy_0 {d : Nat} {S : zS} {Q : zR → Prop} : zW d MX8_toldBy 0 S Q = zGo d MX8_toldBy (.aload 0) z0 1 S Q := zW_step (I := .aload_n 0) rfl S Q
theorem eX8_toldBy_1 {d : Nat} {S : zS} {Q : zR → Prop} : zW d MX8_toldBy 1 S Q = zGo d MX8_toldBy (.iload 1) z0 2 S Q := zW_step (I := .iload_n 1) rfl S Q
theorem eX8_toldBy_2 {d : Nat} {S : zS} {Q : zR → Prop} : zW d MX8_toldBy 2 S Q = zGo d MX8_toldBy (.invokevirtual 19) (zc 97 2 8) 5 S Q := zW_step (I := .invokevirtual 19) rfl S Q
theorem eX8_toldBy_5 {d : Nat} {S : zS} {Q : zR → Prop} : zW d MX8_toldBy 5 S Q = zGo d MX8_toldBy (.lookupswitch 41 #[(43, 35), (45, 37), (63, 39)]) (46, 0, 0, .null, [(43, 40), (45, 42), (63, 44)]) 40 S Q := zW_step (I := .lookupswitch 41 #[(43, 35), (45, 37), (63, 39)]) rfl S Q
theorem eX8_toldBy_40 {d : Nat} {S : zS} {Q : zR → Prop} : zW d MX8_toldBy 40 S Q = zGo d MX8_toldBy (.iconst 1) (zv (.int 1)) 41 S Q := zW_step (I := .iconst 1) rfl S Q
theorem eX8_toldBy_41 {d : Nat} {S : zS} {Q : zR → Prop} : zW d MX8_toldBy 41 S Q = zGo d MX8_toldBy (.ireturn) z0 42 S Q := zW_step (I := .ireturn) rfl S Q
theorem eX8_toldBy_42 {d : Nat} {S : zS} {Q : zR → Prop} : zW d MX8_toldBy 42 S Q = zGo d MX8_toldBy (.iconst 0) (zv (.int 0)) 43 S Q := zW_step (I := .iconst 0) rfl S Q
theorem eX8_toldBy_43 {d : Nat} {S : zS} {Q : zR → Prop} : zW d MX8_toldBy 43 S Q = zGo d MX8_toldBy (.ireturn) z0 44 S Q := zW_step (I := .ireturn) rfl S Q
theorem eX8_toldBy_44 {d : Nat} {S : zS} {Q : zR → Prop} : zW d MX8_toldBy 44 S Q = zGo d MX8_toldBy (.iconst 2) (zv (.int 2)) 45 S Q := zW_step (I := .iconst 2) rfl S Q
theorem eX8_toldBy_45 {d : Nat} {S : zS} {Q : zR → Prop} : zW d MX8_toldBy 45 S Q = zGo d MX8_toldBy (.ireturn) z0 46 S Q := zW_step (I := .ireturn) rfl S Q
theorem eX8_toldBy_46 {d : Nat} {S : zS} {Q : zR → Prop} : zW d MX8_toldBy 46 S Q = zGo d MX8_toldBy (.iconst (-1)) (zv (.int (-1))) 47 S Q := zW_step (I := .iconst (-1)) rfl S Q
theorem eX8_toldBy_47 {d : Nat} {S : zS} {Q : zR → Prop} : zW d MX8_toldBy 47 S Q = zGo d MX8_toldBy (.ireturn) z0 48 S Q := zW_step (I := .ireturn) rfl S Q
theorem rX8_toldBy : MX8_toldBy.2.2.2.2.1 = some .int := rfl
theorem eX8_actLength_0 {d : Nat} {S : zS} {Q : zR → Prop} : zW d MX8_actLength 0 S Q = zGo d MX8_actLength (.iload 0) z0 1 S Q := zW_step (I := .iload_n 0) rfl S Q
theorem eX8_actLength_1 {d : Nat} {S : zS} {Q : zR → Prop} : zW d MX8_actLength 1 S Q = zGo d MX8_actLength (.lookupswitch 57 #[(99, 53), (104, 55), (109, 51), (114, 53), (115, 55)]) (58, 0, 0, .null, [(99, 54), (104, 56), (109, 52), (114, 54), (115, 56)]) 52 S Q := zW_step (I := .lookupswitch 57 #[(99, 53), (104, 55), (109, 51), (114, 53), (115, 55)]) rfl S Q
theorem eX8_actLength_52 {d : Nat} {S : zS} {Q : zR → Prop} : zW d MX8_actLength 52 S Q = zGo d MX8_actLength (.iconst 4) (zv (.int 4)) 53 S Q := zW_step (I := .iconst 4) rfl S Q
theorem eX8_actLength_53 {d : Nat} {S : zS} {Q : zR → Prop} : zW d MX8_actLength 53 S Q = zGo d MX8_actLength (.ireturn) z0 54 S Q := zW_step (I := .ireturn) rfl S Q
theorem eX8_actLength_54 {d : Nat} {S : zS} {Q : zR → Prop} : zW d MX8_actLength 54 S Q = zGo d MX8_actLength (.iconst 3) (zv (.int 3)) 55 S Q := zW_step (I := .iconst 3) rfl S Q
theorem eX8_actLength_55 {d : Nat} {S : zS} {Q : zR → Prop} : zW d MX8_actLength 55 S Q = zGo d MX8_actLength (.ireturn) z0 56 S Q := zW_step (I := .ireturn) rfl S Q
theorem eX8_actLength_56 {d : Nat} {S : zS} {Q : zR → Prop} : zW d MX8_actLength 56 S Q = zGo d MX8_actLength (.iconst 2) (zv (.int 2)) 57 S Q := zW_step (I := .iconst 2) rfl S Q
theorem eX8_actLength_57 {d : Nat} {S : zS} {Q : zR → Prop} : zW d MX8_actLength 57 S Q = zGo d MX8_actLength (.ireturn) z0 58 S Q := zW_step (I := .ireturn) rfl S Q
theorem eX8_actLength_58 {d : Nat} {S : zS} {Q : zR → Prop} : zW d MX8_actLength 58 S Q = zGo d MX8_actLength (.iconst 0) (zv (.int 0)) 59 S Q := zW_step (I := .iconst 0) rfl S Q
theorem eX8_actLength_59 {d : Nat} {S : zS} {Q : zR → Prop} : zW d MX8_actLength 59 S Q = zGo d MX8_actLength (.ireturn) z0 60 S Q := zW_step (I := .ireturn) rfl S Q
theorem rX8_actLength : MX8_actLength.2.2.2.2.1 = some .int := rfl
theorem eX8_goodInMeetings_0 {d : Nat} {S : zS} {Q : zR → Prop} : zW d MX8_goodInMeetings 0 S Q = zGo d MX8_goodInMeetings (.iload 1) z0 1 S Q := zW_step (I := .iload_n 1) rfl S Q
theorem eX8_goodInMeetings_1 {d : Nat} {S : zS} {Q : zR → Prop} : zW d MX8_goodInMeetings 1 S Q = zGo d MX8_goodInMeetings (.iconst 4) (zv (.int 4)) 2 S Q := zW_step (I := .iconst 4) rfl S Q
theorem eX8_goodInMeetings_2 {d : Nat} {S : zS} {Q : zR → Prop} : zW d MX8_goodInMeetings 2 S Q = zGo d MX8_goodInMeetings (.irem) z0 3 S Q := zW_step (I := .irem) rfl S Q
theorem eX8_goodInMeetings_3 {d : Nat} {S : zS} {Q : zR → Prop} : zW d MX8_goodInMeetings 3 S Q = zGo d MX8_goodInMeetings (.tableswitch 100 0 2 #[25, 48, 86]) (103, 0, 0, .null, [(0, 28), (1, 51), (2, 89)]) 28 S Q := zW_step (I := .tableswitch 100 0 2 #[25, 48, 86]) rfl S Q
theorem eX8_goodInMeetings_28 {d : Nat} {S : zS} {Q : zR → Prop} : zW d MX8_goodInMeetings 28 S Q = zGo d MX8_goodInMeetings (.aload 0) z0 29 S Q := zW_step (I := .aload_n 0) rfl S Q
theorem eX8_goodInMeetings_29 {d : Nat} {S : zS} {Q : zR → Prop} : zW d MX8_goodInMeetings 29 S Q = zGo d MX8_goodInMeetings (.iload 1) z0 30 S Q := zW_step (I := .iload_n 1) rfl S Q
theorem eX8_goodInMeetings_30 {d : Nat} {S : zS} {Q : zR → Prop} : zW d MX8_goodInMeetings 30 S Q = zGo d MX8_goodInMeetings (.invokevirtual 29) (zc 98 2 8) 33 S Q := zW_step (I := .invokevirtual 29) rfl S Q
theorem eX8_goodInMeetings_33 {d : Nat} {S : zS} {Q : zR → Prop} : zW d MX8_goodInMeetings 33 S Q = zGo d MX8_goodInMeetings (.ifCond .lt 16) (zt 49) 36 S Q := zW_step (I := .ifCond .lt 16) rfl S Q
theorem eX8_goodInMeetings_36 {d : Nat} {S : zS} {Q : zR → Prop} : zW d MX8_goodInMeetings 36 S Q = zGo d MX8_goodInMeetings (.aload 0) z0 37 S Q := zW_step (I := .aload_n 0) rfl S Q
theorem eX8_goodInMeetings_37 {d : Nat} {S : zS} {Q : zR → Prop} : zW d MX8_goodInMeetings 37 S Q = zGo d MX8_goodInMeetings (.iload 1) z0 38 S Q := zW_step (I := .iload_n 1) rfl S Q
theorem eX8_goodInMeetings_38 {d : Nat} {S : zS} {Q : zR → Prop} : zW d MX8_goodInMeetings 38 S Q = zGo d MX8_goodInMeetings (.invokevirtual 29) (zc 98 2 8) 41 S Q := zW_step (I := .invokevirtual 29) rfl S Q
theorem eX8_goodInMeetings_41 {d : Nat} {S : zS} {Q : zR → Prop} : zW d MX8_goodInMeetings 41 S Q = zGo d MX8_goodInMeetings (.iload 2) z0 42 S Q := zW_step (I := .iload_n 2) rfl S Q
theorem eX8_goodInMeetings_42 {d : Nat} {S : zS} {Q : zR → Prop} : zW d MX8_goodInMeetings 42 S Q = zGo d MX8_goodInMeetings (.if_icmp .ge 7) (zt 49) 45 S Q := zW_step (I := .if_icmp .ge 7) rfl S Q
theorem eX8_goodInMeetings_45 {d : Nat} {S : zS} {Q : zR → Prop} : zW d MX8_goodInMeetings 45 S Q = zGo d MX8_goodInMeetings (.iconst 1) (zv (.int 1)) 46 S Q := zW_step (I := .iconst 1) rfl S Q
theorem eX8_goodInMeetings_46 {d : Nat} {S : zS} {Q : zR → Prop} : zW d MX8_goodInMeetings 46 S Q = zGo d MX8_goodInMeetings (.goto 4) (zt 50) 49 S Q := zW_step (I := .goto 4) rfl S Q
theorem eX8_goodInMeetings_49 {d : Nat} {S : zS} {Q : zR → Prop} : zW d MX8_goodInMeetings 49 S Q = zGo d MX8_goodInMeetings (.iconst 0) (zv (.int 0)) 50 S Q := zW_step (I := .iconst 0) rfl S Q
theorem eX8_goodInMeetings_50 {d : Nat} {S : zS} {Q : zR → Prop} : zW d MX8_goodInMeetings 50 S Q = zGo d MX8_goodInMeetings (.ireturn) z0 51 S Q := zW_step (I := .ireturn) rfl S Q
theorem eX8_goodInMeetings_51 {d : Nat} {S : zS} {Q : zR → Prop} : zW d MX8_goodInMeetings 51 S Q = zGo d MX8_goodInMeetings (.aload 0) z0 52 S Q := zW_step (I := .aload_n 0) rfl S Q
theorem eX8_goodInMeetings_52 {d : Nat} {S : zS} {Q : zR → Prop} : zW d MX8_goodInMeetings 52 S Q = zGo d MX8_goodInMeetings (.iload 1) z0 53 S Q := zW_step (I := .iload_n 1) rfl S Q
theorem eX8_goodInMeetings_53 {d : Nat} {S : zS} {Q : zR → Prop} : zW d MX8_goodInMeetings 53 S Q = zGo d MX8_goodInMeetings (.invokevirtual 29) (zc 98 2 8) 56 S Q := zW_step (I := .invokevirtual 29) rfl S Q
theorem eX8_goodInMeetings_56 {d : Nat} {S : zS} {Q : zR → Prop} : zW d MX8_goodInMeetings 56 S Q = zGo d MX8_goodInMeetings (.ifCond .lt 31) (zt 87) 59 S Q := zW_step (I := .ifCond .lt 31) rfl S Q
theorem eX8_goodInMeetings_59 {d : Nat} {S : zS} {Q : zR → Prop} : zW d MX8_goodInMeetings 59 S Q = zGo d MX8_goodInMeetings (.aload 0) z0 60 S Q := zW_step (I := .aload_n 0) rfl S Q
theorem eX8_goodInMeetings_60 {d : Nat} {S : zS} {Q : zR → Prop} : zW d MX8_goodInMeetings 60 S Q = zGo d MX8_goodInMeetings (.iload 1) z0 61 S Q := zW_step (I := .iload_n 1) rfl S Q
theorem eX8_goodInMeetings_61 {d : Nat} {S : zS} {Q : zR → Prop} : zW d MX8_goodInMeetings 61 S Q = zGo d MX8_goodInMeetings (.invokevirtual 29) (zc 98 2 8) 64 S Q := zW_step (I := .invokevirtual 29) rfl S Q
theorem eX8_goodInMeetings_64 {d : Nat} {S : zS} {Q : zR → Prop} : zW d MX8_goodInMeetings 64 S Q = zGo d MX8_goodInMeetings (.iload 2) z0 65 S Q := zW_step (I := .iload_n 2) rfl S Q
theorem eX8_goodInMeetings_65 {d : Nat} {S : zS} {Q : zR → Prop} : zW d MX8_goodInMeetings 65 S Q = zGo d MX8_goodInMeetings (.if_icmp .ge 22) (zt 87) 68 S Q := zW_step (I := .if_icmp .ge 22) rfl S Q
theorem eX8_goodInMeetings_68 {d : Nat} {S : zS} {Q : zR → Prop} : zW d MX8_goodInMeetings 68 S Q = zGo d MX8_goodInMeetings (.aload 0) z0 69 S Q := zW_step (I := .aload_n 0) rfl S Q
theorem eX8_goodInMeetings_69 {d : Nat} {S : zS} {Q : zR → Prop} : zW d MX8_goodInMeetings 69 S Q = zGo d MX8_goodInMeetings (.iload 1) z0 70 S Q := zW_step (I := .iload_n 1) rfl S Q
theorem eX8_goodInMeetings_70 {d : Nat} {S : zS} {Q : zR → Prop} : zW d MX8_goodInMeetings 70 S Q = zGo d MX8_goodInMeetings (.invokevirtual 29) (zc 98 2 8) 73 S Q := zW_step (I := .invokevirtual 29) rfl S Q
theorem eX8_goodInMeetings_73 {d : Nat} {S : zS} {Q : zR → Prop} : zW d MX8_goodInMeetings 73 S Q = zGo d MX8_goodInMeetings (.aload 0) z0 74 S Q := zW_step (I := .aload_n 0) rfl S Q
theorem eX8_goodInMeetings_74 {d : Nat} {S : zS} {Q : zR → Prop} : zW d MX8_goodInMeetings 74 S Q = zGo d MX8_goodInMeetings (.iload 1) z0 75 S Q := zW_step (I := .iload_n 1) rfl S Q
theorem eX8_goodInMeetings_75 {d : Nat} {S : zS} {Q : zR → Prop} : zW d MX8_goodInMeetings 75 S Q = zGo d MX8_goodInMeetings (.iconst 1) (zv (.int 1)) 76 S Q := zW_step (I := .iconst 1) rfl S Q
theorem eX8_goodInMeetings_76 {d : Nat} {S : zS} {Q : zR → Prop} : zW d MX8_goodInMeetings 76 S Q = zGo d MX8_goodInMeetings (.isub) z0 77 S Q := zW_step (I := .isub) rfl S Q
theorem eX8_goodInMeetings_77 {d : Nat} {S : zS} {Q : zR → Prop} : zW d MX8_goodInMeetings 77 S Q = zGo d MX8_goodInMeetings (.invokevirtual 29) (zc 98 2 8) 80 S Q := zW_step (I := .invokevirtual 29) rfl S Q
theorem eX8_goodInMeetings_80 {d : Nat} {S : zS} {Q : zR → Prop} : zW d MX8_goodInMeetings 80 S Q = zGo d MX8_goodInMeetings (.if_icmp .eq 7) (zt 87) 83 S Q := zW_step (I := .if_icmp .eq 7) rfl S Q
theorem eX8_goodInMeetings_83 {d : Nat} {S : zS} {Q : zR → Prop} : zW d MX8_goodInMeetings 83 S Q = zGo d MX8_goodInMeetings (.iconst 1) (zv (.int 1)) 84 S Q := zW_step (I := .iconst 1) rfl S Q
theorem eX8_goodInMeetings_84 {d : Nat} {S : zS} {Q : zR → Prop} : zW d MX8_goodInMeetings 84 S Q = zGo d MX8_goodInMeetings (.goto 4) (zt 88) 87 S Q := zW_step (I := .goto 4) rfl S Q
theorem eX8_goodInMeetings_87 {d : Nat} {S : zS} {Q : zR → Prop} : zW d MX8_goodInMeetings 87 S Q = zGo d MX8_goodInMeetings (.iconst 0) (zv (.int 0)) 88 S Q := zW_step (I := .iconst 0) rfl S Q
theorem eX8_goodInMeetings_88 {d : Nat} {S : zS} {Q : zR → Prop} : zW d MX8_goodInMeetings 88 S Q = zGo d MX8_goodInMeetings (.ireturn) z0 89 S Q := zW_step (I := .ireturn) rfl S Q
theorem eX8_goodInMeetings_89 {d : Nat} {S : zS} {Q : zR → Prop} : zW d MX8_goodInMeetings 89 S Q = zGo d MX8_goodInMeetings (.aload 0) z0 90 S Q := zW_step (I := .aload_n 0) rfl S Q
theorem eX8_goodInMeetings_90 {d : Nat} {S : zS} {Q : zR → Prop} : zW d MX8_goodInMeetings 90 S Q = zGo d MX8_goodInMeetings (.iload 1) z0 91 S Q := zW_step (I := .iload_n 1) rfl S Q
theorem eX8_goodInMeetings_91 {d : Nat} {S : zS} {Q : zR → Prop} : zW d MX8_goodInMeetings 91 S Q = zGo d MX8_goodInMeetings (.invokevirtual 36) (zc 99 2 8) 94 S Q := zW_step (I := .invokevirtual 36) rfl S Q
theorem eX8_goodInMeetings_94 {d : Nat} {S : zS} {Q : zR → Prop} : zW d MX8_goodInMeetings 94 S Q = zGo d MX8_goodInMeetings (.ifCond .lt 7) (zt 101) 97 S Q := zW_step (I := .ifCond .lt 7) rfl S Q
theorem eX8_goodInMeetings_97 {d : Nat} {S : zS} {Q : zR → Prop} : zW d MX8_goodInMeetings 97 S Q = zGo d MX8_goodInMeetings (.iconst 1) (zv (.int 1)) 98 S Q := zW_step (I := .iconst 1) rfl S Q
theorem eX8_goodInMeetings_98 {d : Nat} {S : zS} {Q : zR → Prop} : zW d MX8_goodInMeetings 98 S Q = zGo d MX8_goodInMeetings (.goto 4) (zt 102) 101 S Q := zW_step (I := .goto 4) rfl S Q
theorem eX8_goodInMeetings_101 {d : Nat} {S : zS} {Q : zR → Prop} : zW d MX8_goodInMeetings 101 S Q = zGo d MX8_goodInMeetings (.iconst 0) (zv (.int 0)) 102 S Q := zW_step (I := .iconst 0) rfl S Q
theorem eX8_goodInMeetings_102 {d : Nat} {S : zS} {Q : zR → Prop} : zW d MX8_goodInMeetings 102 S Q = zGo d MX8_goodInMeetings (.ireturn) z0 103 S Q := zW_step (I := .ireturn) rfl S Q
theorem eX8_goodInMeetings_103 {d : Nat} {S : zS} {Q : zR → Prop} : zW d MX8_goodInMeetings 103 S Q = zGo d MX8_goodInMeetings (.aload 0) z0 104 S Q := zW_step (I := .aload_n 0) rfl S Q
theorem eX8_goodInMeetings_104 {d : Nat} {S : zS} {Q : zR → Prop} : zW d MX8_goodInMeetings 104 S Q = zGo d MX8_goodInMeetings (.iload 1) z0 105 S Q := zW_step (I := .iload_n 1) rfl S Q
theorem eX8_goodInMeetings_105 {d : Nat} {S : zS} {Q : zR → Prop} : zW d MX8_goodInMeetings 105 S Q = zGo d MX8_goodInMeetings (.invokevirtual 19) (zc 97 2 8) 108 S Q := zW_step (I := .invokevirtual 19) rfl S Q
theorem eX8_goodInMeetings_108 {d : Nat} {S : zS} {Q : zR → Prop} : zW d MX8_goodInMeetings 108 S Q = zGo d MX8_goodInMeetings (.bipush 59) (zv (.int 59)) 110 S Q := zW_step (I := .bipush 59) rfl S Q
theorem eX8_goodInMeetings_110 {d : Nat} {S : zS} {Q : zR → Prop} : zW d MX8_goodInMeetings 110 S Q = zGo d MX8_goodInMeetings (.if_icmp .ne 7) (zt 117) 113 S Q := zW_step (I := .if_icmp .ne 7) rfl S Q
theorem eX8_goodInMeetings_113 {d : Nat} {S : zS} {Q : zR → Prop} : zW d MX8_goodInMeetings 113 S Q = zGo d MX8_goodInMeetings (.iconst 1) (zv (.int 1)) 114 S Q := zW_step (I := .iconst 1) rfl S Q
theorem eX8_goodInMeetings_114 {d : Nat} {S : zS} {Q : zR → Prop} : zW d MX8_goodInMeetings 114 S Q = zGo d MX8_goodInMeetings (.goto 4) (zt 118) 117 S Q := zW_step (I := .goto 4) rfl S Q
theorem eX8_goodInMeetings_117 {d : Nat} {S : zS} {Q : zR → Prop} : zW d MX8_goodInMeetings 117 S Q = zGo d MX8_goodInMeetings (.iconst 0) (zv (.int 0)) 118 S Q := zW_step (I := .iconst 0) rfl S Q
theorem eX8_goodInMeetings_118 {d : Nat} {S : zS} {Q : zR → Prop} : zW d MX8_goodInMeetings 118 S Q = zGo d MX8_goodInMeetings (.ireturn) z0 119 S Q := zW_step (I := .ireturn) rfl S Q
theorem rX8_goodInMeetings : MX8_goodInMeetings.2.2.2.2.1 = some .boolean := rfl
theorem eX8_goodInStory_0 {d : Nat} {S : zS} {Q : zR → Prop} : zW d MX8_goodInStory 0 S Q = zGo d MX8_goodInStory (.aload 0) z0 1 S Q := zW_step (I := .aload_n 0) rfl S Q
theorem eX8_goodInStory_1 {d : Nat} {S : zS} {Q : zR → Prop} : zW d MX8_goodInStory 1 S Q = zGo d MX8_goodInStory (.iload 1) z0 2 S Q := zW_step (I := .iload_n 1) rfl S Q
theorem eX8_goodInStory_2 {d : Nat} {S : zS} {Q : zR → Prop} : zW d MX8_goodInStory 2 S Q = zGo d MX8_goodInStory (.invokevirtual 19) (zc 97 2 8) 5 S Q := zW_step (I := .invokevirtual 19) rfl S Q
theorem eX8_goodInStory_5 {d : Nat} {S : zS} {Q : zR → Prop} : zW d MX8_goodInStory 5 S Q = zGo d MX8_goodInStory (.istore 3) z0 6 S Q := zW_step (I := .istore_n 3) rfl S Q
theorem eX8_goodInStory_6 {d : Nat} {S : zS} {Q : zR → Prop} : zW d MX8_goodInStory 6 S Q = zGo d MX8_goodInStory (.iload 2) z0 7 S Q := zW_step (I := .iload_n 2) rfl S Q
theorem eX8_goodInStory_7 {d : Nat} {S : zS} {Q : zR → Prop} : zW d MX8_goodInStory 7 S Q = zGo d MX8_goodInStory (.iload 1) z0 8 S Q := zW_step (I := .iload_n 1) rfl S Q
theorem eX8_goodInStory_8 {d : Nat} {S : zS} {Q : zR → Prop} : zW d MX8_goodInStory 8 S Q = zGo d MX8_goodInStory (.if_icmp .ne 16) (zt 24) 11 S Q := zW_step (I := .if_icmp .ne 16) rfl S Q
theorem eX8_goodInStory_11 {d : Nat} {S : zS} {Q : zR → Prop} : zW d MX8_goodInStory 11 S Q = zGo d MX8_goodInStory (.iload 3) z0 12 S Q := zW_step (I := .iload_n 3) rfl S Q
theorem eX8_goodInStory_12 {d : Nat} {S : zS} {Q : zR → Prop} : zW d MX8_goodInStory 12 S Q = zGo d MX8_goodInStory (.invokestatic 42) (zc 105 1 0) 15 S Q := zW_step (I := .invokestatic 42) rfl S Q
theorem eX8_goodInStory_15 {d : Nat} {S : zS} {Q : zR → Prop} : zW d MX8_goodInStory 15 S Q = zGo d MX8_goodInStory (.ifCond .le 7) (zt 22) 18 S Q := zW_step (I := .ifCond .le 7) rfl S Q
theorem eX8_goodInStory_18 {d : Nat} {S : zS} {Q : zR → Prop} : zW d MX8_goodInStory 18 S Q = zGo d MX8_goodInStory (.iconst 1) (zv (.int 1)) 19 S Q := zW_step (I := .iconst 1) rfl S Q
theorem eX8_goodInStory_19 {d : Nat} {S : zS} {Q : zR → Prop} : zW d MX8_goodInStory 19 S Q = zGo d MX8_goodInStory (.goto 4) (zt 23) 22 S Q := zW_step (I := .goto 4) rfl S Q
theorem eX8_goodInStory_22 {d : Nat} {S : zS} {Q : zR → Prop} : zW d MX8_goodInStory 22 S Q = zGo d MX8_goodInStory (.iconst 0) (zv (.int 0)) 23 S Q := zW_step (I := .iconst 0) rfl S Q
theorem eX8_goodInStory_23 {d : Nat} {S : zS} {Q : zR → Prop} : zW d MX8_goodInStory 23 S Q = zGo d MX8_goodInStory (.ireturn) z0 24 S Q := zW_step (I := .ireturn) rfl S Q
theorem eX8_goodInStory_24 {d : Nat} {S : zS} {Q : zR → Prop} : zW d MX8_goodInStory 24 S Q = zGo d MX8_goodInStory (.iload 3) z0 25 S Q := zW_step (I := .iload_n 3) rfl S Q
theorem eX8_goodInStory_25 {d : Nat} {S : zS} {Q : zR → Prop} : zW d MX8_goodInStory 25 S Q = zGo d MX8_goodInStory (.bipush 109) (zv (.int 109)) 27 S Q := zW_step (I := .bipush 109) rfl S Q
theorem eX8_goodInStory_27 {d : Nat} {S : zS} {Q : zR → Prop} : zW d MX8_goodInStory 27 S Q = zGo d MX8_goodInStory (.if_icmp .ne 24) (zt 51) 30 S Q := zW_step (I := .if_icmp .ne 24) rfl S Q
theorem eX8_goodInStory_30 {d : Nat} {S : zS} {Q : zR → Prop} : zW d MX8_goodInStory 30 S Q = zGo d MX8_goodInStory (.iload 2) z0 31 S Q := zW_step (I := .iload_n 2) rfl S Q
theorem eX8_goodInStory_31 {d : Nat} {S : zS} {Q : zR → Prop} : zW d MX8_goodInStory 31 S Q = zGo d MX8_goodInStory (.iload 1) z0 32 S Q := zW_step (I := .iload_n 1) rfl S Q
theorem eX8_goodInStory_32 {d : Nat} {S : zS} {Q : zR → Prop} : zW d MX8_goodInStory 32 S Q = zGo d MX8_goodInStory (.iconst 3) (zv (.int 3)) 33 S Q := zW_step (I := .iconst 3) rfl S Q
theorem eX8_goodInStory_33 {d : Nat} {S : zS} {Q : zR → Prop} : zW d MX8_goodInStory 33 S Q = zGo d MX8_goodInStory (.iadd) z0 34 S Q := zW_step (I := .iadd) rfl S Q
theorem eX8_goodInStory_34 {d : Nat} {S : zS} {Q : zR → Prop} : zW d MX8_goodInStory 34 S Q = zGo d MX8_goodInStory (.if_icmp .ne 17) (zt 51) 37 S Q := zW_step (I := .if_icmp .ne 17) rfl S Q
theorem eX8_goodInStory_37 {d : Nat} {S : zS} {Q : zR → Prop} : zW d MX8_goodInStory 37 S Q = zGo d MX8_goodInStory (.aload 0) z0 38 S Q := zW_step (I := .aload_n 0) rfl S Q
theorem eX8_goodInStory_38 {d : Nat} {S : zS} {Q : zR → Prop} : zW d MX8_goodInStory 38 S Q = zGo d MX8_goodInStory (.iload 2) z0 39 S Q := zW_step (I := .iload_n 2) rfl S Q
theorem eX8_goodInStory_39 {d : Nat} {S : zS} {Q : zR → Prop} : zW d MX8_goodInStory 39 S Q = zGo d MX8_goodInStory (.invokevirtual 36) (zc 99 2 8) 42 S Q := zW_step (I := .invokevirtual 36) rfl S Q
theorem eX8_goodInStory_42 {d : Nat} {S : zS} {Q : zR → Prop} : zW d MX8_goodInStory 42 S Q = zGo d MX8_goodInStory (.ifCond .lt 7) (zt 49) 45 S Q := zW_step (I := .ifCond .lt 7) rfl S Q
theorem eX8_goodInStory_45 {d : Nat} {S : zS} {Q : zR → Prop} : zW d MX8_goodInStory 45 S Q = zGo d MX8_goodInStory (.iconst 1) (zv (.int 1)) 46 S Q := zW_step (I := .iconst 1) rfl S Q
theorem eX8_goodInStory_46 {d : Nat} {S : zS} {Q : zR → Prop} : zW d MX8_goodInStory 46 S Q = zGo d MX8_goodInStory (.goto 4) (zt 50) 49 S Q := zW_step (I := .goto 4) rfl S Q
theorem eX8_goodInStory_49 {d : Nat} {S : zS} {Q : zR → Prop} : zW d MX8_goodInStory 49 S Q = zGo d MX8_goodInStory (.iconst 0) (zv (.int 0)) 50 S Q := zW_step (I := .iconst 0) rfl S Q
theorem eX8_goodInStory_50 {d : Nat} {S : zS} {Q : zR → Prop} : zW d MX8_goodInStory 50 S Q = zGo d MX8_goodInStory (.ireturn) z0 51 S Q := zW_step (I := .ireturn) rfl S Q
theorem eX8_goodInStory_51 {d : Nat} {S : zS} {Q : zR → Prop} : zW d MX8_goodInStory 51 S Q = zGo d MX8_goodInStory (.aload 0) z0 52 S Q := zW_step (I := .aload_n 0) rfl S Q
theorem eX8_goodInStory_52 {d : Nat} {S : zS} {Q : zR → Prop} : zW d MX8_goodInStory 52 S Q = zGo d MX8_goodInStory (.iload 2) z0 53 S Q := zW_step (I := .iload_n 2) rfl S Q
theorem eX8_goodInStory_53 {d : Nat} {S : zS} {Q : zR → Prop} : zW d MX8_goodInStory 53 S Q = zGo d MX8_goodInStory (.invokevirtual 29) (zc 98 2 8) 56 S Q := zW_step (I := .invokevirtual 29) rfl S Q
theorem eX8_goodInStory_56 {d : Nat} {S : zS} {Q : zR → Prop} : zW d MX8_goodInStory 56 S Q = zGo d MX8_goodInStory (.ifCond .lt 22) (zt 78) 59 S Q := zW_step (I := .ifCond .lt 22) rfl S Q
theorem eX8_goodInStory_59 {d : Nat} {S : zS} {Q : zR → Prop} : zW d MX8_goodInStory 59 S Q = zGo d MX8_goodInStory (.iload 3) z0 60 S Q := zW_step (I := .iload_n 3) rfl S Q
theorem eX8_goodInStory_60 {d : Nat} {S : zS} {Q : zR → Prop} : zW d MX8_goodInStory 60 S Q = zGo d MX8_goodInStory (.bipush 115) (zv (.int 115)) 62 S Q := zW_step (I := .bipush 115) rfl S Q
theorem eX8_goodInStory_62 {d : Nat} {S : zS} {Q : zR → Prop} : zW d MX8_goodInStory 62 S Q = zGo d MX8_goodInStory (.if_icmp .ne 12) (zt 74) 65 S Q := zW_step (I := .if_icmp .ne 12) rfl S Q
theorem eX8_goodInStory_65 {d : Nat} {S : zS} {Q : zR → Prop} : zW d MX8_goodInStory 65 S Q = zGo d MX8_goodInStory (.aload 0) z0 66 S Q := zW_step (I := .aload_n 0) rfl S Q
theorem eX8_goodInStory_66 {d : Nat} {S : zS} {Q : zR → Prop} : zW d MX8_goodInStory 66 S Q = zGo d MX8_goodInStory (.iload 2) z0 67 S Q := zW_step (I := .iload_n 2) rfl S Q
theorem eX8_goodInStory_67 {d : Nat} {S : zS} {Q : zR → Prop} : zW d MX8_goodInStory 67 S Q = zGo d MX8_goodInStory (.invokevirtual 29) (zc 98 2 8) 70 S Q := zW_step (I := .invokevirtual 29) rfl S Q
theorem eX8_goodInStory_70 {d : Nat} {S : zS} {Q : zR → Prop} : zW d MX8_goodInStory 70 S Q = zGo d MX8_goodInStory (.iconst 1) (zv (.int 1)) 71 S Q := zW_step (I := .iconst 1) rfl S Q
theorem eX8_goodInStory_71 {d : Nat} {S : zS} {Q : zR → Prop} : zW d MX8_goodInStory 71 S Q = zGo d MX8_goodInStory (.if_icmp .gt 7) (zt 78) 74 S Q := zW_step (I := .if_icmp .gt 7) rfl S Q
theorem eX8_goodInStory_74 {d : Nat} {S : zS} {Q : zR → Prop} : zW d MX8_goodInStory 74 S Q = zGo d MX8_goodInStory (.iconst 1) (zv (.int 1)) 75 S Q := zW_step (I := .iconst 1) rfl S Q
theorem eX8_goodInStory_75 {d : Nat} {S : zS} {Q : zR → Prop} : zW d MX8_goodInStory 75 S Q = zGo d MX8_goodInStory (.goto 4) (zt 79) 78 S Q := zW_step (I := .goto 4) rfl S Q
theorem eX8_goodInStory_78 {d : Nat} {S : zS} {Q : zR → Prop} : zW d MX8_goodInStory 78 S Q = zGo d MX8_goodInStory (.iconst 0) (zv (.int 0)) 79 S Q := zW_step (I := .iconst 0) rfl S Q
theorem eX8_goodInStory_79 {d : Nat} {S : zS} {Q : zR → Prop} : zW d MX8_goodInStory 79 S Q = zGo d MX8_goodInStory (.ireturn) z0 80 S Q := zW_step (I := .ireturn) rfl S Q
theorem rX8_goodInStory : MX8_goodInStory.2.2.2.2.1 = some .boolean := rfl
def textAt (h : Nat → zE) (t len : Nat) (c : Nat → Nat) : Prop := t + 1 < 1000 ∧ len ≤ 80 ∧ (∀ i, c i < 256) ∧ h t = zO 8 [.ref (t + 1), .int (nI len)] ∧ h (t + 1) = zI 3 80 (fun i => nI (c i))
def textSet (h : Nat → zE) (t len : Nat) (c : Nat → Nat) : Nat → zE := fun j => if j = t then zO 8 [.ref (t + 1), .int (nI len)] else if j = t + 1 then zI 3 80 (fun i => nI (c i)) else h j
/-- a byte of an int -/
def bN (v : Int32) (s : Nat) : Nat := v.toBitVec.toNat / 2 ^ s % 256
theorem bN_lt (v : Int32) (s : Nat) : bN v s < 256 := Nat.mod_lt _ (by decide)
theorem q_c256 : ∀ m, m < 256 → ((nI m).toUInt32 % 65536).toInt32 = nI m ∧ vp_nar .char (nI m) = nI m := by decide +kernel
theorem q_bN (v sh : Int32) (s : Nat) (hs : ((sh.toUInt32 &&& Int32.toUInt32 31).toBitVec % 32).toNat = s) : (v.toUInt32 >>> (sh.toUInt32 &&& Int32.toUInt32 31)).toInt32 &&& 255 = nI (bN v s) := by
  rw [pk_and _ (m := 255) 8 (by decide), pk_ushr v sh s hs]
  rfl
/-- the sign at a place; none: -1 -/
def atV (len : Nat) (c : Nat → Nat) (p : Nat) : Int32 := if p < len then nI (c p) else -1
def dgV (len : Nat) (c : Nat → Nat) (p : Nat) : Int32 := if p < len ∧ 48 ≤ c p ∧ c p ≤ 57 then nI (c p - 48) else -1
def tbV (len : Nat) (c : Nat → Nat) (p : Nat) : Int32 := if p < len ∧ c p = 43 then 1 else if p < len ∧ c p = 45 then 0 else if p < len ∧ c p = 63 then 2 else -1
def alV (x : Int32) : Int32 := if x = 109 then 4 else if x = 99 ∨ x = 114 then 3 else if x = 104 ∨ x = 115 then 2 else 0
section TEXT
variable {h h' : Nat → zE} {t len len' : Nat} {c c' : Nat → Nat} {d : Nat} {u : zU} {Q : zR → Prop}
theorem textSet_at (ht : t + 1 < 1000) (hl : len ≤ 80) (hc : ∀ i, c i < 256) : textAt (textSet h t len c) t len c := by
  refine ⟨ht, hl, hc, ?_, ?_⟩ <;> simp [textSet]
theorem textSet_out {j : Nat} (hj : j < t ∨ t + 1 < j) : textSet h t len c j = h j := by
  unfold textSet
  rw [if_neg (by omega), if_neg (by omega)]
theorem textSet_of (ho : ∀ j, j < t ∨ t + 1 < j → h' j = h j) (h0 : h' t = zO 8 [.ref (t + 1), .int (nI len)]) (h1 : h' (t + 1) = zI 3 80 (fun i => nI (c i))) : h' = textSet h t len c := by
  funext j
  unfold textSet
  by_cases c0 : j = t
  · rw [if_pos c0, c0, h0]
  · rw [if_neg c0]
    by_cases c1 : j = t + 1
    · rw [if_pos c1, c1, h1]
    · rw [if_neg c1]
      exact ho j (by omega)
theorem textSet_self (hX : textAt h t len c) : textSet h t len c = h := (textSet_of (fun _ _ => rfl) hX.2.2.2.1 hX.2.2.2.2).symm
theorem textSet_set : textSet (textSet h t len c) t len' c' = textSet h t len' c' := by
  funext j
  unfold textSet
  by_cases c0 : j = t
  · simp [c0]
  · by_cases c1 : j = t + 1
    · simp [c1]
    · simp [c0, c1]
theorem c_tclear (hX : textAt h t len c) : zK (d + 1) 96 [.ref t] (h, u) Q = Q (none, (textSet h t 0 c, u)) := by
  obtain ⟨ht, hl, hc, h0, h1⟩ := id hX
  have ht0 : t < 1000 := by omega
  have key : z_up h t (zO 8 [.ref (t + 1), .int 0]) = textSet h t 0 c := by
    apply textSet_of
    · intro j hj; rw [z_up_n _ _ (by omega)]
    · rw [z_up_s]; rfl
    · rw [z_up_n _ _ (by omega)]; exact h1
  refine zK_of (k := 1) (by omega) ?_
  refine zK_in (M := MX8_clear) rfl (Nat.le_of_ble_eq_true rfl) ?_
  show zW 0 MX8_clear 0 ([.ref t], [], (h, u)) _
  simp only [eX8_clear_0, eX8_clear_1, eX8_clear_2, eX8_clear_5, rX8_clear, zg_aload, zg_iconst, zg_putfield, zg_return, q10, q01, q00, ite_self, zLd_i, zLd_l, zLd_a, zInc_i, zGet_o, zGet2_s, zPut_o, zAld_i, zAll_j, zAst_i, zAsl_j, zLen_i, zLen_j, zRt_i, zRt_z, zRl2_l, zRv_n, List.getElem?_cons_zero, List.getElem?_cons_succ, List.length_cons, List.length_nil, z_set, z_set2, z_cut, List.set_cons_zero, List.set_cons_succ, Option.toList_some, Option.toList_none, List.cons_append, List.nil_append, zif, zW_ite, zfit_0, zfit_1, zfit_2, zfit_3, zisc_o, zRt_c, zRt_b, List.map_cons, List.map_nil, List.sum_cons, List.sum_nil, true_and, and_true, if_true, if_false, ite_true, ite_false, Nat.reduceLT, Nat.reduceLeDiff, Nat.reduceAdd, Nat.reduceEqDiff, eq_self, not_true_eq_false, not_false_eq_true, Nat.lt_irrefl, or_true, true_or, or_false, false_or, z_cell_lt, Value.category, h0, ht0, key]
theorem c_cut_no (hX : textAt h t len c) {v : Int32} (hv : v < 0 ∨ nI len < v) : zK (d + 1) 95 [.ref t, .int v] (h, u) Q = Q (some (.int 0), (h, u)) := by
  obtain ⟨ht, hl, hc, h0, h1⟩ := id hX
  have ht0 : t < 1000 := by omega
  refine zK_of (k := 1) (by omega) ?_
  refine zK_in (M := MX8_cut) rfl (Nat.le_of_ble_eq_true rfl) ?_
  show zW 0 MX8_cut 0 ([.ref t, .int v], [], (h, u)) _
  rcases hv with q | q
  · simp only [eX8_cut_0, eX8_cut_1, eX8_cut_4, eX8_cut_5, eX8_cut_6, eX8_cut_9, eX8_cut_12, eX8_cut_13, eX8_cut_14, eX8_cut_15, eX8_cut_16, eX8_cut_19, eX8_cut_20, rX8_cut, zg_aload, zg_getfield, zg_icmp, zg_iconst, zg_if, zg_iload, zg_ireturn, zg_putfield, q10, q01, q00, ite_self, zLd_i, zLd_l, zLd_a, zInc_i, zGet_o, zGet2_s, zPut_o, zAld_i, zAll_j, zAst_i, zAsl_j, zLen_i, zLen_j, zRt_i, zRt_z, zRl2_l, zRv_n, List.getElem?_cons_zero, List.getElem?_cons_succ, List.length_cons, List.length_nil, z_set, z_set2, z_cut, List.set_cons_zero, List.set_cons_succ, Option.toList_some, Option.toList_none, List.cons_append, List.nil_append, zif, zW_ite, zfit_0, zfit_1, zfit_2, zfit_3, zisc_o, zRt_c, zRt_b, List.map_cons, List.map_nil, List.sum_cons, List.sum_nil, true_and, and_true, if_true, if_false, ite_true, ite_false, Nat.reduceLT, Nat.reduceLeDiff, Nat.reduceAdd, Nat.reduceEqDiff, eq_self, not_true_eq_false, not_false_eq_true, Nat.lt_irrefl, or_true, true_or, or_false, false_or, z_cell_lt, Value.category, h0, ht0, q]
  · simp only [eX8_cut_0, eX8_cut_1, eX8_cut_4, eX8_cut_5, eX8_cut_6, eX8_cut_9, eX8_cut_12, eX8_cut_13, eX8_cut_14, eX8_cut_15, eX8_cut_16, eX8_cut_19, eX8_cut_20, rX8_cut, zg_aload, zg_getfield, zg_icmp, zg_iconst, zg_if, zg_iload, zg_ireturn, zg_putfield, q10, q01, q00, ite_self, zLd_i, zLd_l, zLd_a, zInc_i, zGet_o, zGet2_s, zPut_o, zAld_i, zAll_j, zAst_i, zAsl_j, zLen_i, zLen_j, zRt_i, zRt_z, zRl2_l, zRv_n, List.getElem?_cons_zero, List.getElem?_cons_succ, List.length_cons, List.length_nil, z_set, z_set2, z_cut, List.set_cons_zero, List.set_cons_succ, Option.toList_some, Option.toList_none, List.cons_append, List.nil_append, zif, zW_ite, zfit_0, zfit_1, zfit_2, zfit_3, zisc_o, zRt_c, zRt_b, List.map_cons, List.map_nil, List.sum_cons, List.sum_nil, true_and, and_true, if_true, if_false, ite_true, ite_false, Nat.reduceLT, Nat.reduceLeDiff, Nat.reduceAdd, Nat.reduceEqDiff, eq_self, not_true_eq_false, not_false_eq_true, Nat.lt_irrefl, or_true, true_or, or_false, false_or, z_cell_lt, Value.category, h0, ht0, q]
theorem c_cut (hX : textAt h t len c) {v : Nat} (hv : v ≤ len) : zK (d + 1) 95 [.ref t, .int (nI v)] (h, u) Q = Q (some (.int 1), (textSet h t v c, u)) := by
  obtain ⟨ht, hl, hc, h0, h1⟩ := id hX
  have ht0 : t < 1000 := by omega
  have c1 : ¬ nI v < 0 := nI_pos (by omega)
  have c2 : ¬ nI len < nI v := nI_nlt hv (by omega)
  have key : z_up h t (zO 8 [.ref (t + 1), .int (nI v)]) = textSet h t v c := by
    apply textSet_of
    · intro j hj; rw [z_up_n _ _ (by omega)]
    · rw [z_up_s]
    · rw [z_up_n _ _ (by omega)]; exact h1
  refine zK_of (k := 1) (by omega) ?_
  refine zK_in (M := MX8_cut) rfl (Nat.le_of_ble_eq_true rfl) ?_
  show zW 0 MX8_cut 0 ([.ref t, .int (nI v)], [], (h, u)) _
  simp only [eX8_cut_0, eX8_cut_1, eX8_cut_4, eX8_cut_5, eX8_cut_6, eX8_cut_9, eX8_cut_12, eX8_cut_13, eX8_cut_14, eX8_cut_15, eX8_cut_16, eX8_cut_19, eX8_cut_20, rX8_cut, zg_aload, zg_getfield, zg_icmp, zg_iconst, zg_if, zg_iload, zg_ireturn, zg_putfield, q10, q01, q00, ite_self, zLd_i, zLd_l, zLd_a, zInc_i, zGet_o, zGet2_s, zPut_o, zAld_i, zAll_j, zAst_i, zAsl_j, zLen_i, zLen_j, zRt_i, zRt_z, zRl2_l, zRv_n, List.getElem?_cons_zero, List.getElem?_cons_succ, List.length_cons, List.length_nil, z_set, z_set2, z_cut, List.set_cons_zero, List.set_cons_succ, Option.toList_some, Option.toList_none, List.cons_append, List.nil_append, zif, zW_ite, zfit_0, zfit_1, zfit_2, zfit_3, zisc_o, zRt_c, zRt_b, List.map_cons, List.map_nil, List.sum_cons, List.sum_nil, true_and, and_true, if_true, if_false, ite_true, ite_false, Nat.reduceLT, Nat.reduceLeDiff, Nat.reduceAdd, Nat.reduceEqDiff, eq_self, not_true_eq_false, not_false_eq_true, Nat.lt_irrefl, or_true, true_or, or_false, false_or, z_cell_lt, Value.category, h0, ht0, c1, c2, key]
theorem w_tadd1 (ht : t + 1 < 1000) (hl : len < 80) (hc : ∀ i, c i < 256) {v sh : Int32} {s : Nat} (h8 : ¬ sh < 0) (hs : ((sh.toUInt32 &&& Int32.toUInt32 31).toBitVec % 32).toNat = s) (hq : zW d MX8_add 14 ([.ref t, .int v, .int (sh + (-8))], [], (textSet h t (len + 1) (z_up c len (bN v s)), u)) Q) : zW d MX8_add 14 ([.ref t, .int v, .int sh], [], (textSet h t len c, u)) Q := by
  have ht0 : t < 1000 := by omega
  have g0 : textSet h t len c t = zO 8 [.ref (t + 1), .int (nI len)] := by simp [textSet]
  have g1 : textSet h t len c (t + 1) = zI 3 80 (fun i => nI (c i)) := by simp [textSet]
  have i0 : vp_in (nI len) 80 := vp_in_nI hl (by decide)
  have j0 : (nI len).toNatClampNeg = len := nI_clamp (by omega)
  have b1 := q_c256 _ (bN_lt v s)
  have n0 : ∀ e, z_up (textSet h t len c) (t + 1) e t = zO 8 [.ref (t + 1), .int (nI len)] := fun e => by rw [z_up_n _ _ (by omega), g0]
  have key : ∀ c', z_up (z_up (textSet h t len c) (t + 1) (zI 3 80 (fun i => nI (c' i)))) t (zO 8 [.ref (t + 1), .int (nI (len + 1))]) = textSet h t (len + 1) c' := by
    intro c'
    apply textSet_of
    · intro j hj; rw [z_up_n _ _ (by omega), z_up_n _ _ (by omega), textSet_out hj]
    · rw [z_up_s]
    · rw [z_up_n _ _ (by omega), z_up_s]
  rw [eX8_add_14]
  simp only [eX8_add_0, eX8_add_1, eX8_add_4, eX8_add_6, eX8_add_9, eX8_add_10, eX8_add_11, eX8_add_13, eX8_add_15, eX8_add_18, eX8_add_19, eX8_add_22, eX8_add_23, eX8_add_26, eX8_add_27, eX8_add_28, eX8_add_29, eX8_add_32, eX8_add_33, eX8_add_34, eX8_add_35, eX8_add_36, eX8_add_37, eX8_add_40, eX8_add_41, eX8_add_42, eX8_add_45, eX8_add_48, eX8_add_51, eX8_add_52, eX8_add_55, rX8_add, zg_aload, zg_bipush, zg_castore, zg_dup, zg_getfield, zg_goto, zg_i2c, zg_iadd, zg_iand, zg_icmp, zg_iconst, zg_if, zg_iinc, zg_iload, zg_ireturn, zg_istore, zg_iushr, zg_putfield, zg_sipush, q10, q01, q00, ite_self, zLd_i, zLd_l, zLd_a, zInc_i, zGet_o, zGet2_s, zPut_o, zAld_i, zAll_j, zAst_i, zAsl_j, zLen_i, zLen_j, zRt_i, zRt_z, zRl2_l, zRv_n, List.getElem?_cons_zero, List.getElem?_cons_succ, List.length_cons, List.length_nil, z_set, z_set2, z_cut, List.set_cons_zero, List.set_cons_succ, Option.toList_some, Option.toList_none, List.cons_append, List.nil_append, zif, zW_ite, zfit_0, zfit_1, zfit_2, zfit_3, zisc_o, zRt_c, zRt_b, List.map_cons, List.map_nil, List.sum_cons, List.sum_nil, true_and, and_true, if_true, if_false, ite_true, ite_false, Nat.reduceLT, Nat.reduceLeDiff, Nat.reduceAdd, Nat.reduceEqDiff, eq_self, not_true_eq_false, not_false_eq_true, Nat.lt_irrefl, or_true, true_or, or_false, false_or, z_cell_lt, Value.category, g0, g1, ht0, ht, h8, i0, j0, n0, q_bN v sh s hs, b1.1, b1.2, q_upd, nI_1, key]
  exact hq
theorem c_tadd_no (hX : textAt h t len c) (hl : 76 < len) {v : Int32} : zK (d + 1) 94 [.ref t, .int v] (h, u) Q = Q (some (.int (-1)), (h, u)) := by
  obtain ⟨ht, hl2, hc, h0, h1⟩ := id hX
  have ht0 : t < 1000 := by omega
  have c1 : (76 : Int32) < nI len := nI_lt (a := 76) hl (by omega)
  refine zK_of (k := 1) (by omega) ?_
  refine zK_in (M := MX8_add) rfl (Nat.le_of_ble_eq_true rfl) ?_
  show zW 0 MX8_add 0 ([.ref t, .int v, .null], [], (h, u)) _
  simp only [eX8_add_0, eX8_add_1, eX8_add_4, eX8_add_6, eX8_add_9, eX8_add_10, eX8_add_11, eX8_add_13, eX8_add_15, eX8_add_18, eX8_add_19, eX8_add_22, eX8_add_23, eX8_add_26, eX8_add_27, eX8_add_28, eX8_add_29, eX8_add_32, eX8_add_33, eX8_add_34, eX8_add_35, eX8_add_36, eX8_add_37, eX8_add_40, eX8_add_41, eX8_add_42, eX8_add_45, eX8_add_48, eX8_add_51, eX8_add_52, eX8_add_55, rX8_add, zg_aload, zg_bipush, zg_castore, zg_dup, zg_getfield, zg_goto, zg_i2c, zg_iadd, zg_iand, zg_icmp, zg_iconst, zg_if, zg_iinc, zg_iload, zg_ireturn, zg_istore, zg_iushr, zg_putfield, zg_sipush, q10, q01, q00, ite_self, zLd_i, zLd_l, zLd_a, zInc_i, zGet_o, zGet2_s, zPut_o, zAld_i, zAll_j, zAst_i, zAsl_j, zLen_i, zLen_j, zRt_i, zRt_z, zRl2_l, zRv_n, List.getElem?_cons_zero, List.getElem?_cons_succ, List.length_cons, List.length_nil, z_set, z_set2, z_cut, List.set_cons_zero, List.set_cons_succ, Option.toList_some, Option.toList_none, List.cons_append, List.nil_append, zif, zW_ite, zfit_0, zfit_1, zfit_2, zfit_3, zisc_o, zRt_c, zRt_b, List.map_cons, List.map_nil, List.sum_cons, List.sum_nil, true_and, and_true, if_true, if_false, ite_true, ite_false, Nat.reduceLT, Nat.reduceLeDiff, Nat.reduceAdd, Nat.reduceEqDiff, eq_self, not_true_eq_false, not_false_eq_true, Nat.lt_irrefl, or_true, true_or, or_false, false_or, z_cell_lt, Value.category, h0, ht0, c1]
/-- four signs more -/
def c4 (c : Nat → Nat) (len : Nat) (v : Int32) : Nat → Nat := z_up (z_up (z_up (z_up c len (bN v 24)) (len + 1) (bN v 16)) (len + 2) (bN v 8)) (len + 3) (bN v 0)
theorem c_tadd (hX : textAt h t len c) (hl : len ≤ 76) {v : Int32} : zK (d + 1) 94 [.ref t, .int v] (h, u) Q = Q (some (.int (nI (len + 4))), (textSet h t (len + 4) (c4 c len v), u)) := by
  obtain ⟨ht, hl2, hc, h0, h1⟩ := id hX
  have ht0 : t < 1000 := by omega
  have c1 : ¬ (76 : Int32) < nI len := nI_nlt (b := len) (a := 76) hl (by decide)
  have k1 : ∀ i, z_up c len (bN v 24) i < 256 := z_up_lt2 hc (bN_lt _ _)
  have k2 : ∀ i, z_up (z_up c len (bN v 24)) (len + 1) (bN v 16) i < 256 := z_up_lt2 k1 (bN_lt _ _)
  have k3 : ∀ i, z_up (z_up (z_up c len (bN v 24)) (len + 1) (bN v 16)) (len + 2) (bN v 8) i < 256 := z_up_lt2 k2 (bN_lt _ _)
  refine zK_of (k := 1) (by omega) ?_
  refine zK_in (M := MX8_add) rfl (Nat.le_of_ble_eq_true rfl) ?_
  show zW 0 MX8_add 0 ([.ref t, .int v, .null], [], (h, u)) _
  simp only [eX8_add_0, eX8_add_1, eX8_add_4, eX8_add_6, eX8_add_9, eX8_add_10, eX8_add_11, eX8_add_13, eX8_add_15, eX8_add_18, eX8_add_19, eX8_add_22, eX8_add_23, eX8_add_26, eX8_add_27, eX8_add_28, eX8_add_29, eX8_add_32, eX8_add_33, eX8_add_34, eX8_add_35, eX8_add_36, eX8_add_37, eX8_add_40, eX8_add_41, eX8_add_42, eX8_add_45, eX8_add_48, eX8_add_51, eX8_add_52, eX8_add_55, rX8_add, zg_aload, zg_bipush, zg_castore, zg_dup, zg_getfield, zg_goto, zg_i2c, zg_iadd, zg_iand, zg_icmp, zg_iconst, zg_if, zg_iinc, zg_iload, zg_ireturn, zg_istore, zg_iushr, zg_putfield, zg_sipush, q10, q01, q00, ite_self, zLd_i, zLd_l, zLd_a, zInc_i, zGet_o, zGet2_s, zPut_o, zAld_i, zAll_j, zAst_i, zAsl_j, zLen_i, zLen_j, zRt_i, zRt_z, zRl2_l, zRv_n, List.getElem?_cons_zero, List.getElem?_cons_succ, List.length_cons, List.length_nil, z_set, z_set2, z_cut, List.set_cons_zero, List.set_cons_succ, Option.toList_some, Option.toList_none, List.cons_append, List.nil_append, zif, zW_ite, zfit_0, zfit_1, zfit_2, zfit_3, zisc_o, zRt_c, zRt_b, List.map_cons, List.map_nil, List.sum_cons, List.sum_nil, true_and, and_true, if_true, if_false, ite_true, ite_false, Nat.reduceLT, Nat.reduceLeDiff, Nat.reduceAdd, Nat.reduceEqDiff, eq_self, not_true_eq_false, not_false_eq_true, Nat.lt_irrefl, or_true, true_or, or_false, false_or, z_cell_lt, Value.category, h0, ht0, c1]
  rw [← textSet_self hX]
  refine w_tadd1 (s := 24) ht (by omega) hc (by decide) (by decide) ?_
  refine w_tadd1 (s := 16) ht (by omega) k1 (by decide) (by decide) ?_
  refine w_tadd1 (s := 8) ht (by omega) k2 (by decide) (by decide) ?_
  refine w_tadd1 (s := 0) ht (by omega) k3 (by decide) (by decide) ?_
  rw [eX8_add_14]
  have g0 : ∀ l c', textSet h t l c' t = zO 8 [.ref (t + 1), .int (nI l)] := fun l c' => by simp [textSet]
  simp only [eX8_add_0, eX8_add_1, eX8_add_4, eX8_add_6, eX8_add_9, eX8_add_10, eX8_add_11, eX8_add_13, eX8_add_15, eX8_add_18, eX8_add_19, eX8_add_22, eX8_add_23, eX8_add_26, eX8_add_27, eX8_add_28, eX8_add_29, eX8_add_32, eX8_add_33, eX8_add_34, eX8_add_35, eX8_add_36, eX8_add_37, eX8_add_40, eX8_add_41, eX8_add_42, eX8_add_45, eX8_add_48, eX8_add_51, eX8_add_52, eX8_add_55, rX8_add, zg_aload, zg_bipush, zg_castore, zg_dup, zg_getfield, zg_goto, zg_i2c, zg_iadd, zg_iand, zg_icmp, zg_iconst, zg_if, zg_iinc, zg_iload, zg_ireturn, zg_istore, zg_iushr, zg_putfield, zg_sipush, q10, q01, q00, ite_self, zLd_i, zLd_l, zLd_a, zInc_i, zGet_o, zGet2_s, zPut_o, zAld_i, zAll_j, zAst_i, zAsl_j, zLen_i, zLen_j, zRt_i, zRt_z, zRl2_l, zRv_n, List.getElem?_cons_zero, List.getElem?_cons_succ, List.length_cons, List.length_nil, z_set, z_set2, z_cut, List.set_cons_zero, List.set_cons_succ, Option.toList_some, Option.toList_none, List.cons_append, List.nil_append, zif, zW_ite, zfit_0, zfit_1, zfit_2, zfit_3, zisc_o, zRt_c, zRt_b, List.map_cons, List.map_nil, List.sum_cons, List.sum_nil, true_and, and_true, if_true, if_false, ite_true, ite_false, Nat.reduceLT, Nat.reduceLeDiff, Nat.reduceAdd, Nat.reduceEqDiff, eq_self, not_true_eq_false, not_false_eq_true, Nat.lt_irrefl, or_true, true_or, or_false, false_or, z_cell_lt, Value.category, g0, ht0, show ((24 : Int32) + -8 + -8 + -8 + -8 < 0) = True from by decide, textSet_self hX]
  rfl
theorem c_at (hX : textAt h t len c) {p : Nat} (hp : p < 1000) : zK (d + 1) 97 [.ref t, .int (nI p)] (h, u) Q = Q (some (.int (atV len c p)), (h, u)) := by
  obtain ⟨ht, hl2, hc, h0, h1⟩ := id hX
  have ht0 : t < 1000 := by omega
  have c1 : ¬ nI p < 0 := nI_pos (by omega)
  refine zK_of (k := 1) (by omega) ?_
  refine zK_in (M := MX8_at) rfl (Nat.le_of_ble_eq_true rfl) ?_
  show zW 0 MX8_at 0 ([.ref t, .int (nI p)], [], (h, u)) _
  unfold atV
  by_cases q : p < len
  · simp only [eX8_at_0, eX8_at_1, eX8_at_4, eX8_at_5, eX8_at_6, eX8_at_9, eX8_at_12, eX8_at_13, eX8_at_16, eX8_at_17, eX8_at_18, eX8_at_21, eX8_at_22, rX8_at, zg_aload, zg_caload, zg_getfield, zg_goto, zg_icmp, zg_iconst, zg_if, zg_iload, zg_ireturn, q10, q01, q00, ite_self, zLd_i, zLd_l, zLd_a, zInc_i, zGet_o, zGet2_s, zPut_o, zAld_i, zAll_j, zAst_i, zAsl_j, zLen_i, zLen_j, zRt_i, zRt_z, zRl2_l, zRv_n, List.getElem?_cons_zero, List.getElem?_cons_succ, List.length_cons, List.length_nil, z_set, z_set2, z_cut, List.set_cons_zero, List.set_cons_succ, Option.toList_some, Option.toList_none, List.cons_append, List.nil_append, zif, zW_ite, zfit_0, zfit_1, zfit_2, zfit_3, zisc_o, zRt_c, zRt_b, List.map_cons, List.map_nil, List.sum_cons, List.sum_nil, true_and, and_true, if_true, if_false, ite_true, ite_false, Nat.reduceLT, Nat.reduceLeDiff, Nat.reduceAdd, Nat.reduceEqDiff, eq_self, not_true_eq_false, not_false_eq_true, Nat.lt_irrefl, or_true, true_or, or_false, false_or, z_cell_lt, Value.category, h0, h1, ht0, ht, c1, nI_ult (show p < 2 ^ 31 by omega) (show len < 2 ^ 31 by omega), q, vp_in_nI (show p < 80 by omega) (show 80 < 2 ^ 31 by decide), nI_clamp (show p < 2 ^ 31 by omega)]
  · simp only [eX8_at_0, eX8_at_1, eX8_at_4, eX8_at_5, eX8_at_6, eX8_at_9, eX8_at_12, eX8_at_13, eX8_at_16, eX8_at_17, eX8_at_18, eX8_at_21, eX8_at_22, rX8_at, zg_aload, zg_caload, zg_getfield, zg_goto, zg_icmp, zg_iconst, zg_if, zg_iload, zg_ireturn, q10, q01, q00, ite_self, zLd_i, zLd_l, zLd_a, zInc_i, zGet_o, zGet2_s, zPut_o, zAld_i, zAll_j, zAst_i, zAsl_j, zLen_i, zLen_j, zRt_i, zRt_z, zRl2_l, zRv_n, List.getElem?_cons_zero, List.getElem?_cons_succ, List.length_cons, List.length_nil, z_set, z_set2, z_cut, List.set_cons_zero, List.set_cons_succ, Option.toList_some, Option.toList_none, List.cons_append, List.nil_append, zif, zW_ite, zfit_0, zfit_1, zfit_2, zfit_3, zisc_o, zRt_c, zRt_b, List.map_cons, List.map_nil, List.sum_cons, List.sum_nil, true_and, and_true, if_true, if_false, ite_true, ite_false, Nat.reduceLT, Nat.reduceLeDiff, Nat.reduceAdd, Nat.reduceEqDiff, eq_self, not_true_eq_false, not_false_eq_true, Nat.lt_irrefl, or_true, true_or, or_false, false_or, z_cell_lt, Value.category, h0, h1, ht0, ht, c1, nI_ult (show p < 2 ^ 31 by omega) (show len < 2 ^ 31 by omega), q]
theorem c_digit (hX : textAt h t len c) {p : Nat} (hp : p < 1000) : zK (d + 2) 98 [.ref t, .int (nI p)] (h, u) Q = Q (some (.int (dgV len c p)), (h, u)) := by
  obtain ⟨ht, hl2, hc, h0, h1⟩ := id hX
  have ht0 : t < 1000 := by omega
  have cp := hc p
  refine zK_of (k := 2) (by omega) ?_
  refine zK_in (M := MX8_digit) rfl (Nat.le_of_ble_eq_true rfl) ?_
  show zW 1 MX8_digit 0 ([.ref t, .int (nI p), .null], [], (h, u)) _
  unfold dgV
  by_cases q : p < len
  · have e : atV len c p = nI (c p) := if_pos q
    have q1 : (nI (c p) < 48) = (c p < 48) := nI_ult (b := 48) (by omega) (by decide)
    have q2 : ((57 : Int32) < nI (c p)) = (57 < c p) := nI_ult (a := 57) (by decide) (by omega)
    by_cases r1 : c p < 48
    · simp only [eX8_digit_0, eX8_digit_1, eX8_digit_2, eX8_digit_5, eX8_digit_6, eX8_digit_7, eX8_digit_9, eX8_digit_12, eX8_digit_13, eX8_digit_15, eX8_digit_18, eX8_digit_19, eX8_digit_21, eX8_digit_22, eX8_digit_25, eX8_digit_26, rX8_digit, zg_aload, zg_bipush, zg_goto, zg_icmp, zg_iconst, zg_iload, zg_ireturn, zg_istore, zg_isub, zg_iv1, q10, q01, q00, ite_self, zLd_i, zLd_l, zLd_a, zInc_i, zGet_o, zGet2_s, zPut_o, zAld_i, zAll_j, zAst_i, zAsl_j, zLen_i, zLen_j, zRt_i, zRt_z, zRl2_l, zRv_n, List.getElem?_cons_zero, List.getElem?_cons_succ, List.length_cons, List.length_nil, z_set, z_set2, z_cut, List.set_cons_zero, List.set_cons_succ, Option.toList_some, Option.toList_none, List.cons_append, List.nil_append, zif, zW_ite, zfit_0, zfit_1, zfit_2, zfit_3, zisc_o, zRt_c, zRt_b, List.map_cons, List.map_nil, List.sum_cons, List.sum_nil, true_and, and_true, if_true, if_false, ite_true, ite_false, Nat.reduceLT, Nat.reduceLeDiff, Nat.reduceAdd, Nat.reduceEqDiff, eq_self, not_true_eq_false, not_false_eq_true, Nat.lt_irrefl, or_true, true_or, or_false, false_or, z_cell_lt, Value.category, h0, ht0, c_at hX hp, e, q1, r1]
      simp [show ¬ 48 ≤ c p by omega]
    · by_cases r2 : 57 < c p
      · simp only [eX8_digit_0, eX8_digit_1, eX8_digit_2, eX8_digit_5, eX8_digit_6, eX8_digit_7, eX8_digit_9, eX8_digit_12, eX8_digit_13, eX8_digit_15, eX8_digit_18, eX8_digit_19, eX8_digit_21, eX8_digit_22, eX8_digit_25, eX8_digit_26, rX8_digit, zg_aload, zg_bipush, zg_goto, zg_icmp, zg_iconst, zg_iload, zg_ireturn, zg_istore, zg_isub, zg_iv1, q10, q01, q00, ite_self, zLd_i, zLd_l, zLd_a, zInc_i, zGet_o, zGet2_s, zPut_o, zAld_i, zAll_j, zAst_i, zAsl_j, zLen_i, zLen_j, zRt_i, zRt_z, zRl2_l, zRv_n, List.getElem?_cons_zero, List.getElem?_cons_succ, List.length_cons, List.length_nil, z_set, z_set2, z_cut, List.set_cons_zero, List.set_cons_succ, Option.toList_some, Option.toList_none, List.cons_append, List.nil_append, zif, zW_ite, zfit_0, zfit_1, zfit_2, zfit_3, zisc_o, zRt_c, zRt_b, List.map_cons, List.map_nil, List.sum_cons, List.sum_nil, true_and, and_true, if_true, if_false, ite_true, ite_false, Nat.reduceLT, Nat.reduceLeDiff, Nat.reduceAdd, Nat.reduceEqDiff, eq_self, not_true_eq_false, not_false_eq_true, Nat.lt_irrefl, or_true, true_or, or_false, false_or, z_cell_lt, Value.category, h0, ht0, c_at hX hp, e, q1, q2, r1, r2]
        simp [show ¬ c p ≤ 57 by omega]
      · have e2 : nI (c p) - 48 = nI (c p - 48) := pk_sub (b := 48) (by omega)
        simp only [eX8_digit_0, eX8_digit_1, eX8_digit_2, eX8_digit_5, eX8_digit_6, eX8_digit_7, eX8_digit_9, eX8_digit_12, eX8_digit_13, eX8_digit_15, eX8_digit_18, eX8_digit_19, eX8_digit_21, eX8_digit_22, eX8_digit_25, eX8_digit_26, rX8_digit, zg_aload, zg_bipush, zg_goto, zg_icmp, zg_iconst, zg_iload, zg_ireturn, zg_istore, zg_isub, zg_iv1, q10, q01, q00, ite_self, zLd_i, zLd_l, zLd_a, zInc_i, zGet_o, zGet2_s, zPut_o, zAld_i, zAll_j, zAst_i, zAsl_j, zLen_i, zLen_j, zRt_i, zRt_z, zRl2_l, zRv_n, List.getElem?_cons_zero, List.getElem?_cons_succ, List.length_cons, List.length_nil, z_set, z_set2, z_cut, List.set_cons_zero, List.set_cons_succ, Option.toList_some, Option.toList_none, List.cons_append, List.nil_append, zif, zW_ite, zfit_0, zfit_1, zfit_2, zfit_3, zisc_o, zRt_c, zRt_b, List.map_cons, List.map_nil, List.sum_cons, List.sum_nil, true_and, and_true, if_true, if_false, ite_true, ite_false, Nat.reduceLT, Nat.reduceLeDiff, Nat.reduceAdd, Nat.reduceEqDiff, eq_self, not_true_eq_false, not_false_eq_true, Nat.lt_irrefl, or_true, true_or, or_false, false_or, z_cell_lt, Value.category, h0, ht0, c_at hX hp, e, q1, q2, r1, r2, e2]
        simp [q, show 48 ≤ c p by omega, show c p ≤ 57 by omega]
  · have e : atV len c p = -1 := if_neg q
    simp only [eX8_digit_0, eX8_digit_1, eX8_digit_2, eX8_digit_5, eX8_digit_6, eX8_digit_7, eX8_digit_9, eX8_digit_12, eX8_digit_13, eX8_digit_15, eX8_digit_18, eX8_digit_19, eX8_digit_21, eX8_digit_22, eX8_digit_25, eX8_digit_26, rX8_digit, zg_aload, zg_bipush, zg_goto, zg_icmp, zg_iconst, zg_iload, zg_ireturn, zg_istore, zg_isub, zg_iv1, q10, q01, q00, ite_self, zLd_i, zLd_l, zLd_a, zInc_i, zGet_o, zGet2_s, zPut_o, zAld_i, zAll_j, zAst_i, zAsl_j, zLen_i, zLen_j, zRt_i, zRt_z, zRl2_l, zRv_n, List.getElem?_cons_zero, List.getElem?_cons_succ, List.length_cons, List.length_nil, z_set, z_set2, z_cut, List.set_cons_zero, List.set_cons_succ, Option.toList_some, Option.toList_none, List.cons_append, List.nil_append, zif, zW_ite, zfit_0, zfit_1, zfit_2, zfit_3, zisc_o, zRt_c, zRt_b, List.map_cons, List.map_nil, List.sum_cons, List.sum_nil, true_and, and_true, if_true, if_false, ite_true, ite_false, Nat.reduceLT, Nat.reduceLeDiff, Nat.reduceAdd, Nat.reduceEqDiff, eq_self, not_true_eq_false, not_false_eq_true, Nat.lt_irrefl, or_true, true_or, or_false, false_or, z_cell_lt, Value.category, h0, ht0, c_at hX hp, e, show ((-1 : Int32) < 48) = True from by decide]
    simp [q]
theorem c_toldBy (hX : textAt h t len c) {p : Nat} (hp : p < 1000) : zK (d + 2) 99 [.ref t, .int (nI p)] (h, u) Q = Q (some (.int (tbV len c p)), (h, u)) := by
  obtain ⟨ht, hl2, hc, h0, h1⟩ := id hX
  have ht0 : t < 1000 := by omega
  have cp := hc p
  refine zK_of (k := 2) (by omega) ?_
  refine zK_in (M := MX8_toldBy) rfl (Nat.le_of_ble_eq_true rfl) ?_
  show zW 1 MX8_toldBy 0 ([.ref t, .int (nI p)], [], (h, u)) _
  unfold tbV
  by_cases q : p < len
  · have e : atV len c p = nI (c p) := if_pos q
    have q1 : (nI (c p)).toInt = (c p : Int) := nI_toInt (by omega)
    by_cases r1 : c p = 43
    · simp only [eX8_toldBy_0, eX8_toldBy_1, eX8_toldBy_2, eX8_toldBy_5, eX8_toldBy_40, eX8_toldBy_41, eX8_toldBy_42, eX8_toldBy_43, eX8_toldBy_44, eX8_toldBy_45, eX8_toldBy_46, eX8_toldBy_47, rX8_toldBy, zg_aload, zg_iconst, zg_iload, zg_ireturn, zg_iv1, zg_lsw, q10, q01, q00, ite_self, zLd_i, zLd_l, zLd_a, zInc_i, zGet_o, zGet2_s, zPut_o, zAld_i, zAll_j, zAst_i, zAsl_j, zLen_i, zLen_j, zRt_i, zRt_z, zRl2_l, zRv_n, List.getElem?_cons_zero, List.getElem?_cons_succ, List.length_cons, List.length_nil, z_set, z_set2, z_cut, List.set_cons_zero, List.set_cons_succ, Option.toList_some, Option.toList_none, List.cons_append, List.nil_append, zif, zW_ite, zfit_0, zfit_1, zfit_2, zfit_3, zisc_o, zRt_c, zRt_b, List.map_cons, List.map_nil, List.sum_cons, List.sum_nil, true_and, and_true, if_true, if_false, ite_true, ite_false, Nat.reduceLT, Nat.reduceLeDiff, Nat.reduceAdd, Nat.reduceEqDiff, eq_self, not_true_eq_false, not_false_eq_true, Nat.lt_irrefl, or_true, true_or, or_false, false_or, z_cell_lt, Value.category, h0, ht0, c_at hX hp, e, zsw, q1, r1, show (((43 : Nat) : Int) = 43) = True from by decide]
      simp [q]
      decide
    · by_cases r2 : c p = 45
      · simp only [eX8_toldBy_0, eX8_toldBy_1, eX8_toldBy_2, eX8_toldBy_5, eX8_toldBy_40, eX8_toldBy_41, eX8_toldBy_42, eX8_toldBy_43, eX8_toldBy_44, eX8_toldBy_45, eX8_toldBy_46, eX8_toldBy_47, rX8_toldBy, zg_aload, zg_iconst, zg_iload, zg_ireturn, zg_iv1, zg_lsw, q10, q01, q00, ite_self, zLd_i, zLd_l, zLd_a, zInc_i, zGet_o, zGet2_s, zPut_o, zAld_i, zAll_j, zAst_i, zAsl_j, zLen_i, zLen_j, zRt_i, zRt_z, zRl2_l, zRv_n, List.getElem?_cons_zero, List.getElem?_cons_succ, List.length_cons, List.length_nil, z_set, z_set2, z_cut, List.set_cons_zero, List.set_cons_succ, Option.toList_some, Option.toList_none, List.cons_append, List.nil_append, zif, zW_ite, zfit_0, zfit_1, zfit_2, zfit_3, zisc_o, zRt_c, zRt_b, List.map_cons, List.map_nil, List.sum_cons, List.sum_nil, true_and, and_true, if_true, if_false, ite_true, ite_false, Nat.reduceLT, Nat.reduceLeDiff, Nat.reduceAdd, Nat.reduceEqDiff, eq_self, not_true_eq_false, not_false_eq_true, Nat.lt_irrefl, or_true, true_or, or_false, false_or, z_cell_lt, Value.category, h0, ht0, c_at hX hp, e, zsw, q1, r2, show (((45 : Nat) : Int) = 43) = False from by decide, show (((45 : Nat) : Int) = 45) = True from by decide]
        simp [q]
        decide
      · by_cases r3 : c p = 63
        · simp only [eX8_toldBy_0, eX8_toldBy_1, eX8_toldBy_2, eX8_toldBy_5, eX8_toldBy_40, eX8_toldBy_41, eX8_toldBy_42, eX8_toldBy_43, eX8_toldBy_44, eX8_toldBy_45, eX8_toldBy_46, eX8_toldBy_47, rX8_toldBy, zg_aload, zg_iconst, zg_iload, zg_ireturn, zg_iv1, zg_lsw, q10, q01, q00, ite_self, zLd_i, zLd_l, zLd_a, zInc_i, zGet_o, zGet2_s, zPut_o, zAld_i, zAll_j, zAst_i, zAsl_j, zLen_i, zLen_j, zRt_i, zRt_z, zRl2_l, zRv_n, List.getElem?_cons_zero, List.getElem?_cons_succ, List.length_cons, List.length_nil, z_set, z_set2, z_cut, List.set_cons_zero, List.set_cons_succ, Option.toList_some, Option.toList_none, List.cons_append, List.nil_append, zif, zW_ite, zfit_0, zfit_1, zfit_2, zfit_3, zisc_o, zRt_c, zRt_b, List.map_cons, List.map_nil, List.sum_cons, List.sum_nil, true_and, and_true, if_true, if_false, ite_true, ite_false, Nat.reduceLT, Nat.reduceLeDiff, Nat.reduceAdd, Nat.reduceEqDiff, eq_self, not_true_eq_false, not_false_eq_true, Nat.lt_irrefl, or_true, true_or, or_false, false_or, z_cell_lt, Value.category, h0, ht0, c_at hX hp, e, zsw, q1, r3, show (((63 : Nat) : Int) = 43) = False from by decide, show (((63 : Nat) : Int) = 45) = False from by decide, show (((63 : Nat) : Int) = 63) = True from by decide]
          simp [q]
          decide
        · have s1 : ((c p : Int) = 43) = False := by simp only [eq_iff_iff, iff_false]; omega
          have s2 : ((c p : Int) = 45) = False := by simp only [eq_iff_iff, iff_false]; omega
          have s3 : ((c p : Int) = 63) = False := by simp only [eq_iff_iff, iff_false]; omega
          simp only [eX8_toldBy_0, eX8_toldBy_1, eX8_toldBy_2, eX8_toldBy_5, eX8_toldBy_40, eX8_toldBy_41, eX8_toldBy_42, eX8_toldBy_43, eX8_toldBy_44, eX8_toldBy_45, eX8_toldBy_46, eX8_toldBy_47, rX8_toldBy, zg_aload, zg_iconst, zg_iload, zg_ireturn, zg_iv1, zg_lsw, q10, q01, q00, ite_self, zLd_i, zLd_l, zLd_a, zInc_i, zGet_o, zGet2_s, zPut_o, zAld_i, zAll_j, zAst_i, zAsl_j, zLen_i, zLen_j, zRt_i, zRt_z, zRl2_l, zRv_n, List.getElem?_cons_zero, List.getElem?_cons_succ, List.length_cons, List.length_nil, z_set, z_set2, z_cut, List.set_cons_zero, List.set_cons_succ, Option.toList_some, Option.toList_none, List.cons_append, List.nil_append, zif, zW_ite, zfit_0, zfit_1, zfit_2, zfit_3, zisc_o, zRt_c, zRt_b, List.map_cons, List.map_nil, List.sum_cons, List.sum_nil, true_and, and_true, if_true, if_false, ite_true, ite_false, Nat.reduceLT, Nat.reduceLeDiff, Nat.reduceAdd, Nat.reduceEqDiff, eq_self, not_true_eq_false, not_false_eq_true, Nat.lt_irrefl, or_true, true_or, or_false, false_or, z_cell_lt, Value.category, h0, ht0, c_at hX hp, e, zsw, q1, s1, s2, s3]
          simp [r1, r2, r3]
  · have e : atV len c p = -1 := if_neg q
    simp only [eX8_toldBy_0, eX8_toldBy_1, eX8_toldBy_2, eX8_toldBy_5, eX8_toldBy_40, eX8_toldBy_41, eX8_toldBy_42, eX8_toldBy_43, eX8_toldBy_44, eX8_toldBy_45, eX8_toldBy_46, eX8_toldBy_47, rX8_toldBy, zg_aload, zg_iconst, zg_iload, zg_ireturn, zg_iv1, zg_lsw, q10, q01, q00, ite_self, zLd_i, zLd_l, zLd_a, zInc_i, zGet_o, zGet2_s, zPut_o, zAld_i, zAll_j, zAst_i, zAsl_j, zLen_i, zLen_j, zRt_i, zRt_z, zRl2_l, zRv_n, List.getElem?_cons_zero, List.getElem?_cons_succ, List.length_cons, List.length_nil, z_set, z_set2, z_cut, List.set_cons_zero, List.set_cons_succ, Option.toList_some, Option.toList_none, List.cons_append, List.nil_append, zif, zW_ite, zfit_0, zfit_1, zfit_2, zfit_3, zisc_o, zRt_c, zRt_b, List.map_cons, List.map_nil, List.sum_cons, List.sum_nil, true_and, and_true, if_true, if_false, ite_true, ite_false, Nat.reduceLT, Nat.reduceLeDiff, Nat.reduceAdd, Nat.reduceEqDiff, eq_self, not_true_eq_false, not_false_eq_true, Nat.lt_irrefl, or_true, true_or, or_false, false_or, z_cell_lt, Value.category, h0, ht0, c_at hX hp, e, zsw, show (Int32.toInt (-1) = 43) = False from by decide, show (Int32.toInt (-1) = 45) = False from by decide, show (Int32.toInt (-1) = 63) = False from by decide]
    simp [q]
theorem c_alen {x : Int32} {H : zH} : zK (d + 1) 105 [.int x] H Q = Q (some (.int (alV x)), H) := by
  obtain ⟨h, u⟩ := H
  refine zK_of (k := 1) (by omega) ?_
  refine zK_in (M := MX8_actLength) rfl (Nat.le_of_ble_eq_true rfl) ?_
  show zW 0 MX8_actLength 0 ([.int x], [], (h, u)) _
  have e : ∀ (a : Int) (b : Int32), b.toInt = a → (x.toInt = a) = (x = b) := fun a b hb => by rw [← hb]; exact propext Int32.toInt_inj
  unfold alV
  by_cases r1 : x = 109
  · subst r1
    simp only [eX8_actLength_0, eX8_actLength_1, eX8_actLength_52, eX8_actLength_53, eX8_actLength_54, eX8_actLength_55, eX8_actLength_56, eX8_actLength_57, eX8_actLength_58, eX8_actLength_59, rX8_actLength, zg_iconst, zg_iload, zg_ireturn, zg_lsw, q10, q01, q00, ite_self, zLd_i, zLd_l, zLd_a, zInc_i, zGet_o, zGet2_s, zPut_o, zAld_i, zAll_j, zAst_i, zAsl_j, zLen_i, zLen_j, zRt_i, zRt_z, zRl2_l, zRv_n, List.getElem?_cons_zero, List.getElem?_cons_succ, List.length_cons, List.length_nil, z_set, z_set2, z_cut, List.set_cons_zero, List.set_cons_succ, Option.toList_some, Option.toList_none, List.cons_append, List.nil_append, zif, zW_ite, zfit_0, zfit_1, zfit_2, zfit_3, zisc_o, zRt_c, zRt_b, List.map_cons, List.map_nil, List.sum_cons, List.sum_nil, true_and, and_true, if_true, if_false, ite_true, ite_false, Nat.reduceLT, Nat.reduceLeDiff, Nat.reduceAdd, Nat.reduceEqDiff, eq_self, not_true_eq_false, not_false_eq_true, Nat.lt_irrefl, or_true, true_or, or_false, false_or, z_cell_lt, Value.category, zsw, show (Int32.toInt 109 = 99) = False from by decide, show (Int32.toInt 109 = 104) = False from by decide, show (Int32.toInt 109 = 109) = True from by decide]
  · by_cases r2 : x = 99
    · subst r2
      simp only [eX8_actLength_0, eX8_actLength_1, eX8_actLength_52, eX8_actLength_53, eX8_actLength_54, eX8_actLength_55, eX8_actLength_56, eX8_actLength_57, eX8_actLength_58, eX8_actLength_59, rX8_actLength, zg_iconst, zg_iload, zg_ireturn, zg_lsw, q10, q01, q00, ite_self, zLd_i, zLd_l, zLd_a, zInc_i, zGet_o, zGet2_s, zPut_o, zAld_i, zAll_j, zAst_i, zAsl_j, zLen_i, zLen_j, zRt_i, zRt_z, zRl2_l, zRv_n, List.getElem?_cons_zero, List.getElem?_cons_succ, List.length_cons, List.length_nil, z_set, z_set2, z_cut, List.set_cons_zero, List.set_cons_succ, Option.toList_some, Option.toList_none, List.cons_append, List.nil_append, zif, zW_ite, zfit_0, zfit_1, zfit_2, zfit_3, zisc_o, zRt_c, zRt_b, List.map_cons, List.map_nil, List.sum_cons, List.sum_nil, true_and, and_true, if_true, if_false, ite_true, ite_false, Nat.reduceLT, Nat.reduceLeDiff, Nat.reduceAdd, Nat.reduceEqDiff, eq_self, not_true_eq_false, not_false_eq_true, Nat.lt_irrefl, or_true, true_or, or_false, false_or, z_cell_lt, Value.category, zsw, show (Int32.toInt 99 = 99) = True from by decide]
      rfl
    · by_cases r3 : x = 114
      · subst r3
        simp only [eX8_actLength_0, eX8_actLength_1, eX8_actLength_52, eX8_actLength_53, eX8_actLength_54, eX8_actLength_55, eX8_actLength_56, eX8_actLength_57, eX8_actLength_58, eX8_actLength_59, rX8_actLength, zg_iconst, zg_iload, zg_ireturn, zg_lsw, q10, q01, q00, ite_self, zLd_i, zLd_l, zLd_a, zInc_i, zGet_o, zGet2_s, zPut_o, zAld_i, zAll_j, zAst_i, zAsl_j, zLen_i, zLen_j, zRt_i, zRt_z, zRl2_l, zRv_n, List.getElem?_cons_zero, List.getElem?_cons_succ, List.length_cons, List.length_nil, z_set, z_set2, z_cut, List.set_cons_zero, List.set_cons_succ, Option.toList_some, Option.toList_none, List.cons_append, List.nil_append, zif, zW_ite, zfit_0, zfit_1, zfit_2, zfit_3, zisc_o, zRt_c, zRt_b, List.map_cons, List.map_nil, List.sum_cons, List.sum_nil, true_and, and_true, if_true, if_false, ite_true, ite_false, Nat.reduceLT, Nat.reduceLeDiff, Nat.reduceAdd, Nat.reduceEqDiff, eq_self, not_true_eq_false, not_false_eq_true, Nat.lt_irrefl, or_true, true_or, or_false, false_or, z_cell_lt, Value.category, zsw, show (Int32.toInt 114 = 99) = False from by decide, show (Int32.toInt 114 = 104) = False from by decide, show (Int32.toInt 114 = 109) = False from by decide, show (Int32.toInt 114 = 114) = True from by decide]
        rfl
      · by_cases r4 : x = 104
        · subst r4
          simp only [eX8_actLength_0, eX8_actLength_1, eX8_actLength_52, eX8_actLength_53, eX8_actLength_54, eX8_actLength_55, eX8_actLength_56, eX8_actLength_57, eX8_actLength_58, eX8_actLength_59, rX8_actLength, zg_iconst, zg_iload, zg_ireturn, zg_lsw, q10, q01, q00, ite_self, zLd_i, zLd_l, zLd_a, zInc_i, zGet_o, zGet2_s, zPut_o, zAld_i, zAll_j, zAst_i, zAsl_j, zLen_i, zLen_j, zRt_i, zRt_z, zRl2_l, zRv_n, List.getElem?_cons_zero, List.getElem?_cons_succ, List.length_cons, List.length_nil, z_set, z_set2, z_cut, List.set_cons_zero, List.set_cons_succ, Option.toList_some, Option.toList_none, List.cons_append, List.nil_append, zif, zW_ite, zfit_0, zfit_1, zfit_2, zfit_3, zisc_o, zRt_c, zRt_b, List.map_cons, List.map_nil, List.sum_cons, List.sum_nil, true_and, and_true, if_true, if_false, ite_true, ite_false, Nat.reduceLT, Nat.reduceLeDiff, Nat.reduceAdd, Nat.reduceEqDiff, eq_self, not_true_eq_false, not_false_eq_true, Nat.lt_irrefl, or_true, true_or, or_false, false_or, z_cell_lt, Value.category, zsw, show (Int32.toInt 104 = 99) = False from by decide, show (Int32.toInt 104 = 104) = True from by decide]
          rfl
        · by_cases r5 : x = 115
          · subst r5
            simp only [eX8_actLength_0, eX8_actLength_1, eX8_actLength_52, eX8_actLength_53, eX8_actLength_54, eX8_actLength_55, eX8_actLength_56, eX8_actLength_57, eX8_actLength_58, eX8_actLength_59, rX8_actLength, zg_iconst, zg_iload, zg_ireturn, zg_lsw, q10, q01, q00, ite_self, zLd_i, zLd_l, zLd_a, zInc_i, zGet_o, zGet2_s, zPut_o, zAld_i, zAll_j, zAst_i, zAsl_j, zLen_i, zLen_j, zRt_i, zRt_z, zRl2_l, zRv_n, List.getElem?_cons_zero, List.getElem?_cons_succ, List.length_cons, List.length_nil, z_set, z_set2, z_cut, List.set_cons_zero, List.set_cons_succ, Option.toList_some, Option.toList_none, List.cons_append, List.nil_append, zif, zW_ite, zfit_0, zfit_1, zfit_2, zfit_3, zisc_o, zRt_c, zRt_b, List.map_cons, List.map_nil, List.sum_cons, List.sum_nil, true_and, and_true, if_true, if_false, ite_true, ite_false, Nat.reduceLT, Nat.reduceLeDiff, Nat.reduceAdd, Nat.reduceEqDiff, eq_self, not_true_eq_false, not_false_eq_true, Nat.lt_irrefl, or_true, true_or, or_false, false_or, z_cell_lt, Value.category, zsw, show (Int32.toInt 115 = 99) = False from by decide, show (Int32.toInt 115 = 104) = False from by decide, show (Int32.toInt 115 = 109) = False from by decide, show (Int32.toInt 115 = 114) = False from by decide, show (Int32.toInt 115 = 115) = True from by decide]
            rfl
          · have e1 := e 109 109 (by decide)
            have e2 := e 99 99 (by decide)
            have e3 := e 114 114 (by decide)
            have e4 := e 104 104 (by decide)
            have e5 := e 115 115 (by decide)
            simp only [eX8_actLength_0, eX8_actLength_1, eX8_actLength_52, eX8_actLength_53, eX8_actLength_54, eX8_actLength_55, eX8_actLength_56, eX8_actLength_57, eX8_actLength_58, eX8_actLength_59, rX8_actLength, zg_iconst, zg_iload, zg_ireturn, zg_lsw, q10, q01, q00, ite_self, zLd_i, zLd_l, zLd_a, zInc_i, zGet_o, zGet2_s, zPut_o, zAld_i, zAll_j, zAst_i, zAsl_j, zLen_i, zLen_j, zRt_i, zRt_z, zRl2_l, zRv_n, List.getElem?_cons_zero, List.getElem?_cons_succ, List.length_cons, List.length_nil, z_set, z_set2, z_cut, List.set_cons_zero, List.set_cons_succ, Option.toList_some, Option.toList_none, List.cons_append, List.nil_append, zif, zW_ite, zfit_0, zfit_1, zfit_2, zfit_3, zisc_o, zRt_c, zRt_b, List.map_cons, List.map_nil, List.sum_cons, List.sum_nil, true_and, and_true, if_true, if_false, ite_true, ite_false, Nat.reduceLT, Nat.reduceLeDiff, Nat.reduceAdd, Nat.reduceEqDiff, eq_self, not_true_eq_false, not_false_eq_true, Nat.lt_irrefl, or_true, true_or, or_false, false_or, z_cell_lt, Value.category, zsw, e1, e2, e3, e4, e5, r1, r2, r3, r4, r5]
/-- which signs can stand in MEETINGS -/
def gmB (len : Nat) (c : Nat → Nat) (p n : Nat) : Bool := if p % 4 = 0 then decide (¬ dgV len c p < 0) && decide (dgV len c p < nI n) else if p % 4 = 1 then (decide (¬ dgV len c p < 0) && decide (dgV len c p < nI n)) && decide (¬ dgV len c p = dgV len c (p - 1)) else if p % 4 = 2 then decide (¬ tbV len c p < 0) else decide (atV len c p = 59)
theorem c_goodM (hX : textAt h t len c) {p n : Nat} (hp : p < 100) (hn : n ≤ 7) : zK (d + 3) 102 [.ref t, .int (nI p), .int (nI n)] (h, u) Q = Q (some (.int (if gmB len c p n then 1 else 0)), (h, u)) := by
  obtain ⟨ht, hl2, hc, h0, h1⟩ := id hX
  have ht0 : t < 1000 := by omega
  have e1 : nI p - nI p / 4 * 4 = nI (p % 4) := pk_rem (d := 4) (by omega) (by decide) (by decide)
  refine zK_of (k := 3) (by omega) ?_
  refine zK_in (M := MX8_goodInMeetings) rfl (Nat.le_of_ble_eq_true rfl) ?_
  show zW 2 MX8_goodInMeetings 0 ([.ref t, .int (nI p), .int (nI n)], [], (h, u)) _
  have q4 : ((4 : Int32) = 0) = False := by decide
  unfold gmB
  rcases (show p % 4 = 0 ∨ p % 4 = 1 ∨ p % 4 = 2 ∨ p % 4 = 3 by omega) with m | m | m | m
  · by_cases a1 : dgV len c p < 0 <;> by_cases a2 : dgV len c p < nI n
    all_goals
      simp only [eX8_goodInMeetings_0, eX8_goodInMeetings_1, eX8_goodInMeetings_2, eX8_goodInMeetings_3, eX8_goodInMeetings_28, eX8_goodInMeetings_29, eX8_goodInMeetings_30, eX8_goodInMeetings_33, eX8_goodInMeetings_36, eX8_goodInMeetings_37, eX8_goodInMeetings_38, eX8_goodInMeetings_41, eX8_goodInMeetings_42, eX8_goodInMeetings_45, eX8_goodInMeetings_46, eX8_goodInMeetings_49, eX8_goodInMeetings_50, eX8_goodInMeetings_51, eX8_goodInMeetings_52, eX8_goodInMeetings_53, eX8_goodInMeetings_56, eX8_goodInMeetings_59, eX8_goodInMeetings_60, eX8_goodInMeetings_61, eX8_goodInMeetings_64, eX8_goodInMeetings_65, eX8_goodInMeetings_68, eX8_goodInMeetings_69, eX8_goodInMeetings_70, eX8_goodInMeetings_73, eX8_goodInMeetings_74, eX8_goodInMeetings_75, eX8_goodInMeetings_76, eX8_goodInMeetings_77, eX8_goodInMeetings_80, eX8_goodInMeetings_83, eX8_goodInMeetings_84, eX8_goodInMeetings_87, eX8_goodInMeetings_88, eX8_goodInMeetings_89, eX8_goodInMeetings_90, eX8_goodInMeetings_91, eX8_goodInMeetings_94, eX8_goodInMeetings_97, eX8_goodInMeetings_98, eX8_goodInMeetings_101, eX8_goodInMeetings_102, eX8_goodInMeetings_103, eX8_goodInMeetings_104, eX8_goodInMeetings_105, eX8_goodInMeetings_108, eX8_goodInMeetings_110, eX8_goodInMeetings_113, eX8_goodInMeetings_114, eX8_goodInMeetings_117, eX8_goodInMeetings_118, rX8_goodInMeetings, zg_aload, zg_bipush, zg_goto, zg_icmp, zg_iconst, zg_if, zg_iload, zg_irem, zg_ireturn, zg_isub, zg_iv1, zg_tsw, q10, q01, q00, ite_self, zLd_i, zLd_l, zLd_a, zInc_i, zGet_o, zGet2_s, zPut_o, zAld_i, zAll_j, zAst_i, zAsl_j, zLen_i, zLen_j, zRt_i, zRt_z, zRl2_l, zRv_n, List.getElem?_cons_zero, List.getElem?_cons_succ, List.length_cons, List.length_nil, z_set, z_set2, z_cut, List.set_cons_zero, List.set_cons_succ, Option.toList_some, Option.toList_none, List.cons_append, List.nil_append, zif, zW_ite, zfit_0, zfit_1, zfit_2, zfit_3, zisc_o, zRt_c, zRt_b, List.map_cons, List.map_nil, List.sum_cons, List.sum_nil, true_and, and_true, if_true, if_false, ite_true, ite_false, Nat.reduceLT, Nat.reduceLeDiff, Nat.reduceAdd, Nat.reduceEqDiff, eq_self, not_true_eq_false, not_false_eq_true, Nat.lt_irrefl, or_true, true_or, or_false, false_or, z_cell_lt, Value.category, h0, ht0, e1, m, q4, zsw, show ((nI 0).toInt = 0) = True from by decide, c_digit hX (show p < 1000 by omega), a1, a2]
      simp
  · have e2 : nI p - 1 = nI (p - 1) := pk_sub (b := 1) (by omega)
    by_cases a1 : dgV len c p < 0 <;> by_cases a2 : dgV len c p < nI n <;> by_cases a3 : dgV len c p = dgV len c (p - 1)
    all_goals
      simp only [eX8_goodInMeetings_0, eX8_goodInMeetings_1, eX8_goodInMeetings_2, eX8_goodInMeetings_3, eX8_goodInMeetings_28, eX8_goodInMeetings_29, eX8_goodInMeetings_30, eX8_goodInMeetings_33, eX8_goodInMeetings_36, eX8_goodInMeetings_37, eX8_goodInMeetings_38, eX8_goodInMeetings_41, eX8_goodInMeetings_42, eX8_goodInMeetings_45, eX8_goodInMeetings_46, eX8_goodInMeetings_49, eX8_goodInMeetings_50, eX8_goodInMeetings_51, eX8_goodInMeetings_52, eX8_goodInMeetings_53, eX8_goodInMeetings_56, eX8_goodInMeetings_59, eX8_goodInMeetings_60, eX8_goodInMeetings_61, eX8_goodInMeetings_64, eX8_goodInMeetings_65, eX8_goodInMeetings_68, eX8_goodInMeetings_69, eX8_goodInMeetings_70, eX8_goodInMeetings_73, eX8_goodInMeetings_74, eX8_goodInMeetings_75, eX8_goodInMeetings_76, eX8_goodInMeetings_77, eX8_goodInMeetings_80, eX8_goodInMeetings_83, eX8_goodInMeetings_84, eX8_goodInMeetings_87, eX8_goodInMeetings_88, eX8_goodInMeetings_89, eX8_goodInMeetings_90, eX8_goodInMeetings_91, eX8_goodInMeetings_94, eX8_goodInMeetings_97, eX8_goodInMeetings_98, eX8_goodInMeetings_101, eX8_goodInMeetings_102, eX8_goodInMeetings_103, eX8_goodInMeetings_104, eX8_goodInMeetings_105, eX8_goodInMeetings_108, eX8_goodInMeetings_110, eX8_goodInMeetings_113, eX8_goodInMeetings_114, eX8_goodInMeetings_117, eX8_goodInMeetings_118, rX8_goodInMeetings, zg_aload, zg_bipush, zg_goto, zg_icmp, zg_iconst, zg_if, zg_iload, zg_irem, zg_ireturn, zg_isub, zg_iv1, zg_tsw, q10, q01, q00, ite_self, zLd_i, zLd_l, zLd_a, zInc_i, zGet_o, zGet2_s, zPut_o, zAld_i, zAll_j, zAst_i, zAsl_j, zLen_i, zLen_j, zRt_i, zRt_z, zRl2_l, zRv_n, List.getElem?_cons_zero, List.getElem?_cons_succ, List.length_cons, List.length_nil, z_set, z_set2, z_cut, List.set_cons_zero, List.set_cons_succ, Option.toList_some, Option.toList_none, List.cons_append, List.nil_append, zif, zW_ite, zfit_0, zfit_1, zfit_2, zfit_3, zisc_o, zRt_c, zRt_b, List.map_cons, List.map_nil, List.sum_cons, List.sum_nil, true_and, and_true, if_true, if_false, ite_true, ite_false, Nat.reduceLT, Nat.reduceLeDiff, Nat.reduceAdd, Nat.reduceEqDiff, eq_self, not_true_eq_false, not_false_eq_true, Nat.lt_irrefl, or_true, true_or, or_false, false_or, z_cell_lt, Value.category, h0, ht0, e1, e2, m, q4, zsw, show ((nI 1).toInt = 0) = False from by decide, show ((nI 1).toInt = 1) = True from by decide, c_digit hX (show p < 1000 by omega), c_digit hX (show p - 1 < 1000 by omega), a1, a2, a3]
      first | simp | (rw [a3] at a1 a2; simp [a1, a2])
  · by_cases a1 : tbV len c p < 0
    all_goals
      simp only [eX8_goodInMeetings_0, eX8_goodInMeetings_1, eX8_goodInMeetings_2, eX8_goodInMeetings_3, eX8_goodInMeetings_28, eX8_goodInMeetings_29, eX8_goodInMeetings_30, eX8_goodInMeetings_33, eX8_goodInMeetings_36, eX8_goodInMeetings_37, eX8_goodInMeetings_38, eX8_goodInMeetings_41, eX8_goodInMeetings_42, eX8_goodInMeetings_45, eX8_goodInMeetings_46, eX8_goodInMeetings_49, eX8_goodInMeetings_50, eX8_goodInMeetings_51, eX8_goodInMeetings_52, eX8_goodInMeetings_53, eX8_goodInMeetings_56, eX8_goodInMeetings_59, eX8_goodInMeetings_60, eX8_goodInMeetings_61, eX8_goodInMeetings_64, eX8_goodInMeetings_65, eX8_goodInMeetings_68, eX8_goodInMeetings_69, eX8_goodInMeetings_70, eX8_goodInMeetings_73, eX8_goodInMeetings_74, eX8_goodInMeetings_75, eX8_goodInMeetings_76, eX8_goodInMeetings_77, eX8_goodInMeetings_80, eX8_goodInMeetings_83, eX8_goodInMeetings_84, eX8_goodInMeetings_87, eX8_goodInMeetings_88, eX8_goodInMeetings_89, eX8_goodInMeetings_90, eX8_goodInMeetings_91, eX8_goodInMeetings_94, eX8_goodInMeetings_97, eX8_goodInMeetings_98, eX8_goodInMeetings_101, eX8_goodInMeetings_102, eX8_goodInMeetings_103, eX8_goodInMeetings_104, eX8_goodInMeetings_105, eX8_goodInMeetings_108, eX8_goodInMeetings_110, eX8_goodInMeetings_113, eX8_goodInMeetings_114, eX8_goodInMeetings_117, eX8_goodInMeetings_118, rX8_goodInMeetings, zg_aload, zg_bipush, zg_goto, zg_icmp, zg_iconst, zg_if, zg_iload, zg_irem, zg_ireturn, zg_isub, zg_iv1, zg_tsw, q10, q01, q00, ite_self, zLd_i, zLd_l, zLd_a, zInc_i, zGet_o, zGet2_s, zPut_o, zAld_i, zAll_j, zAst_i, zAsl_j, zLen_i, zLen_j, zRt_i, zRt_z, zRl2_l, zRv_n, List.getElem?_cons_zero, List.getElem?_cons_succ, List.length_cons, List.length_nil, z_set, z_set2, z_cut, List.set_cons_zero, List.set_cons_succ, Option.toList_some, Option.toList_none, List.cons_append, List.nil_append, zif, zW_ite, zfit_0, zfit_1, zfit_2, zfit_3, zisc_o, zRt_c, zRt_b, List.map_cons, List.map_nil, List.sum_cons, List.sum_nil, true_and, and_true, if_true, if_false, ite_true, ite_false, Nat.reduceLT, Nat.reduceLeDiff, Nat.reduceAdd, Nat.reduceEqDiff, eq_self, not_true_eq_false, not_false_eq_true, Nat.lt_irrefl, or_true, true_or, or_false, false_or, z_cell_lt, Value.category, h0, ht0, e1, m, q4, zsw, show ((nI 2).toInt = 0) = False from by decide, show ((nI 2).toInt = 1) = False from by decide, show ((nI 2).toInt = 2) = True from by decide, c_toldBy hX (show p < 1000 by omega), a1]
      simp
  · by_cases a1 : atV len c p = 59
    all_goals
      simp only [eX8_goodInMeetings_0, eX8_goodInMeetings_1, eX8_goodInMeetings_2, eX8_goodInMeetings_3, eX8_goodInMeetings_28, eX8_goodInMeetings_29, eX8_goodInMeetings_30, eX8_goodInMeetings_33, eX8_goodInMeetings_36, eX8_goodInMeetings_37, eX8_goodInMeetings_38, eX8_goodInMeetings_41, eX8_goodInMeetings_42, eX8_goodInMeetings_45, eX8_goodInMeetings_46, eX8_goodInMeetings_49, eX8_goodInMeetings_50, eX8_goodInMeetings_51, eX8_goodInMeetings_52, eX8_goodInMeetings_53, eX8_goodInMeetings_56, eX8_goodInMeetings_59, eX8_goodInMeetings_60, eX8_goodInMeetings_61, eX8_goodInMeetings_64, eX8_goodInMeetings_65, eX8_goodInMeetings_68, eX8_goodInMeetings_69, eX8_goodInMeetings_70, eX8_goodInMeetings_73, eX8_goodInMeetings_74, eX8_goodInMeetings_75, eX8_goodInMeetings_76, eX8_goodInMeetings_77, eX8_goodInMeetings_80, eX8_goodInMeetings_83, eX8_goodInMeetings_84, eX8_goodInMeetings_87, eX8_goodInMeetings_88, eX8_goodInMeetings_89, eX8_goodInMeetings_90, eX8_goodInMeetings_91, eX8_goodInMeetings_94, eX8_goodInMeetings_97, eX8_goodInMeetings_98, eX8_goodInMeetings_101, eX8_goodInMeetings_102, eX8_goodInMeetings_103, eX8_goodInMeetings_104, eX8_goodInMeetings_105, eX8_goodInMeetings_108, eX8_goodInMeetings_110, eX8_goodInMeetings_113, eX8_goodInMeetings_114, eX8_goodInMeetings_117, eX8_goodInMeetings_118, rX8_goodInMeetings, zg_aload, zg_bipush, zg_goto, zg_icmp, zg_iconst, zg_if, zg_iload, zg_irem, zg_ireturn, zg_isub, zg_iv1, zg_tsw, q10, q01, q00, ite_self, zLd_i, zLd_l, zLd_a, zInc_i, zGet_o, zGet2_s, zPut_o, zAld_i, zAll_j, zAst_i, zAsl_j, zLen_i, zLen_j, zRt_i, zRt_z, zRl2_l, zRv_n, List.getElem?_cons_zero, List.getElem?_cons_succ, List.length_cons, List.length_nil, z_set, z_set2, z_cut, List.set_cons_zero, List.set_cons_succ, Option.toList_some, Option.toList_none, List.cons_append, List.nil_append, zif, zW_ite, zfit_0, zfit_1, zfit_2, zfit_3, zisc_o, zRt_c, zRt_b, List.map_cons, List.map_nil, List.sum_cons, List.sum_nil, true_and, and_true, if_true, if_false, ite_true, ite_false, Nat.reduceLT, Nat.reduceLeDiff, Nat.reduceAdd, Nat.reduceEqDiff, eq_self, not_true_eq_false, not_false_eq_true, Nat.lt_irrefl, or_true, true_or, or_false, false_or, z_cell_lt, Value.category, h0, ht0, e1, m, q4, zsw, show ((nI 3).toInt = 0) = False from by decide, show ((nI 3).toInt = 1) = False from by decide, show ((nI 3).toInt = 2) = False from by decide, c_at hX (show p < 1000 by omega), a1]
      simp
end TEXT

