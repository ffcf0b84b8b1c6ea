/-! InnRegister: the methods that ask ORDERS; tot says how many there are when the method asks first -/
theorem eX10_orders_0 {d : Nat} {S : zS} {Q : zR → Prop} : zW d MX10_orders 0 S Q = zGo d MX10_orders (.aload 0) z0 1 S Q := zW_step (I := .aload_n 0) rfl S Q
theorem eX10_orders_1 {d : Nat} {S : zS} {Q : zR → Prop} : zW d MX10_orders 1 S Q = zGo d MX10_orders (.getfield 50) (zf 3 10 6) 4 S Q := zW_step (I := .getfield 50) rfl S Q
theorem eX10_orders_4 {d : Nat} {S : zS} {Q : zR → Prop} : zW d MX10_orders 4 S Q = zGo d MX10_orders (.aload 0) z0 5 S Q := zW_step (I := .aload_n 0) rfl S Q
theorem eX10_orders_5 {d : Nat} {S : zS} {Q : zR → Prop} : zW d MX10_orders 5 S Q = zGo d MX10_orders (.getfield 19) (zf 3 10 1) 8 S Q := zW_step (I := .getfield 19) rfl S Q
theorem eX10_orders_8 {d : Nat} {S : zS} {Q : zR → Prop} : zW d MX10_orders 8 S Q = zGo d MX10_orders (.invokevirtual 215) (zc 51 2 4) 11 S Q := zW_step (I := .invokevirtual 215) rfl S Q
theorem eX10_orders_11 {d : Nat} {S : zS} {Q : zR → Prop} : zW d MX10_orders 11 S Q = zGo d MX10_orders (.lreturn) z0 12 S Q := zW_step (I := .lreturn) rfl S Q
theorem rX10_orders : MX10_orders.2.2.2.2.1 = some .long := rfl
theorem eX10_first_0 {d : Nat} {S : zS} {Q : zR → Prop} : zW d MX10_first 0 S Q = zGo d MX10_first (.aload 0) z0 1 S Q := zW_step (I := .aload_n 0) rfl S Q
theorem eX10_first_1 {d : Nat} {S : zS} {Q : zR → Prop} : zW d MX10_first 1 S Q = zGo d MX10_first (.getfield 50) (zf 3 10 6) 4 S Q := zW_step (I := .getfield 50) rfl S Q
theorem eX10_first_4 {d : Nat} {S : zS} {Q : zR → Prop} : zW d MX10_first 4 S Q = zGo d MX10_first (.aload 0) z0 5 S Q := zW_step (I := .aload_n 0) rfl S Q
theorem eX10_first_5 {d : Nat} {S : zS} {Q : zR → Prop} : zW d MX10_first 5 S Q = zGo d MX10_first (.getfield 19) (zf 3 10 1) 8 S Q := zW_step (I := .getfield 19) rfl S Q
theorem eX10_first_8 {d : Nat} {S : zS} {Q : zR → Prop} : zW d MX10_first 8 S Q = zGo d MX10_first (.invokevirtual 215) (zc 51 2 4) 11 S Q := zW_step (I := .invokevirtual 215) rfl S Q
theorem eX10_first_11 {d : Nat} {S : zS} {Q : zR → Prop} : zW d MX10_first 11 S Q = zGo d MX10_first (.lconst 0) (zv (.long 0)) 12 S Q := zW_step (I := .lconst 0) rfl S Q
theorem eX10_first_12 {d : Nat} {S : zS} {Q : zR → Prop} : zW d MX10_first 12 S Q = zGo d MX10_first (.lcmp) z0 13 S Q := zW_step (I := .lcmp) rfl S Q
theorem eX10_first_13 {d : Nat} {S : zS} {Q : zR → Prop} : zW d MX10_first 13 S Q = zGo d MX10_first (.ifCond .ne 6) (zt 19) 16 S Q := zW_step (I := .ifCond .ne 6) rfl S Q
theorem eX10_first_16 {d : Nat} {S : zS} {Q : zR → Prop} : zW d MX10_first 16 S Q = zGo d MX10_first (.bipush (-2)) (zv (.int (-2))) 18 S Q := zW_step (I := .bipush (-2)) rfl S Q
theorem eX10_first_18 {d : Nat} {S : zS} {Q : zR → Prop} : zW d MX10_first 18 S Q = zGo d MX10_first (.ireturn) z0 19 S Q := zW_step (I := .ireturn) rfl S Q
theorem eX10_first_19 {d : Nat} {S : zS} {Q : zR → Prop} : zW d MX10_first 19 S Q = zGo d MX10_first (.aload 0) z0 20 S Q := zW_step (I := .aload_n 0) rfl S Q
theorem eX10_first_20 {d : Nat} {S : zS} {Q : zR → Prop} : zW d MX10_first 20 S Q = zGo d MX10_first (.getfield 36) (zf 3 10 4) 23 S Q := zW_step (I := .getfield 36) rfl S Q
theorem eX10_first_23 {d : Nat} {S : zS} {Q : zR → Prop} : zW d MX10_first 23 S Q = zGo d MX10_first (.invokevirtual 205) (zc 78 1 6) 26 S Q := zW_step (I := .invokevirtual 205) rfl S Q
theorem eX10_first_26 {d : Nat} {S : zS} {Q : zR → Prop} : zW d MX10_first 26 S Q = zGo d MX10_first (.aload 0) z0 27 S Q := zW_step (I := .aload_n 0) rfl S Q
theorem eX10_first_27 {d : Nat} {S : zS} {Q : zR → Prop} : zW d MX10_first 27 S Q = zGo d MX10_first (.getfield 50) (zf 3 10 6) 30 S Q := zW_step (I := .getfield 50) rfl S Q
theorem eX10_first_30 {d : Nat} {S : zS} {Q : zR → Prop} : zW d MX10_first 30 S Q = zGo d MX10_first (.aload 0) z0 31 S Q := zW_step (I := .aload_n 0) rfl S Q
theorem eX10_first_31 {d : Nat} {S : zS} {Q : zR → Prop} : zW d MX10_first 31 S Q = zGo d MX10_first (.getfield 36) (zf 3 10 4) 34 S Q := zW_step (I := .getfield 36) rfl S Q
theorem eX10_first_34 {d : Nat} {S : zS} {Q : zR → Prop} : zW d MX10_first 34 S Q = zGo d MX10_first (.invokevirtual 219) (zc 58 2 4) 37 S Q := zW_step (I := .invokevirtual 219) rfl S Q
theorem eX10_first_37 {d : Nat} {S : zS} {Q : zR → Prop} : zW d MX10_first 37 S Q = zGo d MX10_first (.ireturn) z0 38 S Q := zW_step (I := .ireturn) rfl S Q
theorem rX10_first : MX10_first.2.2.2.2.1 = some .int := rfl
theorem eX10_before_0 {d : Nat} {S : zS} {Q : zR → Prop} : zW d MX10_before 0 S Q = zGo d MX10_before (.aload 0) z0 1 S Q := zW_step (I := .aload_n 0) rfl S Q
theorem eX10_before_1 {d : Nat} {S : zS} {Q : zR → Prop} : zW d MX10_before 1 S Q = zGo d MX10_before (.getfield 19) (zf 3 10 1) 4 S Q := zW_step (I := .getfield 19) rfl S Q
theorem eX10_before_4 {d : Nat} {S : zS} {Q : zR → Prop} : zW d MX10_before 4 S Q = zGo d MX10_before (.iload 1) z0 5 S Q := zW_step (I := .iload_n 1) rfl S Q
theorem eX10_before_5 {d : Nat} {S : zS} {Q : zR → Prop} : zW d MX10_before 5 S Q = zGo d MX10_before (.iload 2) z0 6 S Q := zW_step (I := .iload_n 2) rfl S Q
theorem eX10_before_6 {d : Nat} {S : zS} {Q : zR → Prop} : zW d MX10_before 6 S Q = zGo d MX10_before (.invokevirtual 162) (zc 108 3 9) 9 S Q := zW_step (I := .invokevirtual 162) rfl S Q
theorem eX10_before_9 {d : Nat} {S : zS} {Q : zR → Prop} : zW d MX10_before 9 S Q = zGo d MX10_before (.ifCond .ne 5) (zt 14) 12 S Q := zW_step (I := .ifCond .ne 5) rfl S Q
theorem eX10_before_12 {d : Nat} {S : zS} {Q : zR → Prop} : zW d MX10_before 12 S Q = zGo d MX10_before (.iconst (-1)) (zv (.int (-1))) 13 S Q := zW_step (I := .iconst (-1)) rfl S Q
theorem eX10_before_13 {d : Nat} {S : zS} {Q : zR → Prop} : zW d MX10_before 13 S Q = zGo d MX10_before (.ireturn) z0 14 S Q := zW_step (I := .ireturn) rfl S Q
theorem eX10_before_14 {d : Nat} {S : zS} {Q : zR → Prop} : zW d MX10_before 14 S Q = zGo d MX10_before (.aload 0) z0 15 S Q := zW_step (I := .aload_n 0) rfl S Q
theorem eX10_before_15 {d : Nat} {S : zS} {Q : zR → Prop} : zW d MX10_before 15 S Q = zGo d MX10_before (.getfield 50) (zf 3 10 6) 18 S Q := zW_step (I := .getfield 50) rfl S Q
theorem eX10_before_18 {d : Nat} {S : zS} {Q : zR → Prop} : zW d MX10_before 18 S Q = zGo d MX10_before (.aload 0) z0 19 S Q := zW_step (I := .aload_n 0) rfl S Q
theorem eX10_before_19 {d : Nat} {S : zS} {Q : zR → Prop} : zW d MX10_before 19 S Q = zGo d MX10_before (.getfield 19) (zf 3 10 1) 22 S Q := zW_step (I := .getfield 19) rfl S Q
theorem eX10_before_22 {d : Nat} {S : zS} {Q : zR → Prop} : zW d MX10_before 22 S Q = zGo d MX10_before (.invokevirtual 215) (zc 51 2 4) 25 S Q := zW_step (I := .invokevirtual 215) rfl S Q
theorem eX10_before_25 {d : Nat} {S : zS} {Q : zR → Prop} : zW d MX10_before 25 S Q = zGo d MX10_before (.lconst 0) (zv (.long 0)) 26 S Q := zW_step (I := .lconst 0) rfl S Q
theorem eX10_before_26 {d : Nat} {S : zS} {Q : zR → Prop} : zW d MX10_before 26 S Q = zGo d MX10_before (.lcmp) z0 27 S Q := zW_step (I := .lcmp) rfl S Q
theorem eX10_before_27 {d : Nat} {S : zS} {Q : zR → Prop} : zW d MX10_before 27 S Q = zGo d MX10_before (.ifCond .ne 6) (zt 33) 30 S Q := zW_step (I := .ifCond .ne 6) rfl S Q
theorem eX10_before_30 {d : Nat} {S : zS} {Q : zR → Prop} : zW d MX10_before 30 S Q = zGo d MX10_before (.bipush (-2)) (zv (.int (-2))) 32 S Q := zW_step (I := .bipush (-2)) rfl S Q
theorem eX10_before_32 {d : Nat} {S : zS} {Q : zR → Prop} : zW d MX10_before 32 S Q = zGo d MX10_before (.ireturn) z0 33 S Q := zW_step (I := .ireturn) rfl S Q
theorem eX10_before_33 {d : Nat} {S : zS} {Q : zR → Prop} : zW d MX10_before 33 S Q = zGo d MX10_before (.aload 0) z0 34 S Q := zW_step (I := .aload_n 0) rfl S Q
theorem eX10_before_34 {d : Nat} {S : zS} {Q : zR → Prop} : zW d MX10_before 34 S Q = zGo d MX10_before (.aload 0) z0 35 S Q := zW_step (I := .aload_n 0) rfl S Q
theorem eX10_before_35 {d : Nat} {S : zS} {Q : zR → Prop} : zW d MX10_before 35 S Q = zGo d MX10_before (.getfield 50) (zf 3 10 6) 38 S Q := zW_step (I := .getfield 50) rfl S Q
theorem eX10_before_38 {d : Nat} {S : zS} {Q : zR → Prop} : zW d MX10_before 38 S Q = zGo d MX10_before (.iload 1) z0 39 S Q := zW_step (I := .iload_n 1) rfl S Q
theorem eX10_before_39 {d : Nat} {S : zS} {Q : zR → Prop} : zW d MX10_before 39 S Q = zGo d MX10_before (.iload 2) z0 40 S Q := zW_step (I := .iload_n 2) rfl S Q
theorem eX10_before_40 {d : Nat} {S : zS} {Q : zR → Prop} : zW d MX10_before 40 S Q = zGo d MX10_before (.invokevirtual 223) (zc 59 3 4) 43 S Q := zW_step (I := .invokevirtual 223) rfl S Q
theorem eX10_before_43 {d : Nat} {S : zS} {Q : zR → Prop} : zW d MX10_before 43 S Q = zGo d MX10_before (.invokevirtual 227) (zc 178 2 10) 46 S Q := zW_step (I := .invokevirtual 227) rfl S Q
theorem eX10_before_46 {d : Nat} {S : zS} {Q : zR → Prop} : zW d MX10_before 46 S Q = zGo d MX10_before (.ireturn) z0 47 S Q := zW_step (I := .ireturn) rfl S Q
theorem rX10_before : MX10_before.2.2.2.2.1 = some .int := rfl
theorem eX10_met_0 {d : Nat} {S : zS} {Q : zR → Prop} : zW d MX10_met 0 S Q = zGo d MX10_met (.aload 0) z0 1 S Q := zW_step (I := .aload_n 0) rfl S Q
theorem eX10_met_1 {d : Nat} {S : zS} {Q : zR → Prop} : zW d MX10_met 1 S Q = zGo d MX10_met (.getfield 19) (zf 3 10 1) 4 S Q := zW_step (I := .getfield 19) rfl S Q
theorem eX10_met_4 {d : Nat} {S : zS} {Q : zR → Prop} : zW d MX10_met 4 S Q = zGo d MX10_met (.iload 1) z0 5 S Q := zW_step (I := .iload_n 1) rfl S Q
theorem eX10_met_5 {d : Nat} {S : zS} {Q : zR → Prop} : zW d MX10_met 5 S Q = zGo d MX10_met (.iload 2) z0 6 S Q := zW_step (I := .iload_n 2) rfl S Q
theorem eX10_met_6 {d : Nat} {S : zS} {Q : zR → Prop} : zW d MX10_met 6 S Q = zGo d MX10_met (.invokevirtual 162) (zc 108 3 9) 9 S Q := zW_step (I := .invokevirtual 162) rfl S Q
theorem eX10_met_9 {d : Nat} {S : zS} {Q : zR → Prop} : zW d MX10_met 9 S Q = zGo d MX10_met (.ifCond .ne 5) (zt 14) 12 S Q := zW_step (I := .ifCond .ne 5) rfl S Q
theorem eX10_met_12 {d : Nat} {S : zS} {Q : zR → Prop} : zW d MX10_met 12 S Q = zGo d MX10_met (.iconst (-1)) (zv (.int (-1))) 13 S Q := zW_step (I := .iconst (-1)) rfl S Q
theorem eX10_met_13 {d : Nat} {S : zS} {Q : zR → Prop} : zW d MX10_met 13 S Q = zGo d MX10_met (.ireturn) z0 14 S Q := zW_step (I := .ireturn) rfl S Q
theorem eX10_met_14 {d : Nat} {S : zS} {Q : zR → Prop} : zW d MX10_met 14 S Q = zGo d MX10_met (.aload 0) z0 15 S Q := zW_step (I := .aload_n 0) rfl S Q
theorem eX10_met_15 {d : Nat} {S : zS} {Q : zR → Prop} : zW d MX10_met 15 S Q = zGo d MX10_met (.getfield 50) (zf 3 10 6) 18 S Q := zW_step (I := .getfield 50) rfl S Q
theorem eX10_met_18 {d : Nat} {S : zS} {Q : zR → Prop} : zW d MX10_met 18 S Q = zGo d MX10_met (.aload 0) z0 19 S Q := zW_step (I := .aload_n 0) rfl S Q
theorem eX10_met_19 {d : Nat} {S : zS} {Q : zR → Prop} : zW d MX10_met 19 S Q = zGo d MX10_met (.getfield 19) (zf 3 10 1) 22 S Q := zW_step (I := .getfield 19) rfl S Q
theorem eX10_met_22 {d : Nat} {S : zS} {Q : zR → Prop} : zW d MX10_met 22 S Q = zGo d MX10_met (.invokevirtual 215) (zc 51 2 4) 25 S Q := zW_step (I := .invokevirtual 215) rfl S Q
theorem eX10_met_25 {d : Nat} {S : zS} {Q : zR → Prop} : zW d MX10_met 25 S Q = zGo d MX10_met (.lconst 0) (zv (.long 0)) 26 S Q := zW_step (I := .lconst 0) rfl S Q
theorem eX10_met_26 {d : Nat} {S : zS} {Q : zR → Prop} : zW d MX10_met 26 S Q = zGo d MX10_met (.lcmp) z0 27 S Q := zW_step (I := .lcmp) rfl S Q
theorem eX10_met_27 {d : Nat} {S : zS} {Q : zR → Prop} : zW d MX10_met 27 S Q = zGo d MX10_met (.ifCond .ne 6) (zt 33) 30 S Q := zW_step (I := .ifCond .ne 6) rfl S Q
theorem eX10_met_30 {d : Nat} {S : zS} {Q : zR → Prop} : zW d MX10_met 30 S Q = zGo d MX10_met (.bipush (-2)) (zv (.int (-2))) 32 S Q := zW_step (I := .bipush (-2)) rfl S Q
theorem eX10_met_32 {d : Nat} {S : zS} {Q : zR → Prop} : zW d MX10_met 32 S Q = zGo d MX10_met (.ireturn) z0 33 S Q := zW_step (I := .ireturn) rfl S Q
theorem eX10_met_33 {d : Nat} {S : zS} {Q : zR → Prop} : zW d MX10_met 33 S Q = zGo d MX10_met (.aload 0) z0 34 S Q := zW_step (I := .aload_n 0) rfl S Q
theorem eX10_met_34 {d : Nat} {S : zS} {Q : zR → Prop} : zW d MX10_met 34 S Q = zGo d MX10_met (.aload 0) z0 35 S Q := zW_step (I := .aload_n 0) rfl S Q
theorem eX10_met_35 {d : Nat} {S : zS} {Q : zR → Prop} : zW d MX10_met 35 S Q = zGo d MX10_met (.getfield 50) (zf 3 10 6) 38 S Q := zW_step (I := .getfield 50) rfl S Q
theorem eX10_met_38 {d : Nat} {S : zS} {Q : zR → Prop} : zW d MX10_met 38 S Q = zGo d MX10_met (.iload 1) z0 39 S Q := zW_step (I := .iload_n 1) rfl S Q
theorem eX10_met_39 {d : Nat} {S : zS} {Q : zR → Prop} : zW d MX10_met 39 S Q = zGo d MX10_met (.iload 2) z0 40 S Q := zW_step (I := .iload_n 2) rfl S Q
theorem eX10_met_40 {d : Nat} {S : zS} {Q : zR → Prop} : zW d MX10_met 40 S Q = zGo d MX10_met (.invokevirtual 231) (zc 60 3 4) 43 S Q := zW_step (I := .invokevirtual 231) rfl S Q
theorem eX10_met_43 {d : Nat} {S : zS} {Q : zR → Prop} : zW d MX10_met 43 S Q = zGo d MX10_met (.invokevirtual 227) (zc 178 2 10) 46 S Q := zW_step (I := .invokevirtual 227) rfl S Q
theorem eX10_met_46 {d : Nat} {S : zS} {Q : zR → Prop} : zW d MX10_met 46 S Q = zGo d MX10_met (.ireturn) z0 47 S Q := zW_step (I := .ireturn) rfl S Q
theorem rX10_met : MX10_met.2.2.2.2.1 = some .int := rfl
theorem eX10_place_0 {d : Nat} {S : zS} {Q : zR → Prop} : zW d MX10_place 0 S Q = zGo d MX10_place (.aload 0) z0 1 S Q := zW_step (I := .aload_n 0) rfl S Q
theorem eX10_place_1 {d : Nat} {S : zS} {Q : zR → Prop} : zW d MX10_place 1 S Q = zGo d MX10_place (.getfield 19) (zf 3 10 1) 4 S Q := zW_step (I := .getfield 19) rfl S Q
theorem eX10_place_4 {d : Nat} {S : zS} {Q : zR → Prop} : zW d MX10_place 4 S Q = zGo d MX10_place (.iload 1) z0 5 S Q := zW_step (I := .iload_n 1) rfl S Q
theorem eX10_place_5 {d : Nat} {S : zS} {Q : zR → Prop} : zW d MX10_place 5 S Q = zGo d MX10_place (.invokevirtual 143) (zc 107 2 9) 8 S Q := zW_step (I := .invokevirtual 143) rfl S Q
theorem eX10_place_8 {d : Nat} {S : zS} {Q : zR → Prop} : zW d MX10_place 8 S Q = zGo d MX10_place (.ifCond .eq 14) (zt 22) 11 S Q := zW_step (I := .ifCond .eq 14) rfl S Q
theorem eX10_place_11 {d : Nat} {S : zS} {Q : zR → Prop} : zW d MX10_place 11 S Q = zGo d MX10_place (.aload 0) z0 12 S Q := zW_step (I := .aload_n 0) rfl S Q
theorem eX10_place_12 {d : Nat} {S : zS} {Q : zR → Prop} : zW d MX10_place 12 S Q = zGo d MX10_place (.getfield 19) (zf 3 10 1) 15 S Q := zW_step (I := .getfield 19) rfl S Q
theorem eX10_place_15 {d : Nat} {S : zS} {Q : zR → Prop} : zW d MX10_place 15 S Q = zGo d MX10_place (.iload 2) z0 16 S Q := zW_step (I := .iload_n 2) rfl S Q
theorem eX10_place_16 {d : Nat} {S : zS} {Q : zR → Prop} : zW d MX10_place 16 S Q = zGo d MX10_place (.invokevirtual 143) (zc 107 2 9) 19 S Q := zW_step (I := .invokevirtual 143) rfl S Q
theorem eX10_place_19 {d : Nat} {S : zS} {Q : zR → Prop} : zW d MX10_place 19 S Q = zGo d MX10_place (.ifCond .ne 5) (zt 24) 22 S Q := zW_step (I := .ifCond .ne 5) rfl S Q
theorem eX10_place_22 {d : Nat} {S : zS} {Q : zR → Prop} : zW d MX10_place 22 S Q = zGo d MX10_place (.iconst (-1)) (zv (.int (-1))) 23 S Q := zW_step (I := .iconst (-1)) rfl S Q
theorem eX10_place_23 {d : Nat} {S : zS} {Q : zR → Prop} : zW d MX10_place 23 S Q = zGo d MX10_place (.ireturn) z0 24 S Q := zW_step (I := .ireturn) rfl S Q
theorem eX10_place_24 {d : Nat} {S : zS} {Q : zR → Prop} : zW d MX10_place 24 S Q = zGo d MX10_place (.aload 0) z0 25 S Q := zW_step (I := .aload_n 0) rfl S Q
theorem eX10_place_25 {d : Nat} {S : zS} {Q : zR → Prop} : zW d MX10_place 25 S Q = zGo d MX10_place (.getfield 50) (zf 3 10 6) 28 S Q := zW_step (I := .getfield 50) rfl S Q
theorem eX10_place_28 {d : Nat} {S : zS} {Q : zR → Prop} : zW d MX10_place 28 S Q = zGo d MX10_place (.aload 0) z0 29 S Q := zW_step (I := .aload_n 0) rfl S Q
theorem eX10_place_29 {d : Nat} {S : zS} {Q : zR → Prop} : zW d MX10_place 29 S Q = zGo d MX10_place (.getfield 19) (zf 3 10 1) 32 S Q := zW_step (I := .getfield 19) rfl S Q
theorem eX10_place_32 {d : Nat} {S : zS} {Q : zR → Prop} : zW d MX10_place 32 S Q = zGo d MX10_place (.invokevirtual 215) (zc 51 2 4) 35 S Q := zW_step (I := .invokevirtual 215) rfl S Q
theorem eX10_place_35 {d : Nat} {S : zS} {Q : zR → Prop} : zW d MX10_place 35 S Q = zGo d MX10_place (.lconst 0) (zv (.long 0)) 36 S Q := zW_step (I := .lconst 0) rfl S Q
theorem eX10_place_36 {d : Nat} {S : zS} {Q : zR → Prop} : zW d MX10_place 36 S Q = zGo d MX10_place (.lcmp) z0 37 S Q := zW_step (I := .lcmp) rfl S Q
theorem eX10_place_37 {d : Nat} {S : zS} {Q : zR → Prop} : zW d MX10_place 37 S Q = zGo d MX10_place (.ifCond .ne 6) (zt 43) 40 S Q := zW_step (I := .ifCond .ne 6) rfl S Q
theorem eX10_place_40 {d : Nat} {S : zS} {Q : zR → Prop} : zW d MX10_place 40 S Q = zGo d MX10_place (.bipush (-2)) (zv (.int (-2))) 42 S Q := zW_step (I := .bipush (-2)) rfl S Q
theorem eX10_place_42 {d : Nat} {S : zS} {Q : zR → Prop} : zW d MX10_place 42 S Q = zGo d MX10_place (.ireturn) z0 43 S Q := zW_step (I := .ireturn) rfl S Q
theorem eX10_place_43 {d : Nat} {S : zS} {Q : zR → Prop} : zW d MX10_place 43 S Q = zGo d MX10_place (.aload 0) z0 44 S Q := zW_step (I := .aload_n 0) rfl S Q
theorem eX10_place_44 {d : Nat} {S : zS} {Q : zR → Prop} : zW d MX10_place 44 S Q = zGo d MX10_place (.aload 0) z0 45 S Q := zW_step (I := .aload_n 0) rfl S Q
theorem eX10_place_45 {d : Nat} {S : zS} {Q : zR → Prop} : zW d MX10_place 45 S Q = zGo d MX10_place (.getfield 50) (zf 3 10 6) 48 S Q := zW_step (I := .getfield 50) rfl S Q
theorem eX10_place_48 {d : Nat} {S : zS} {Q : zR → Prop} : zW d MX10_place 48 S Q = zGo d MX10_place (.iload 1) z0 49 S Q := zW_step (I := .iload_n 1) rfl S Q
theorem eX10_place_49 {d : Nat} {S : zS} {Q : zR → Prop} : zW d MX10_place 49 S Q = zGo d MX10_place (.iload 2) z0 50 S Q := zW_step (I := .iload_n 2) rfl S Q
theorem eX10_place_50 {d : Nat} {S : zS} {Q : zR → Prop} : zW d MX10_place 50 S Q = zGo d MX10_place (.invokevirtual 234) (zc 61 3 4) 53 S Q := zW_step (I := .invokevirtual 234) rfl S Q
theorem eX10_place_53 {d : Nat} {S : zS} {Q : zR → Prop} : zW d MX10_place 53 S Q = zGo d MX10_place (.invokevirtual 227) (zc 178 2 10) 56 S Q := zW_step (I := .invokevirtual 227) rfl S Q
theorem eX10_place_56 {d : Nat} {S : zS} {Q : zR → Prop} : zW d MX10_place 56 S Q = zGo d MX10_place (.ireturn) z0 57 S Q := zW_step (I := .ireturn) rfl S Q
theorem rX10_place : MX10_place.2.2.2.2.1 = some .int := rfl
theorem eX10_share_0 {d : Nat} {S : zS} {Q : zR → Prop} : zW d MX10_share 0 S Q = zGo d MX10_share (.aload 0) z0 1 S Q := zW_step (I := .aload_n 0) rfl S Q
theorem eX10_share_1 {d : Nat} {S : zS} {Q : zR → Prop} : zW d MX10_share 1 S Q = zGo d MX10_share (.getfield 36) (zf 3 10 4) 4 S Q := zW_step (I := .getfield 36) rfl S Q
theorem eX10_share_4 {d : Nat} {S : zS} {Q : zR → Prop} : zW d MX10_share 4 S Q = zGo d MX10_share (.invokevirtual 205) (zc 78 1 6) 7 S Q := zW_step (I := .invokevirtual 205) rfl S Q
theorem eX10_share_7 {d : Nat} {S : zS} {Q : zR → Prop} : zW d MX10_share 7 S Q = zGo d MX10_share (.aload 0) z0 8 S Q := zW_step (I := .aload_n 0) rfl S Q
theorem eX10_share_8 {d : Nat} {S : zS} {Q : zR → Prop} : zW d MX10_share 8 S Q = zGo d MX10_share (.getfield 36) (zf 3 10 4) 11 S Q := zW_step (I := .getfield 36) rfl S Q
theorem eX10_share_11 {d : Nat} {S : zS} {Q : zR → Prop} : zW d MX10_share 11 S Q = zGo d MX10_share (.lload 1) z0 12 S Q := zW_step (I := .lload_n 1) rfl S Q
theorem eX10_share_12 {d : Nat} {S : zS} {Q : zR → Prop} : zW d MX10_share 12 S Q = zGo d MX10_share (.aload 0) z0 13 S Q := zW_step (I := .aload_n 0) rfl S Q
theorem eX10_share_13 {d : Nat} {S : zS} {Q : zR → Prop} : zW d MX10_share 13 S Q = zGo d MX10_share (.getfield 50) (zf 3 10 6) 16 S Q := zW_step (I := .getfield 50) rfl S Q
theorem eX10_share_16 {d : Nat} {S : zS} {Q : zR → Prop} : zW d MX10_share 16 S Q = zGo d MX10_share (.aload 0) z0 17 S Q := zW_step (I := .aload_n 0) rfl S Q
theorem eX10_share_17 {d : Nat} {S : zS} {Q : zR → Prop} : zW d MX10_share 17 S Q = zGo d MX10_share (.getfield 19) (zf 3 10 1) 20 S Q := zW_step (I := .getfield 19) rfl S Q
theorem eX10_share_20 {d : Nat} {S : zS} {Q : zR → Prop} : zW d MX10_share 20 S Q = zGo d MX10_share (.invokevirtual 215) (zc 51 2 4) 23 S Q := zW_step (I := .invokevirtual 215) rfl S Q
theorem eX10_share_23 {d : Nat} {S : zS} {Q : zR → Prop} : zW d MX10_share 23 S Q = zGo d MX10_share (.invokevirtual 319) (zc 80 3 6) 26 S Q := zW_step (I := .invokevirtual 319) rfl S Q
theorem eX10_share_26 {d : Nat} {S : zS} {Q : zR → Prop} : zW d MX10_share 26 S Q = zGo d MX10_share (.iconst 0) (zv (.int 0)) 27 S Q := zW_step (I := .iconst 0) rfl S Q
theorem eX10_share_27 {d : Nat} {S : zS} {Q : zR → Prop} : zW d MX10_share 27 S Q = zGo d MX10_share (.ireturn) z0 28 S Q := zW_step (I := .ireturn) rfl S Q
theorem rX10_share : MX10_share.2.2.2.2.1 = some .int := rfl
theorem eX10_most_0 {d : Nat} {S : zS} {Q : zR → Prop} : zW d MX10_most 0 S Q = zGo d MX10_most (.aload 0) z0 1 S Q := zW_step (I := .aload_n 0) rfl S Q
theorem eX10_most_1 {d : Nat} {S : zS} {Q : zR → Prop} : zW d MX10_most 1 S Q = zGo d MX10_most (.getfield 50) (zf 3 10 6) 4 S Q := zW_step (I := .getfield 50) rfl S Q
theorem eX10_most_4 {d : Nat} {S : zS} {Q : zR → Prop} : zW d MX10_most 4 S Q = zGo d MX10_most (.aload 0) z0 5 S Q := zW_step (I := .aload_n 0) rfl S Q
theorem eX10_most_5 {d : Nat} {S : zS} {Q : zR → Prop} : zW d MX10_most 5 S Q = zGo d MX10_most (.getfield 19) (zf 3 10 1) 8 S Q := zW_step (I := .getfield 19) rfl S Q
theorem eX10_most_8 {d : Nat} {S : zS} {Q : zR → Prop} : zW d MX10_most 8 S Q = zGo d MX10_most (.invokevirtual 215) (zc 51 2 4) 11 S Q := zW_step (I := .invokevirtual 215) rfl S Q
theorem eX10_most_11 {d : Nat} {S : zS} {Q : zR → Prop} : zW d MX10_most 11 S Q = zGo d MX10_most (.lconst 0) (zv (.long 0)) 12 S Q := zW_step (I := .lconst 0) rfl S Q
theorem eX10_most_12 {d : Nat} {S : zS} {Q : zR → Prop} : zW d MX10_most 12 S Q = zGo d MX10_most (.lcmp) z0 13 S Q := zW_step (I := .lcmp) rfl S Q
theorem eX10_most_13 {d : Nat} {S : zS} {Q : zR → Prop} : zW d MX10_most 13 S Q = zGo d MX10_most (.ifCond .ne 6) (zt 19) 16 S Q := zW_step (I := .ifCond .ne 6) rfl S Q
theorem eX10_most_16 {d : Nat} {S : zS} {Q : zR → Prop} : zW d MX10_most 16 S Q = zGo d MX10_most (.bipush (-2)) (zv (.int (-2))) 18 S Q := zW_step (I := .bipush (-2)) rfl S Q
theorem eX10_most_18 {d : Nat} {S : zS} {Q : zR → Prop} : zW d MX10_most 18 S Q = zGo d MX10_most (.ireturn) z0 19 S Q := zW_step (I := .ireturn) rfl S Q
theorem eX10_most_19 {d : Nat} {S : zS} {Q : zR → Prop} : zW d MX10_most 19 S Q = zGo d MX10_most (.aload 0) z0 20 S Q := zW_step (I := .aload_n 0) rfl S Q
theorem eX10_most_20 {d : Nat} {S : zS} {Q : zR → Prop} : zW d MX10_most 20 S Q = zGo d MX10_most (.getfield 50) (zf 3 10 6) 23 S Q := zW_step (I := .getfield 50) rfl S Q
theorem eX10_most_23 {d : Nat} {S : zS} {Q : zR → Prop} : zW d MX10_most 23 S Q = zGo d MX10_most (.invokevirtual 240) (zc 64 1 4) 26 S Q := zW_step (I := .invokevirtual 240) rfl S Q
theorem eX10_most_26 {d : Nat} {S : zS} {Q : zR → Prop} : zW d MX10_most 26 S Q = zGo d MX10_most (.istore 1) z0 27 S Q := zW_step (I := .istore_n 1) rfl S Q
theorem eX10_most_27 {d : Nat} {S : zS} {Q : zR → Prop} : zW d MX10_most 27 S Q = zGo d MX10_most (.aload 0) z0 28 S Q := zW_step (I := .aload_n 0) rfl S Q
theorem eX10_most_28 {d : Nat} {S : zS} {Q : zR → Prop} : zW d MX10_most 28 S Q = zGo d MX10_most (.getfield 36) (zf 3 10 4) 31 S Q := zW_step (I := .getfield 36) rfl S Q
theorem eX10_most_31 {d : Nat} {S : zS} {Q : zR → Prop} : zW d MX10_most 31 S Q = zGo d MX10_most (.invokevirtual 205) (zc 78 1 6) 34 S Q := zW_step (I := .invokevirtual 205) rfl S Q
theorem eX10_most_34 {d : Nat} {S : zS} {Q : zR → Prop} : zW d MX10_most 34 S Q = zGo d MX10_most (.aload 0) z0 35 S Q := zW_step (I := .aload_n 0) rfl S Q
theorem eX10_most_35 {d : Nat} {S : zS} {Q : zR → Prop} : zW d MX10_most 35 S Q = zGo d MX10_most (.getfield 36) (zf 3 10 4) 38 S Q := zW_step (I := .getfield 36) rfl S Q
theorem eX10_most_38 {d : Nat} {S : zS} {Q : zR → Prop} : zW d MX10_most 38 S Q = zGo d MX10_most (.iload 1) z0 39 S Q := zW_step (I := .iload_n 1) rfl S Q
theorem eX10_most_39 {d : Nat} {S : zS} {Q : zR → Prop} : zW d MX10_most 39 S Q = zGo d MX10_most (.i2l) z0 40 S Q := zW_step (I := .i2l) rfl S Q
theorem eX10_most_40 {d : Nat} {S : zS} {Q : zR → Prop} : zW d MX10_most 40 S Q = zGo d MX10_most (.invokevirtual 206) (zc 79 2 6) 43 S Q := zW_step (I := .invokevirtual 206) rfl S Q
theorem eX10_most_43 {d : Nat} {S : zS} {Q : zR → Prop} : zW d MX10_most 43 S Q = zGo d MX10_most (.iload 1) z0 44 S Q := zW_step (I := .iload_n 1) rfl S Q
theorem eX10_most_44 {d : Nat} {S : zS} {Q : zR → Prop} : zW d MX10_most 44 S Q = zGo d MX10_most (.invokestatic 243) (zc 292 1 0) 47 S Q := zW_step (I := .invokestatic 243) rfl S Q
theorem eX10_most_47 {d : Nat} {S : zS} {Q : zR → Prop} : zW d MX10_most 47 S Q = zGo d MX10_most (.ireturn) z0 48 S Q := zW_step (I := .ireturn) rfl S Q
theorem rX10_most : MX10_most.2.2.2.2.1 = some .int := rfl
theorem eX10_evening_0 {d : Nat} {S : zS} {Q : zR → Prop} : zW d MX10_evening 0 S Q = zGo d MX10_evening (.iload 1) z0 1 S Q := zW_step (I := .iload_n 1) rfl S Q
theorem eX10_evening_1 {d : Nat} {S : zS} {Q : zR → Prop} : zW d MX10_evening 1 S Q = zGo d MX10_evening (.aload 0) z0 2 S Q := zW_step (I := .aload_n 0) rfl S Q
theorem eX10_evening_2 {d : Nat} {S : zS} {Q : zR → Prop} : zW d MX10_evening 2 S Q = zGo d MX10_evening (.getfield 19) (zf 3 10 1) 5 S Q := zW_step (I := .getfield 19) rfl S Q
theorem eX10_evening_5 {d : Nat} {S : zS} {Q : zR → Prop} : zW d MX10_evening 5 S Q = zGo d MX10_evening (.invokevirtual 248) (zc 109 1 9) 8 S Q := zW_step (I := .invokevirtual 248) rfl S Q
theorem eX10_evening_8 {d : Nat} {S : zS} {Q : zR → Prop} : zW d MX10_evening 8 S Q = zGo d MX10_evening (.iconst (-1)) (zv (.int (-1))) 9 S Q := zW_step (I := .iconst (-1)) rfl S Q
theorem eX10_evening_9 {d : Nat} {S : zS} {Q : zR → Prop} : zW d MX10_evening 9 S Q = zGo d MX10_evening (.ixor) z0 10 S Q := zW_step (I := .ixor) rfl S Q
theorem eX10_evening_10 {d : Nat} {S : zS} {Q : zR → Prop} : zW d MX10_evening 10 S Q = zGo d MX10_evening (.iand) z0 11 S Q := zW_step (I := .iand) rfl S Q
theorem eX10_evening_11 {d : Nat} {S : zS} {Q : zR → Prop} : zW d MX10_evening 11 S Q = zGo d MX10_evening (.ifCond .eq 5) (zt 16) 14 S Q := zW_step (I := .ifCond .eq 5) rfl S Q
theorem eX10_evening_14 {d : Nat} {S : zS} {Q : zR → Prop} : zW d MX10_evening 14 S Q = zGo d MX10_evening (.iconst (-1)) (zv (.int (-1))) 15 S Q := zW_step (I := .iconst (-1)) rfl S Q
theorem eX10_evening_15 {d : Nat} {S : zS} {Q : zR → Prop} : zW d MX10_evening 15 S Q = zGo d MX10_evening (.ireturn) z0 16 S Q := zW_step (I := .ireturn) rfl S Q
theorem eX10_evening_16 {d : Nat} {S : zS} {Q : zR → Prop} : zW d MX10_evening 16 S Q = zGo d MX10_evening (.aload 0) z0 17 S Q := zW_step (I := .aload_n 0) rfl S Q
theorem eX10_evening_17 {d : Nat} {S : zS} {Q : zR → Prop} : zW d MX10_evening 17 S Q = zGo d MX10_evening (.getfield 50) (zf 3 10 6) 20 S Q := zW_step (I := .getfield 50) rfl S Q
theorem eX10_evening_20 {d : Nat} {S : zS} {Q : zR → Prop} : zW d MX10_evening 20 S Q = zGo d MX10_evening (.aload 0) z0 21 S Q := zW_step (I := .aload_n 0) rfl S Q
theorem eX10_evening_21 {d : Nat} {S : zS} {Q : zR → Prop} : zW d MX10_evening 21 S Q = zGo d MX10_evening (.getfield 19) (zf 3 10 1) 24 S Q := zW_step (I := .getfield 19) rfl S Q
theorem eX10_evening_24 {d : Nat} {S : zS} {Q : zR → Prop} : zW d MX10_evening 24 S Q = zGo d MX10_evening (.invokevirtual 215) (zc 51 2 4) 27 S Q := zW_step (I := .invokevirtual 215) rfl S Q
theorem eX10_evening_27 {d : Nat} {S : zS} {Q : zR → Prop} : zW d MX10_evening 27 S Q = zGo d MX10_evening (.lstore 2) z0 28 S Q := zW_step (I := .lstore_n 2) rfl S Q
theorem eX10_evening_28 {d : Nat} {S : zS} {Q : zR → Prop} : zW d MX10_evening 28 S Q = zGo d MX10_evening (.lload 2) z0 29 S Q := zW_step (I := .lload_n 2) rfl S Q
theorem eX10_evening_29 {d : Nat} {S : zS} {Q : zR → Prop} : zW d MX10_evening 29 S Q = zGo d MX10_evening (.lconst 0) (zv (.long 0)) 30 S Q := zW_step (I := .lconst 0) rfl S Q
theorem eX10_evening_30 {d : Nat} {S : zS} {Q : zR → Prop} : zW d MX10_evening 30 S Q = zGo d MX10_evening (.lcmp) z0 31 S Q := zW_step (I := .lcmp) rfl S Q
theorem eX10_evening_31 {d : Nat} {S : zS} {Q : zR → Prop} : zW d MX10_evening 31 S Q = zGo d MX10_evening (.ifCond .ne 6) (zt 37) 34 S Q := zW_step (I := .ifCond .ne 6) rfl S Q
theorem eX10_evening_34 {d : Nat} {S : zS} {Q : zR → Prop} : zW d MX10_evening 34 S Q = zGo d MX10_evening (.bipush (-2)) (zv (.int (-2))) 36 S Q := zW_step (I := .bipush (-2)) rfl S Q
theorem eX10_evening_36 {d : Nat} {S : zS} {Q : zR → Prop} : zW d MX10_evening 36 S Q = zGo d MX10_evening (.ireturn) z0 37 S Q := zW_step (I := .ireturn) rfl S Q
theorem eX10_evening_37 {d : Nat} {S : zS} {Q : zR → Prop} : zW d MX10_evening 37 S Q = zGo d MX10_evening (.lload 2) z0 38 S Q := zW_step (I := .lload_n 2) rfl S Q
theorem eX10_evening_38 {d : Nat} {S : zS} {Q : zR → Prop} : zW d MX10_evening 38 S Q = zGo d MX10_evening (.aload 0) z0 39 S Q := zW_step (I := .aload_n 0) rfl S Q
theorem eX10_evening_39 {d : Nat} {S : zS} {Q : zR → Prop} : zW d MX10_evening 39 S Q = zGo d MX10_evening (.getfield 50) (zf 3 10 6) 42 S Q := zW_step (I := .getfield 50) rfl S Q
theorem eX10_evening_42 {d : Nat} {S : zS} {Q : zR → Prop} : zW d MX10_evening 42 S Q = zGo d MX10_evening (.bipush 7) (zv (.int 7)) 44 S Q := zW_step (I := .bipush 7) rfl S Q
theorem eX10_evening_44 {d : Nat} {S : zS} {Q : zR → Prop} : zW d MX10_evening 44 S Q = zGo d MX10_evening (.iload 1) z0 45 S Q := zW_step (I := .iload_n 1) rfl S Q
theorem eX10_evening_45 {d : Nat} {S : zS} {Q : zR → Prop} : zW d MX10_evening 45 S Q = zGo d MX10_evening (.invokevirtual 237) (zc 62 3 4) 48 S Q := zW_step (I := .invokevirtual 237) rfl S Q
theorem eX10_evening_48 {d : Nat} {S : zS} {Q : zR → Prop} : zW d MX10_evening 48 S Q = zGo d MX10_evening (.lsub) z0 49 S Q := zW_step (I := .lsub) rfl S Q
theorem eX10_evening_49 {d : Nat} {S : zS} {Q : zR → Prop} : zW d MX10_evening 49 S Q = zGo d MX10_evening (.lstore 4) z0 51 S Q := zW_step (I := .lstore 4) rfl S Q
theorem eX10_evening_51 {d : Nat} {S : zS} {Q : zR → Prop} : zW d MX10_evening 51 S Q = zGo d MX10_evening (.aload 0) z0 52 S Q := zW_step (I := .aload_n 0) rfl S Q
theorem eX10_evening_52 {d : Nat} {S : zS} {Q : zR → Prop} : zW d MX10_evening 52 S Q = zGo d MX10_evening (.lload 4) z0 54 S Q := zW_step (I := .lload 4) rfl S Q
theorem eX10_evening_54 {d : Nat} {S : zS} {Q : zR → Prop} : zW d MX10_evening 54 S Q = zGo d MX10_evening (.invokevirtual 227) (zc 178 2 10) 57 S Q := zW_step (I := .invokevirtual 227) rfl S Q
theorem eX10_evening_57 {d : Nat} {S : zS} {Q : zR → Prop} : zW d MX10_evening 57 S Q = zGo d MX10_evening (.pop) z0 58 S Q := zW_step (I := .pop) rfl S Q
theorem eX10_evening_58 {d : Nat} {S : zS} {Q : zR → Prop} : zW d MX10_evening 58 S Q = zGo d MX10_evening (.lload 4) z0 60 S Q := zW_step (I := .lload 4) rfl S Q
theorem eX10_evening_60 {d : Nat} {S : zS} {Q : zR → Prop} : zW d MX10_evening 60 S Q = zGo d MX10_evening (.lconst 0) (zv (.long 0)) 61 S Q := zW_step (I := .lconst 0) rfl S Q
theorem eX10_evening_61 {d : Nat} {S : zS} {Q : zR → Prop} : zW d MX10_evening 61 S Q = zGo d MX10_evening (.lcmp) z0 62 S Q := zW_step (I := .lcmp) rfl S Q
theorem eX10_evening_62 {d : Nat} {S : zS} {Q : zR → Prop} : zW d MX10_evening 62 S Q = zGo d MX10_evening (.ifCond .le 7) (zt 69) 65 S Q := zW_step (I := .ifCond .le 7) rfl S Q
theorem eX10_evening_65 {d : Nat} {S : zS} {Q : zR → Prop} : zW d MX10_evening 65 S Q = zGo d MX10_evening (.iconst 1) (zv (.int 1)) 66 S Q := zW_step (I := .iconst 1) rfl S Q
theorem eX10_evening_66 {d : Nat} {S : zS} {Q : zR → Prop} : zW d MX10_evening 66 S Q = zGo d MX10_evening (.goto 4) (zt 70) 69 S Q := zW_step (I := .goto 4) rfl S Q
theorem eX10_evening_69 {d : Nat} {S : zS} {Q : zR → Prop} : zW d MX10_evening 69 S Q = zGo d MX10_evening (.iconst 0) (zv (.int 0)) 70 S Q := zW_step (I := .iconst 0) rfl S Q
theorem eX10_evening_70 {d : Nat} {S : zS} {Q : zR → Prop} : zW d MX10_evening 70 S Q = zGo d MX10_evening (.ireturn) z0 71 S Q := zW_step (I := .ireturn) rfl S Q
theorem rX10_evening : MX10_evening.2.2.2.2.1 = some .int := rfl
theorem eX10_beds_0 {d : Nat} {S : zS} {Q : zR → Prop} : zW d MX10_beds 0 S Q = zGo d MX10_beds (.aload 0) z0 1 S Q := zW_step (I := .aload_n 0) rfl S Q
theorem eX10_beds_1 {d : Nat} {S : zS} {Q : zR → Prop} : zW d MX10_beds 1 S Q = zGo d MX10_beds (.getfield 50) (zf 3 10 6) 4 S Q := zW_step (I := .getfield 50) rfl S Q
theorem eX10_beds_4 {d : Nat} {S : zS} {Q : zR → Prop} : zW d MX10_beds 4 S Q = zGo d MX10_beds (.aload 0) z0 5 S Q := zW_step (I := .aload_n 0) rfl S Q
theorem eX10_beds_5 {d : Nat} {S : zS} {Q : zR → Prop} : zW d MX10_beds 5 S Q = zGo d MX10_beds (.getfield 19) (zf 3 10 1) 8 S Q := zW_step (I := .getfield 19) rfl S Q
theorem eX10_beds_8 {d : Nat} {S : zS} {Q : zR → Prop} : zW d MX10_beds 8 S Q = zGo d MX10_beds (.invokevirtual 215) (zc 51 2 4) 11 S Q := zW_step (I := .invokevirtual 215) rfl S Q
theorem eX10_beds_11 {d : Nat} {S : zS} {Q : zR → Prop} : zW d MX10_beds 11 S Q = zGo d MX10_beds (.lconst 0) (zv (.long 0)) 12 S Q := zW_step (I := .lconst 0) rfl S Q
theorem eX10_beds_12 {d : Nat} {S : zS} {Q : zR → Prop} : zW d MX10_beds 12 S Q = zGo d MX10_beds (.lcmp) z0 13 S Q := zW_step (I := .lcmp) rfl S Q
theorem eX10_beds_13 {d : Nat} {S : zS} {Q : zR → Prop} : zW d MX10_beds 13 S Q = zGo d MX10_beds (.ifCond .ne 6) (zt 19) 16 S Q := zW_step (I := .ifCond .ne 6) rfl S Q
theorem eX10_beds_16 {d : Nat} {S : zS} {Q : zR → Prop} : zW d MX10_beds 16 S Q = zGo d MX10_beds (.bipush (-2)) (zv (.int (-2))) 18 S Q := zW_step (I := .bipush (-2)) rfl S Q
theorem eX10_beds_18 {d : Nat} {S : zS} {Q : zR → Prop} : zW d MX10_beds 18 S Q = zGo d MX10_beds (.ireturn) z0 19 S Q := zW_step (I := .ireturn) rfl S Q
theorem eX10_beds_19 {d : Nat} {S : zS} {Q : zR → Prop} : zW d MX10_beds 19 S Q = zGo d MX10_beds (.iconst 0) (zv (.int 0)) 20 S Q := zW_step (I := .iconst 0) rfl S Q
theorem eX10_beds_20 {d : Nat} {S : zS} {Q : zR → Prop} : zW d MX10_beds 20 S Q = zGo d MX10_beds (.istore 1) z0 21 S Q := zW_step (I := .istore_n 1) rfl S Q
theorem eX10_beds_21 {d : Nat} {S : zS} {Q : zR → Prop} : zW d MX10_beds 21 S Q = zGo d MX10_beds (.aload 0) z0 22 S Q := zW_step (I := .aload_n 0) rfl S Q
theorem eX10_beds_22 {d : Nat} {S : zS} {Q : zR → Prop} : zW d MX10_beds 22 S Q = zGo d MX10_beds (.getfield 50) (zf 3 10 6) 25 S Q := zW_step (I := .getfield 50) rfl S Q
theorem eX10_beds_25 {d : Nat} {S : zS} {Q : zR → Prop} : zW d MX10_beds 25 S Q = zGo d MX10_beds (.iload 1) z0 26 S Q := zW_step (I := .iload_n 1) rfl S Q
theorem eX10_beds_26 {d : Nat} {S : zS} {Q : zR → Prop} : zW d MX10_beds 26 S Q = zGo d MX10_beds (.iconst (-1)) (zv (.int (-1))) 27 S Q := zW_step (I := .iconst (-1)) rfl S Q
theorem eX10_beds_27 {d : Nat} {S : zS} {Q : zR → Prop} : zW d MX10_beds 27 S Q = zGo d MX10_beds (.invokevirtual 237) (zc 62 3 4) 30 S Q := zW_step (I := .invokevirtual 237) rfl S Q
theorem eX10_beds_30 {d : Nat} {S : zS} {Q : zR → Prop} : zW d MX10_beds 30 S Q = zGo d MX10_beds (.lstore 2) z0 31 S Q := zW_step (I := .lstore_n 2) rfl S Q
theorem eX10_beds_31 {d : Nat} {S : zS} {Q : zR → Prop} : zW d MX10_beds 31 S Q = zGo d MX10_beds (.lload 2) z0 32 S Q := zW_step (I := .lload_n 2) rfl S Q
theorem eX10_beds_32 {d : Nat} {S : zS} {Q : zR → Prop} : zW d MX10_beds 32 S Q = zGo d MX10_beds (.lconst 0) (zv (.long 0)) 33 S Q := zW_step (I := .lconst 0) rfl S Q
theorem eX10_beds_33 {d : Nat} {S : zS} {Q : zR → Prop} : zW d MX10_beds 33 S Q = zGo d MX10_beds (.lcmp) z0 34 S Q := zW_step (I := .lcmp) rfl S Q
theorem eX10_beds_34 {d : Nat} {S : zS} {Q : zR → Prop} : zW d MX10_beds 34 S Q = zGo d MX10_beds (.ifCond .ne 30) (zt 64) 37 S Q := zW_step (I := .ifCond .ne 30) rfl S Q
theorem eX10_beds_37 {d : Nat} {S : zS} {Q : zR → Prop} : zW d MX10_beds 37 S Q = zGo d MX10_beds (.iload 1) z0 38 S Q := zW_step (I := .iload_n 1) rfl S Q
theorem eX10_beds_38 {d : Nat} {S : zS} {Q : zR → Prop} : zW d MX10_beds 38 S Q = zGo d MX10_beds (.aload 0) z0 39 S Q := zW_step (I := .aload_n 0) rfl S Q
theorem eX10_beds_39 {d : Nat} {S : zS} {Q : zR → Prop} : zW d MX10_beds 39 S Q = zGo d MX10_beds (.getfield 19) (zf 3 10 1) 42 S Q := zW_step (I := .getfield 19) rfl S Q
theorem eX10_beds_42 {d : Nat} {S : zS} {Q : zR → Prop} : zW d MX10_beds 42 S Q = zGo d MX10_beds (.getfield 93) (zf 0 9 3) 45 S Q := zW_step (I := .getfield 93) rfl S Q
theorem eX10_beds_45 {d : Nat} {S : zS} {Q : zR → Prop} : zW d MX10_beds 45 S Q = zGo d MX10_beds (.if_icmp .ge 19) (zt 64) 48 S Q := zW_step (I := .if_icmp .ge 19) rfl S Q
theorem eX10_beds_48 {d : Nat} {S : zS} {Q : zR → Prop} : zW d MX10_beds 48 S Q = zGo d MX10_beds (.iinc 1 1) (zv (.int 1)) 51 S Q := zW_step (I := .iinc 1 1) rfl S Q
theorem eX10_beds_51 {d : Nat} {S : zS} {Q : zR → Prop} : zW d MX10_beds 51 S Q = zGo d MX10_beds (.aload 0) z0 52 S Q := zW_step (I := .aload_n 0) rfl S Q
theorem eX10_beds_52 {d : Nat} {S : zS} {Q : zR → Prop} : zW d MX10_beds 52 S Q = zGo d MX10_beds (.getfield 50) (zf 3 10 6) 55 S Q := zW_step (I := .getfield 50) rfl S Q
theorem eX10_beds_55 {d : Nat} {S : zS} {Q : zR → Prop} : zW d MX10_beds 55 S Q = zGo d MX10_beds (.iload 1) z0 56 S Q := zW_step (I := .iload_n 1) rfl S Q
theorem eX10_beds_56 {d : Nat} {S : zS} {Q : zR → Prop} : zW d MX10_beds 56 S Q = zGo d MX10_beds (.iconst (-1)) (zv (.int (-1))) 57 S Q := zW_step (I := .iconst (-1)) rfl S Q
theorem eX10_beds_57 {d : Nat} {S : zS} {Q : zR → Prop} : zW d MX10_beds 57 S Q = zGo d MX10_beds (.invokevirtual 237) (zc 62 3 4) 60 S Q := zW_step (I := .invokevirtual 237) rfl S Q
theorem eX10_beds_60 {d : Nat} {S : zS} {Q : zR → Prop} : zW d MX10_beds 60 S Q = zGo d MX10_beds (.lstore 2) z0 61 S Q := zW_step (I := .lstore_n 2) rfl S Q
theorem eX10_beds_61 {d : Nat} {S : zS} {Q : zR → Prop} : zW d MX10_beds 61 S Q = zGo d MX10_beds (.goto (-30)) (zt 31) 64 S Q := zW_step (I := .goto (-30)) rfl S Q
theorem eX10_beds_64 {d : Nat} {S : zS} {Q : zR → Prop} : zW d MX10_beds 64 S Q = zGo d MX10_beds (.aload 0) z0 65 S Q := zW_step (I := .aload_n 0) rfl S Q
theorem eX10_beds_65 {d : Nat} {S : zS} {Q : zR → Prop} : zW d MX10_beds 65 S Q = zGo d MX10_beds (.lload 2) z0 66 S Q := zW_step (I := .lload_n 2) rfl S Q
theorem eX10_beds_66 {d : Nat} {S : zS} {Q : zR → Prop} : zW d MX10_beds 66 S Q = zGo d MX10_beds (.invokevirtual 227) (zc 178 2 10) 69 S Q := zW_step (I := .invokevirtual 227) rfl S Q
theorem eX10_beds_69 {d : Nat} {S : zS} {Q : zR → Prop} : zW d MX10_beds 69 S Q = zGo d MX10_beds (.pop) z0 70 S Q := zW_step (I := .pop) rfl S Q
theorem eX10_beds_70 {d : Nat} {S : zS} {Q : zR → Prop} : zW d MX10_beds 70 S Q = zGo d MX10_beds (.iload 1) z0 71 S Q := zW_step (I := .iload_n 1) rfl S Q
theorem eX10_beds_71 {d : Nat} {S : zS} {Q : zR → Prop} : zW d MX10_beds 71 S Q = zGo d MX10_beds (.ireturn) z0 72 S Q := zW_step (I := .ireturn) rfl S Q
theorem rX10_beds : MX10_beds.2.2.2.2.1 = some .int := rfl
theorem eX10_longest_0 {d : Nat} {S : zS} {Q : zR → Prop} : zW d MX10_longest 0 S Q = zGo d MX10_longest (.aload 0) z0 1 S Q := zW_step (I := .aload_n 0) rfl S Q
theorem eX10_longest_1 {d : Nat} {S : zS} {Q : zR → Prop} : zW d MX10_longest 1 S Q = zGo d MX10_longest (.getfield 19) (zf 3 10 1) 4 S Q := zW_step (I := .getfield 19) rfl S Q
theorem eX10_longest_4 {d : Nat} {S : zS} {Q : zR → Prop} : zW d MX10_longest 4 S Q = zGo d MX10_longest (.iload 1) z0 5 S Q := zW_step (I := .iload_n 1) rfl S Q
theorem eX10_longest_5 {d : Nat} {S : zS} {Q : zR → Prop} : zW d MX10_longest 5 S Q = zGo d MX10_longest (.invokevirtual 143) (zc 107 2 9) 8 S Q := zW_step (I := .invokevirtual 143) rfl S Q
theorem eX10_longest_8 {d : Nat} {S : zS} {Q : zR → Prop} : zW d MX10_longest 8 S Q = zGo d MX10_longest (.ifCond .ne 5) (zt 13) 11 S Q := zW_step (I := .ifCond .ne 5) rfl S Q
theorem eX10_longest_11 {d : Nat} {S : zS} {Q : zR → Prop} : zW d MX10_longest 11 S Q = zGo d MX10_longest (.iconst (-1)) (zv (.int (-1))) 12 S Q := zW_step (I := .iconst (-1)) rfl S Q
theorem eX10_longest_12 {d : Nat} {S : zS} {Q : zR → Prop} : zW d MX10_longest 12 S Q = zGo d MX10_longest (.ireturn) z0 13 S Q := zW_step (I := .ireturn) rfl S Q
theorem eX10_longest_13 {d : Nat} {S : zS} {Q : zR → Prop} : zW d MX10_longest 13 S Q = zGo d MX10_longest (.aload 0) z0 14 S Q := zW_step (I := .aload_n 0) rfl S Q
theorem eX10_longest_14 {d : Nat} {S : zS} {Q : zR → Prop} : zW d MX10_longest 14 S Q = zGo d MX10_longest (.getfield 50) (zf 3 10 6) 17 S Q := zW_step (I := .getfield 50) rfl S Q
theorem eX10_longest_17 {d : Nat} {S : zS} {Q : zR → Prop} : zW d MX10_longest 17 S Q = zGo d MX10_longest (.aload 0) z0 18 S Q := zW_step (I := .aload_n 0) rfl S Q
theorem eX10_longest_18 {d : Nat} {S : zS} {Q : zR → Prop} : zW d MX10_longest 18 S Q = zGo d MX10_longest (.getfield 19) (zf 3 10 1) 21 S Q := zW_step (I := .getfield 19) rfl S Q
theorem eX10_longest_21 {d : Nat} {S : zS} {Q : zR → Prop} : zW d MX10_longest 21 S Q = zGo d MX10_longest (.invokevirtual 215) (zc 51 2 4) 24 S Q := zW_step (I := .invokevirtual 215) rfl S Q
theorem eX10_longest_24 {d : Nat} {S : zS} {Q : zR → Prop} : zW d MX10_longest 24 S Q = zGo d MX10_longest (.lconst 0) (zv (.long 0)) 25 S Q := zW_step (I := .lconst 0) rfl S Q
theorem eX10_longest_25 {d : Nat} {S : zS} {Q : zR → Prop} : zW d MX10_longest 25 S Q = zGo d MX10_longest (.lcmp) z0 26 S Q := zW_step (I := .lcmp) rfl S Q
theorem eX10_longest_26 {d : Nat} {S : zS} {Q : zR → Prop} : zW d MX10_longest 26 S Q = zGo d MX10_longest (.ifCond .ne 6) (zt 32) 29 S Q := zW_step (I := .ifCond .ne 6) rfl S Q
theorem eX10_longest_29 {d : Nat} {S : zS} {Q : zR → Prop} : zW d MX10_longest 29 S Q = zGo d MX10_longest (.bipush (-2)) (zv (.int (-2))) 31 S Q := zW_step (I := .bipush (-2)) rfl S Q
theorem eX10_longest_31 {d : Nat} {S : zS} {Q : zR → Prop} : zW d MX10_longest 31 S Q = zGo d MX10_longest (.ireturn) z0 32 S Q := zW_step (I := .ireturn) rfl S Q
theorem eX10_longest_32 {d : Nat} {S : zS} {Q : zR → Prop} : zW d MX10_longest 32 S Q = zGo d MX10_longest (.aload 0) z0 33 S Q := zW_step (I := .aload_n 0) rfl S Q
theorem eX10_longest_33 {d : Nat} {S : zS} {Q : zR → Prop} : zW d MX10_longest 33 S Q = zGo d MX10_longest (.getfield 36) (zf 3 10 4) 36 S Q := zW_step (I := .getfield 36) rfl S Q
theorem eX10_longest_36 {d : Nat} {S : zS} {Q : zR → Prop} : zW d MX10_longest 36 S Q = zGo d MX10_longest (.invokevirtual 205) (zc 78 1 6) 39 S Q := zW_step (I := .invokevirtual 205) rfl S Q
theorem eX10_longest_39 {d : Nat} {S : zS} {Q : zR → Prop} : zW d MX10_longest 39 S Q = zGo d MX10_longest (.aload 0) z0 40 S Q := zW_step (I := .aload_n 0) rfl S Q
theorem eX10_longest_40 {d : Nat} {S : zS} {Q : zR → Prop} : zW d MX10_longest 40 S Q = zGo d MX10_longest (.getfield 36) (zf 3 10 4) 43 S Q := zW_step (I := .getfield 36) rfl S Q
theorem eX10_longest_43 {d : Nat} {S : zS} {Q : zR → Prop} : zW d MX10_longest 43 S Q = zGo d MX10_longest (.aload 0) z0 44 S Q := zW_step (I := .aload_n 0) rfl S Q
theorem eX10_longest_44 {d : Nat} {S : zS} {Q : zR → Prop} : zW d MX10_longest 44 S Q = zGo d MX10_longest (.getfield 57) (zf 3 10 7) 47 S Q := zW_step (I := .getfield 57) rfl S Q
theorem eX10_longest_47 {d : Nat} {S : zS} {Q : zR → Prop} : zW d MX10_longest 47 S Q = zGo d MX10_longest (.aload 0) z0 48 S Q := zW_step (I := .aload_n 0) rfl S Q
theorem eX10_longest_48 {d : Nat} {S : zS} {Q : zR → Prop} : zW d MX10_longest 48 S Q = zGo d MX10_longest (.getfield 50) (zf 3 10 6) 51 S Q := zW_step (I := .getfield 50) rfl S Q
theorem eX10_longest_51 {d : Nat} {S : zS} {Q : zR → Prop} : zW d MX10_longest 51 S Q = zGo d MX10_longest (.iload 1) z0 52 S Q := zW_step (I := .iload_n 1) rfl S Q
theorem eX10_longest_52 {d : Nat} {S : zS} {Q : zR → Prop} : zW d MX10_longest 52 S Q = zGo d MX10_longest (.invokevirtual 251) (zc 32 3 1) 55 S Q := zW_step (I := .invokevirtual 251) rfl S Q
theorem eX10_longest_55 {d : Nat} {S : zS} {Q : zR → Prop} : zW d MX10_longest 55 S Q = zGo d MX10_longest (.i2l) z0 56 S Q := zW_step (I := .i2l) rfl S Q
theorem eX10_longest_56 {d : Nat} {S : zS} {Q : zR → Prop} : zW d MX10_longest 56 S Q = zGo d MX10_longest (.invokevirtual 206) (zc 79 2 6) 59 S Q := zW_step (I := .invokevirtual 206) rfl S Q
theorem eX10_longest_59 {d : Nat} {S : zS} {Q : zR → Prop} : zW d MX10_longest 59 S Q = zGo d MX10_longest (.aload 0) z0 60 S Q := zW_step (I := .aload_n 0) rfl S Q
theorem eX10_longest_60 {d : Nat} {S : zS} {Q : zR → Prop} : zW d MX10_longest 60 S Q = zGo d MX10_longest (.getfield 57) (zf 3 10 7) 63 S Q := zW_step (I := .getfield 57) rfl S Q
theorem eX10_longest_63 {d : Nat} {S : zS} {Q : zR → Prop} : zW d MX10_longest 63 S Q = zGo d MX10_longest (.aload 0) z0 64 S Q := zW_step (I := .aload_n 0) rfl S Q
theorem eX10_longest_64 {d : Nat} {S : zS} {Q : zR → Prop} : zW d MX10_longest 64 S Q = zGo d MX10_longest (.getfield 50) (zf 3 10 6) 67 S Q := zW_step (I := .getfield 50) rfl S Q
theorem eX10_longest_67 {d : Nat} {S : zS} {Q : zR → Prop} : zW d MX10_longest 67 S Q = zGo d MX10_longest (.iload 1) z0 68 S Q := zW_step (I := .iload_n 1) rfl S Q
theorem eX10_longest_68 {d : Nat} {S : zS} {Q : zR → Prop} : zW d MX10_longest 68 S Q = zGo d MX10_longest (.invokevirtual 255) (zc 31 3 1) 71 S Q := zW_step (I := .invokevirtual 255) rfl S Q
theorem eX10_longest_71 {d : Nat} {S : zS} {Q : zR → Prop} : zW d MX10_longest 71 S Q = zGo d MX10_longest (.ireturn) z0 72 S Q := zW_step (I := .ireturn) rfl S Q
theorem rX10_longest : MX10_longest.2.2.2.2.1 = some .int := rfl
theorem eX10_cheapest_0 {d : Nat} {S : zS} {Q : zR → Prop} : zW d MX10_cheapest 0 S Q = zGo d MX10_cheapest (.aload 0) z0 1 S Q := zW_step (I := .aload_n 0) rfl S Q
theorem eX10_cheapest_1 {d : Nat} {S : zS} {Q : zR → Prop} : zW d MX10_cheapest 1 S Q = zGo d MX10_cheapest (.getfield 50) (zf 3 10 6) 4 S Q := zW_step (I := .getfield 50) rfl S Q
theorem eX10_cheapest_4 {d : Nat} {S : zS} {Q : zR → Prop} : zW d MX10_cheapest 4 S Q = zGo d MX10_cheapest (.aload 0) z0 5 S Q := zW_step (I := .aload_n 0) rfl S Q
theorem eX10_cheapest_5 {d : Nat} {S : zS} {Q : zR → Prop} : zW d MX10_cheapest 5 S Q = zGo d MX10_cheapest (.getfield 19) (zf 3 10 1) 8 S Q := zW_step (I := .getfield 19) rfl S Q
theorem eX10_cheapest_8 {d : Nat} {S : zS} {Q : zR → Prop} : zW d MX10_cheapest 8 S Q = zGo d MX10_cheapest (.invokevirtual 215) (zc 51 2 4) 11 S Q := zW_step (I := .invokevirtual 215) rfl S Q
theorem eX10_cheapest_11 {d : Nat} {S : zS} {Q : zR → Prop} : zW d MX10_cheapest 11 S Q = zGo d MX10_cheapest (.lconst 0) (zv (.long 0)) 12 S Q := zW_step (I := .lconst 0) rfl S Q
theorem eX10_cheapest_12 {d : Nat} {S : zS} {Q : zR → Prop} : zW d MX10_cheapest 12 S Q = zGo d MX10_cheapest (.lcmp) z0 13 S Q := zW_step (I := .lcmp) rfl S Q
theorem eX10_cheapest_13 {d : Nat} {S : zS} {Q : zR → Prop} : zW d MX10_cheapest 13 S Q = zGo d MX10_cheapest (.ifCond .ne 6) (zt 19) 16 S Q := zW_step (I := .ifCond .ne 6) rfl S Q
theorem eX10_cheapest_16 {d : Nat} {S : zS} {Q : zR → Prop} : zW d MX10_cheapest 16 S Q = zGo d MX10_cheapest (.bipush (-2)) (zv (.int (-2))) 18 S Q := zW_step (I := .bipush (-2)) rfl S Q
theorem eX10_cheapest_18 {d : Nat} {S : zS} {Q : zR → Prop} : zW d MX10_cheapest 18 S Q = zGo d MX10_cheapest (.ireturn) z0 19 S Q := zW_step (I := .ireturn) rfl S Q
theorem eX10_cheapest_19 {d : Nat} {S : zS} {Q : zR → Prop} : zW d MX10_cheapest 19 S Q = zGo d MX10_cheapest (.aload 0) z0 20 S Q := zW_step (I := .aload_n 0) rfl S Q
theorem eX10_cheapest_20 {d : Nat} {S : zS} {Q : zR → Prop} : zW d MX10_cheapest 20 S Q = zGo d MX10_cheapest (.getfield 57) (zf 3 10 7) 23 S Q := zW_step (I := .getfield 57) rfl S Q
theorem eX10_cheapest_23 {d : Nat} {S : zS} {Q : zR → Prop} : zW d MX10_cheapest 23 S Q = zGo d MX10_cheapest (.aload 0) z0 24 S Q := zW_step (I := .aload_n 0) rfl S Q
theorem eX10_cheapest_24 {d : Nat} {S : zS} {Q : zR → Prop} : zW d MX10_cheapest 24 S Q = zGo d MX10_cheapest (.getfield 50) (zf 3 10 6) 27 S Q := zW_step (I := .getfield 50) rfl S Q
theorem eX10_cheapest_27 {d : Nat} {S : zS} {Q : zR → Prop} : zW d MX10_cheapest 27 S Q = zGo d MX10_cheapest (.aload 0) z0 28 S Q := zW_step (I := .aload_n 0) rfl S Q
theorem eX10_cheapest_28 {d : Nat} {S : zS} {Q : zR → Prop} : zW d MX10_cheapest 28 S Q = zGo d MX10_cheapest (.getfield 19) (zf 3 10 1) 31 S Q := zW_step (I := .getfield 19) rfl S Q
theorem eX10_cheapest_31 {d : Nat} {S : zS} {Q : zR → Prop} : zW d MX10_cheapest 31 S Q = zGo d MX10_cheapest (.aload 0) z0 32 S Q := zW_step (I := .aload_n 0) rfl S Q
theorem eX10_cheapest_32 {d : Nat} {S : zS} {Q : zR → Prop} : zW d MX10_cheapest 32 S Q = zGo d MX10_cheapest (.getfield 78) (zf 3 10 10) 35 S Q := zW_step (I := .getfield 78) rfl S Q
theorem eX10_cheapest_35 {d : Nat} {S : zS} {Q : zR → Prop} : zW d MX10_cheapest 35 S Q = zGo d MX10_cheapest (.invokevirtual 258) (zc 19 4 1) 38 S Q := zW_step (I := .invokevirtual 258) rfl S Q
theorem eX10_cheapest_38 {d : Nat} {S : zS} {Q : zR → Prop} : zW d MX10_cheapest 38 S Q = zGo d MX10_cheapest (.istore 1) z0 39 S Q := zW_step (I := .istore_n 1) rfl S Q
theorem eX10_cheapest_39 {d : Nat} {S : zS} {Q : zR → Prop} : zW d MX10_cheapest 39 S Q = zGo d MX10_cheapest (.aload 0) z0 40 S Q := zW_step (I := .aload_n 0) rfl S Q
theorem eX10_cheapest_40 {d : Nat} {S : zS} {Q : zR → Prop} : zW d MX10_cheapest 40 S Q = zGo d MX10_cheapest (.getfield 36) (zf 3 10 4) 43 S Q := zW_step (I := .getfield 36) rfl S Q
theorem eX10_cheapest_43 {d : Nat} {S : zS} {Q : zR → Prop} : zW d MX10_cheapest 43 S Q = zGo d MX10_cheapest (.invokevirtual 205) (zc 78 1 6) 46 S Q := zW_step (I := .invokevirtual 205) rfl S Q
theorem eX10_cheapest_46 {d : Nat} {S : zS} {Q : zR → Prop} : zW d MX10_cheapest 46 S Q = zGo d MX10_cheapest (.aload 0) z0 47 S Q := zW_step (I := .aload_n 0) rfl S Q
theorem eX10_cheapest_47 {d : Nat} {S : zS} {Q : zR → Prop} : zW d MX10_cheapest 47 S Q = zGo d MX10_cheapest (.getfield 57) (zf 3 10 7) 50 S Q := zW_step (I := .getfield 57) rfl S Q
theorem eX10_cheapest_50 {d : Nat} {S : zS} {Q : zR → Prop} : zW d MX10_cheapest 50 S Q = zGo d MX10_cheapest (.aload 0) z0 51 S Q := zW_step (I := .aload_n 0) rfl S Q
theorem eX10_cheapest_51 {d : Nat} {S : zS} {Q : zR → Prop} : zW d MX10_cheapest 51 S Q = zGo d MX10_cheapest (.getfield 50) (zf 3 10 6) 54 S Q := zW_step (I := .getfield 50) rfl S Q
theorem eX10_cheapest_54 {d : Nat} {S : zS} {Q : zR → Prop} : zW d MX10_cheapest 54 S Q = zGo d MX10_cheapest (.aload 0) z0 55 S Q := zW_step (I := .aload_n 0) rfl S Q
theorem eX10_cheapest_55 {d : Nat} {S : zS} {Q : zR → Prop} : zW d MX10_cheapest 55 S Q = zGo d MX10_cheapest (.getfield 36) (zf 3 10 4) 58 S Q := zW_step (I := .getfield 36) rfl S Q
theorem eX10_cheapest_58 {d : Nat} {S : zS} {Q : zR → Prop} : zW d MX10_cheapest 58 S Q = zGo d MX10_cheapest (.invokevirtual 262) (zc 27 3 1) 61 S Q := zW_step (I := .invokevirtual 262) rfl S Q
theorem eX10_cheapest_61 {d : Nat} {S : zS} {Q : zR → Prop} : zW d MX10_cheapest 61 S Q = zGo d MX10_cheapest (.sipush 10000) (zv (.int 10000)) 64 S Q := zW_step (I := .sipush 10000) rfl S Q
theorem eX10_cheapest_64 {d : Nat} {S : zS} {Q : zR → Prop} : zW d MX10_cheapest 64 S Q = zGo d MX10_cheapest (.iload 1) z0 65 S Q := zW_step (I := .iload_n 1) rfl S Q
theorem eX10_cheapest_65 {d : Nat} {S : zS} {Q : zR → Prop} : zW d MX10_cheapest 65 S Q = zGo d MX10_cheapest (.iadd) z0 66 S Q := zW_step (I := .iadd) rfl S Q
theorem eX10_cheapest_66 {d : Nat} {S : zS} {Q : zR → Prop} : zW d MX10_cheapest 66 S Q = zGo d MX10_cheapest (.ireturn) z0 67 S Q := zW_step (I := .ireturn) rfl S Q
theorem rX10_cheapest : MX10_cheapest.2.2.2.2.1 = some .int := rfl
theorem eX10_dearest_0 {d : Nat} {S : zS} {Q : zR → Prop} : zW d MX10_dearest 0 S Q = zGo d MX10_dearest (.aload 0) z0 1 S Q := zW_step (I := .aload_n 0) rfl S Q
theorem eX10_dearest_1 {d : Nat} {S : zS} {Q : zR → Prop} : zW d MX10_dearest 1 S Q = zGo d MX10_dearest (.getfield 50) (zf 3 10 6) 4 S Q := zW_step (I := .getfield 50) rfl S Q
theorem eX10_dearest_4 {d : Nat} {S : zS} {Q : zR → Prop} : zW d MX10_dearest 4 S Q = zGo d MX10_dearest (.aload 0) z0 5 S Q := zW_step (I := .aload_n 0) rfl S Q
theorem eX10_dearest_5 {d : Nat} {S : zS} {Q : zR → Prop} : zW d MX10_dearest 5 S Q = zGo d MX10_dearest (.getfield 19) (zf 3 10 1) 8 S Q := zW_step (I := .getfield 19) rfl S Q
theorem eX10_dearest_8 {d : Nat} {S : zS} {Q : zR → Prop} : zW d MX10_dearest 8 S Q = zGo d MX10_dearest (.invokevirtual 215) (zc 51 2 4) 11 S Q := zW_step (I := .invokevirtual 215) rfl S Q
theorem eX10_dearest_11 {d : Nat} {S : zS} {Q : zR → Prop} : zW d MX10_dearest 11 S Q = zGo d MX10_dearest (.lconst 0) (zv (.long 0)) 12 S Q := zW_step (I := .lconst 0) rfl S Q
theorem eX10_dearest_12 {d : Nat} {S : zS} {Q : zR → Prop} : zW d MX10_dearest 12 S Q = zGo d MX10_dearest (.lcmp) z0 13 S Q := zW_step (I := .lcmp) rfl S Q
theorem eX10_dearest_13 {d : Nat} {S : zS} {Q : zR → Prop} : zW d MX10_dearest 13 S Q = zGo d MX10_dearest (.ifCond .ne 6) (zt 19) 16 S Q := zW_step (I := .ifCond .ne 6) rfl S Q
theorem eX10_dearest_16 {d : Nat} {S : zS} {Q : zR → Prop} : zW d MX10_dearest 16 S Q = zGo d MX10_dearest (.bipush (-2)) (zv (.int (-2))) 18 S Q := zW_step (I := .bipush (-2)) rfl S Q
theorem eX10_dearest_18 {d : Nat} {S : zS} {Q : zR → Prop} : zW d MX10_dearest 18 S Q = zGo d MX10_dearest (.ireturn) z0 19 S Q := zW_step (I := .ireturn) rfl S Q
theorem eX10_dearest_19 {d : Nat} {S : zS} {Q : zR → Prop} : zW d MX10_dearest 19 S Q = zGo d MX10_dearest (.aload 0) z0 20 S Q := zW_step (I := .aload_n 0) rfl S Q
theorem eX10_dearest_20 {d : Nat} {S : zS} {Q : zR → Prop} : zW d MX10_dearest 20 S Q = zGo d MX10_dearest (.getfield 57) (zf 3 10 7) 23 S Q := zW_step (I := .getfield 57) rfl S Q
theorem eX10_dearest_23 {d : Nat} {S : zS} {Q : zR → Prop} : zW d MX10_dearest 23 S Q = zGo d MX10_dearest (.aload 0) z0 24 S Q := zW_step (I := .aload_n 0) rfl S Q
theorem eX10_dearest_24 {d : Nat} {S : zS} {Q : zR → Prop} : zW d MX10_dearest 24 S Q = zGo d MX10_dearest (.getfield 50) (zf 3 10 6) 27 S Q := zW_step (I := .getfield 50) rfl S Q
theorem eX10_dearest_27 {d : Nat} {S : zS} {Q : zR → Prop} : zW d MX10_dearest 27 S Q = zGo d MX10_dearest (.aload 0) z0 28 S Q := zW_step (I := .aload_n 0) rfl S Q
theorem eX10_dearest_28 {d : Nat} {S : zS} {Q : zR → Prop} : zW d MX10_dearest 28 S Q = zGo d MX10_dearest (.getfield 19) (zf 3 10 1) 31 S Q := zW_step (I := .getfield 19) rfl S Q
theorem eX10_dearest_31 {d : Nat} {S : zS} {Q : zR → Prop} : zW d MX10_dearest 31 S Q = zGo d MX10_dearest (.aload 0) z0 32 S Q := zW_step (I := .aload_n 0) rfl S Q
theorem eX10_dearest_32 {d : Nat} {S : zS} {Q : zR → Prop} : zW d MX10_dearest 32 S Q = zGo d MX10_dearest (.getfield 78) (zf 3 10 10) 35 S Q := zW_step (I := .getfield 78) rfl S Q
theorem eX10_dearest_35 {d : Nat} {S : zS} {Q : zR → Prop} : zW d MX10_dearest 35 S Q = zGo d MX10_dearest (.invokevirtual 266) (zc 29 4 1) 38 S Q := zW_step (I := .invokevirtual 266) rfl S Q
theorem eX10_dearest_38 {d : Nat} {S : zS} {Q : zR → Prop} : zW d MX10_dearest 38 S Q = zGo d MX10_dearest (.istore 1) z0 39 S Q := zW_step (I := .istore_n 1) rfl S Q
theorem eX10_dearest_39 {d : Nat} {S : zS} {Q : zR → Prop} : zW d MX10_dearest 39 S Q = zGo d MX10_dearest (.aload 0) z0 40 S Q := zW_step (I := .aload_n 0) rfl S Q
theorem eX10_dearest_40 {d : Nat} {S : zS} {Q : zR → Prop} : zW d MX10_dearest 40 S Q = zGo d MX10_dearest (.aload 0) z0 41 S Q := zW_step (I := .aload_n 0) rfl S Q
theorem eX10_dearest_41 {d : Nat} {S : zS} {Q : zR → Prop} : zW d MX10_dearest 41 S Q = zGo d MX10_dearest (.getfield 50) (zf 3 10 6) 44 S Q := zW_step (I := .getfield 50) rfl S Q
theorem eX10_dearest_44 {d : Nat} {S : zS} {Q : zR → Prop} : zW d MX10_dearest 44 S Q = zGo d MX10_dearest (.getfield 269) (zf 3 4 5) 47 S Q := zW_step (I := .getfield 269) rfl S Q
theorem eX10_dearest_47 {d : Nat} {S : zS} {Q : zR → Prop} : zW d MX10_dearest 47 S Q = zGo d MX10_dearest (.iconst 0) (zv (.int 0)) 48 S Q := zW_step (I := .iconst 0) rfl S Q
theorem eX10_dearest_48 {d : Nat} {S : zS} {Q : zR → Prop} : zW d MX10_dearest 48 S Q = zGo d MX10_dearest (.laload) z0 49 S Q := zW_step (I := .laload) rfl S Q
theorem eX10_dearest_49 {d : Nat} {S : zS} {Q : zR → Prop} : zW d MX10_dearest 49 S Q = zGo d MX10_dearest (.invokevirtual 227) (zc 178 2 10) 52 S Q := zW_step (I := .invokevirtual 227) rfl S Q
theorem eX10_dearest_52 {d : Nat} {S : zS} {Q : zR → Prop} : zW d MX10_dearest 52 S Q = zGo d MX10_dearest (.pop) z0 53 S Q := zW_step (I := .pop) rfl S Q
theorem eX10_dearest_53 {d : Nat} {S : zS} {Q : zR → Prop} : zW d MX10_dearest 53 S Q = zGo d MX10_dearest (.sipush 10000) (zv (.int 10000)) 56 S Q := zW_step (I := .sipush 10000) rfl S Q
theorem eX10_dearest_56 {d : Nat} {S : zS} {Q : zR → Prop} : zW d MX10_dearest 56 S Q = zGo d MX10_dearest (.iload 1) z0 57 S Q := zW_step (I := .iload_n 1) rfl S Q
theorem eX10_dearest_57 {d : Nat} {S : zS} {Q : zR → Prop} : zW d MX10_dearest 57 S Q = zGo d MX10_dearest (.iadd) z0 58 S Q := zW_step (I := .iadd) rfl S Q
theorem eX10_dearest_58 {d : Nat} {S : zS} {Q : zR → Prop} : zW d MX10_dearest 58 S Q = zGo d MX10_dearest (.ireturn) z0 59 S Q := zW_step (I := .ireturn) rfl S Q
theorem rX10_dearest : MX10_dearest.2.2.2.2.1 = some .int := rfl
theorem eX10_lies_0 {d : Nat} {S : zS} {Q : zR → Prop} : zW d MX10_lies 0 S Q = zGo d MX10_lies (.aload 0) z0 1 S Q := zW_step (I := .aload_n 0) rfl S Q
theorem eX10_lies_1 {d : Nat} {S : zS} {Q : zR → Prop} : zW d MX10_lies 1 S Q = zGo d MX10_lies (.getfield 50) (zf 3 10 6) 4 S Q := zW_step (I := .getfield 50) rfl S Q
theorem eX10_lies_4 {d : Nat} {S : zS} {Q : zR → Prop} : zW d MX10_lies 4 S Q = zGo d MX10_lies (.aload 0) z0 5 S Q := zW_step (I := .aload_n 0) rfl S Q
theorem eX10_lies_5 {d : Nat} {S : zS} {Q : zR → Prop} : zW d MX10_lies 5 S Q = zGo d MX10_lies (.getfield 19) (zf 3 10 1) 8 S Q := zW_step (I := .getfield 19) rfl S Q
theorem eX10_lies_8 {d : Nat} {S : zS} {Q : zR → Prop} : zW d MX10_lies 8 S Q = zGo d MX10_lies (.invokevirtual 215) (zc 51 2 4) 11 S Q := zW_step (I := .invokevirtual 215) rfl S Q
theorem eX10_lies_11 {d : Nat} {S : zS} {Q : zR → Prop} : zW d MX10_lies 11 S Q = zGo d MX10_lies (.pop2) z0 12 S Q := zW_step (I := .pop2) rfl S Q
theorem eX10_lies_12 {d : Nat} {S : zS} {Q : zR → Prop} : zW d MX10_lies 12 S Q = zGo d MX10_lies (.aload 0) z0 13 S Q := zW_step (I := .aload_n 0) rfl S Q
theorem eX10_lies_13 {d : Nat} {S : zS} {Q : zR → Prop} : zW d MX10_lies 13 S Q = zGo d MX10_lies (.getfield 57) (zf 3 10 7) 16 S Q := zW_step (I := .getfield 57) rfl S Q
theorem eX10_lies_16 {d : Nat} {S : zS} {Q : zR → Prop} : zW d MX10_lies 16 S Q = zGo d MX10_lies (.aload 0) z0 17 S Q := zW_step (I := .aload_n 0) rfl S Q
theorem eX10_lies_17 {d : Nat} {S : zS} {Q : zR → Prop} : zW d MX10_lies 17 S Q = zGo d MX10_lies (.getfield 50) (zf 3 10 6) 20 S Q := zW_step (I := .getfield 50) rfl S Q
theorem eX10_lies_20 {d : Nat} {S : zS} {Q : zR → Prop} : zW d MX10_lies 20 S Q = zGo d MX10_lies (.aload 0) z0 21 S Q := zW_step (I := .aload_n 0) rfl S Q
theorem eX10_lies_21 {d : Nat} {S : zS} {Q : zR → Prop} : zW d MX10_lies 21 S Q = zGo d MX10_lies (.getfield 19) (zf 3 10 1) 24 S Q := zW_step (I := .getfield 19) rfl S Q
theorem eX10_lies_24 {d : Nat} {S : zS} {Q : zR → Prop} : zW d MX10_lies 24 S Q = zGo d MX10_lies (.invokevirtual 273) (zc 20 3 1) 27 S Q := zW_step (I := .invokevirtual 273) rfl S Q
theorem eX10_lies_27 {d : Nat} {S : zS} {Q : zR → Prop} : zW d MX10_lies 27 S Q = zGo d MX10_lies (.istore 1) z0 28 S Q := zW_step (I := .istore_n 1) rfl S Q
theorem eX10_lies_28 {d : Nat} {S : zS} {Q : zR → Prop} : zW d MX10_lies 28 S Q = zGo d MX10_lies (.aload 0) z0 29 S Q := zW_step (I := .aload_n 0) rfl S Q
theorem eX10_lies_29 {d : Nat} {S : zS} {Q : zR → Prop} : zW d MX10_lies 29 S Q = zGo d MX10_lies (.getfield 36) (zf 3 10 4) 32 S Q := zW_step (I := .getfield 36) rfl S Q
theorem eX10_lies_32 {d : Nat} {S : zS} {Q : zR → Prop} : zW d MX10_lies 32 S Q = zGo d MX10_lies (.invokevirtual 205) (zc 78 1 6) 35 S Q := zW_step (I := .invokevirtual 205) rfl S Q
theorem eX10_lies_35 {d : Nat} {S : zS} {Q : zR → Prop} : zW d MX10_lies 35 S Q = zGo d MX10_lies (.aload 0) z0 36 S Q := zW_step (I := .aload_n 0) rfl S Q
theorem eX10_lies_36 {d : Nat} {S : zS} {Q : zR → Prop} : zW d MX10_lies 36 S Q = zGo d MX10_lies (.getfield 57) (zf 3 10 7) 39 S Q := zW_step (I := .getfield 57) rfl S Q
theorem eX10_lies_39 {d : Nat} {S : zS} {Q : zR → Prop} : zW d MX10_lies 39 S Q = zGo d MX10_lies (.aload 0) z0 40 S Q := zW_step (I := .aload_n 0) rfl S Q
theorem eX10_lies_40 {d : Nat} {S : zS} {Q : zR → Prop} : zW d MX10_lies 40 S Q = zGo d MX10_lies (.getfield 50) (zf 3 10 6) 43 S Q := zW_step (I := .getfield 50) rfl S Q
theorem eX10_lies_43 {d : Nat} {S : zS} {Q : zR → Prop} : zW d MX10_lies 43 S Q = zGo d MX10_lies (.aload 0) z0 44 S Q := zW_step (I := .aload_n 0) rfl S Q
theorem eX10_lies_44 {d : Nat} {S : zS} {Q : zR → Prop} : zW d MX10_lies 44 S Q = zGo d MX10_lies (.getfield 36) (zf 3 10 4) 47 S Q := zW_step (I := .getfield 36) rfl S Q
theorem eX10_lies_47 {d : Nat} {S : zS} {Q : zR → Prop} : zW d MX10_lies 47 S Q = zGo d MX10_lies (.invokevirtual 262) (zc 27 3 1) 50 S Q := zW_step (I := .invokevirtual 262) rfl S Q
theorem eX10_lies_50 {d : Nat} {S : zS} {Q : zR → Prop} : zW d MX10_lies 50 S Q = zGo d MX10_lies (.iload 1) z0 51 S Q := zW_step (I := .iload_n 1) rfl S Q
theorem eX10_lies_51 {d : Nat} {S : zS} {Q : zR → Prop} : zW d MX10_lies 51 S Q = zGo d MX10_lies (.ireturn) z0 52 S Q := zW_step (I := .ireturn) rfl S Q
theorem rX10_lies : MX10_lies.2.2.2.2.1 = some .int := rfl
theorem eX10_likely_0 {d : Nat} {S : zS} {Q : zR → Prop} : zW d MX10_likely 0 S Q = zGo d MX10_likely (.iload 1) z0 1 S Q := zW_step (I := .iload_n 1) rfl S Q
theorem eX10_likely_1 {d : Nat} {S : zS} {Q : zR → Prop} : zW d MX10_likely 1 S Q = zGo d MX10_likely (.ifCond .lt 9) (zt 10) 4 S Q := zW_step (I := .ifCond .lt 9) rfl S Q
theorem eX10_likely_4 {d : Nat} {S : zS} {Q : zR → Prop} : zW d MX10_likely 4 S Q = zGo d MX10_likely (.iload 1) z0 5 S Q := zW_step (I := .iload_n 1) rfl S Q
theorem eX10_likely_5 {d : Nat} {S : zS} {Q : zR → Prop} : zW d MX10_likely 5 S Q = zGo d MX10_likely (.bipush 10) (zv (.int 10)) 7 S Q := zW_step (I := .bipush 10) rfl S Q
theorem eX10_likely_7 {d : Nat} {S : zS} {Q : zR → Prop} : zW d MX10_likely 7 S Q = zGo d MX10_likely (.if_icmp .le 5) (zt 12) 10 S Q := zW_step (I := .if_icmp .le 5) rfl S Q
theorem eX10_likely_10 {d : Nat} {S : zS} {Q : zR → Prop} : zW d MX10_likely 10 S Q = zGo d MX10_likely (.iconst (-1)) (zv (.int (-1))) 11 S Q := zW_step (I := .iconst (-1)) rfl S Q
theorem eX10_likely_11 {d : Nat} {S : zS} {Q : zR → Prop} : zW d MX10_likely 11 S Q = zGo d MX10_likely (.ireturn) z0 12 S Q := zW_step (I := .ireturn) rfl S Q
theorem eX10_likely_12 {d : Nat} {S : zS} {Q : zR → Prop} : zW d MX10_likely 12 S Q = zGo d MX10_likely (.aload 0) z0 13 S Q := zW_step (I := .aload_n 0) rfl S Q
theorem eX10_likely_13 {d : Nat} {S : zS} {Q : zR → Prop} : zW d MX10_likely 13 S Q = zGo d MX10_likely (.getfield 19) (zf 3 10 1) 16 S Q := zW_step (I := .getfield 19) rfl S Q
theorem eX10_likely_16 {d : Nat} {S : zS} {Q : zR → Prop} : zW d MX10_likely 16 S Q = zGo d MX10_likely (.iconst 2) (zv (.int 2)) 17 S Q := zW_step (I := .iconst 2) rfl S Q
theorem eX10_likely_17 {d : Nat} {S : zS} {Q : zR → Prop} : zW d MX10_likely 17 S Q = zGo d MX10_likely (.invokevirtual 209) (zc 122 2 9) 20 S Q := zW_step (I := .invokevirtual 209) rfl S Q
theorem eX10_likely_20 {d : Nat} {S : zS} {Q : zR → Prop} : zW d MX10_likely 20 S Q = zGo d MX10_likely (.istore 2) z0 21 S Q := zW_step (I := .istore_n 2) rfl S Q
theorem eX10_likely_21 {d : Nat} {S : zS} {Q : zR → Prop} : zW d MX10_likely 21 S Q = zGo d MX10_likely (.iload 2) z0 22 S Q := zW_step (I := .iload_n 2) rfl S Q
theorem eX10_likely_22 {d : Nat} {S : zS} {Q : zR → Prop} : zW d MX10_likely 22 S Q = zGo d MX10_likely (.bipush 6) (zv (.int 6)) 24 S Q := zW_step (I := .bipush 6) rfl S Q
theorem eX10_likely_24 {d : Nat} {S : zS} {Q : zR → Prop} : zW d MX10_likely 24 S Q = zGo d MX10_likely (.if_icmp .le 6) (zt 30) 27 S Q := zW_step (I := .if_icmp .le 6) rfl S Q
theorem eX10_likely_27 {d : Nat} {S : zS} {Q : zR → Prop} : zW d MX10_likely 27 S Q = zGo d MX10_likely (.bipush (-2)) (zv (.int (-2))) 29 S Q := zW_step (I := .bipush (-2)) rfl S Q
theorem eX10_likely_29 {d : Nat} {S : zS} {Q : zR → Prop} : zW d MX10_likely 29 S Q = zGo d MX10_likely (.ireturn) z0 30 S Q := zW_step (I := .ireturn) rfl S Q
theorem eX10_likely_30 {d : Nat} {S : zS} {Q : zR → Prop} : zW d MX10_likely 30 S Q = zGo d MX10_likely (.aload 0) z0 31 S Q := zW_step (I := .aload_n 0) rfl S Q
theorem eX10_likely_31 {d : Nat} {S : zS} {Q : zR → Prop} : zW d MX10_likely 31 S Q = zGo d MX10_likely (.getfield 50) (zf 3 10 6) 34 S Q := zW_step (I := .getfield 50) rfl S Q
theorem eX10_likely_34 {d : Nat} {S : zS} {Q : zR → Prop} : zW d MX10_likely 34 S Q = zGo d MX10_likely (.aload 0) z0 35 S Q := zW_step (I := .aload_n 0) rfl S Q
theorem eX10_likely_35 {d : Nat} {S : zS} {Q : zR → Prop} : zW d MX10_likely 35 S Q = zGo d MX10_likely (.getfield 19) (zf 3 10 1) 38 S Q := zW_step (I := .getfield 19) rfl S Q
theorem eX10_likely_38 {d : Nat} {S : zS} {Q : zR → Prop} : zW d MX10_likely 38 S Q = zGo d MX10_likely (.invokevirtual 215) (zc 51 2 4) 41 S Q := zW_step (I := .invokevirtual 215) rfl S Q
theorem eX10_likely_41 {d : Nat} {S : zS} {Q : zR → Prop} : zW d MX10_likely 41 S Q = zGo d MX10_likely (.pop2) z0 42 S Q := zW_step (I := .pop2) rfl S Q
theorem eX10_likely_42 {d : Nat} {S : zS} {Q : zR → Prop} : zW d MX10_likely 42 S Q = zGo d MX10_likely (.aload 0) z0 43 S Q := zW_step (I := .aload_n 0) rfl S Q
theorem eX10_likely_43 {d : Nat} {S : zS} {Q : zR → Prop} : zW d MX10_likely 43 S Q = zGo d MX10_likely (.getfield 36) (zf 3 10 4) 46 S Q := zW_step (I := .getfield 36) rfl S Q
theorem eX10_likely_46 {d : Nat} {S : zS} {Q : zR → Prop} : zW d MX10_likely 46 S Q = zGo d MX10_likely (.invokevirtual 205) (zc 78 1 6) 49 S Q := zW_step (I := .invokevirtual 205) rfl S Q
theorem eX10_likely_49 {d : Nat} {S : zS} {Q : zR → Prop} : zW d MX10_likely 49 S Q = zGo d MX10_likely (.aload 0) z0 50 S Q := zW_step (I := .aload_n 0) rfl S Q
theorem eX10_likely_50 {d : Nat} {S : zS} {Q : zR → Prop} : zW d MX10_likely 50 S Q = zGo d MX10_likely (.getfield 36) (zf 3 10 4) 53 S Q := zW_step (I := .getfield 36) rfl S Q
theorem eX10_likely_53 {d : Nat} {S : zS} {Q : zR → Prop} : zW d MX10_likely 53 S Q = zGo d MX10_likely (.aload 0) z0 54 S Q := zW_step (I := .aload_n 0) rfl S Q
theorem eX10_likely_54 {d : Nat} {S : zS} {Q : zR → Prop} : zW d MX10_likely 54 S Q = zGo d MX10_likely (.getfield 50) (zf 3 10 6) 57 S Q := zW_step (I := .getfield 50) rfl S Q
theorem eX10_likely_57 {d : Nat} {S : zS} {Q : zR → Prop} : zW d MX10_likely 57 S Q = zGo d MX10_likely (.aload 0) z0 58 S Q := zW_step (I := .aload_n 0) rfl S Q
theorem eX10_likely_58 {d : Nat} {S : zS} {Q : zR → Prop} : zW d MX10_likely 58 S Q = zGo d MX10_likely (.getfield 19) (zf 3 10 1) 61 S Q := zW_step (I := .getfield 19) rfl S Q
theorem eX10_likely_61 {d : Nat} {S : zS} {Q : zR → Prop} : zW d MX10_likely 61 S Q = zGo d MX10_likely (.invokevirtual 309) (zc 65 2 4) 64 S Q := zW_step (I := .invokevirtual 309) rfl S Q
theorem eX10_likely_64 {d : Nat} {S : zS} {Q : zR → Prop} : zW d MX10_likely 64 S Q = zGo d MX10_likely (.iload 2) z0 65 S Q := zW_step (I := .iload_n 2) rfl S Q
theorem eX10_likely_65 {d : Nat} {S : zS} {Q : zR → Prop} : zW d MX10_likely 65 S Q = zGo d MX10_likely (.iload 1) z0 66 S Q := zW_step (I := .iload_n 1) rfl S Q
theorem eX10_likely_66 {d : Nat} {S : zS} {Q : zR → Prop} : zW d MX10_likely 66 S Q = zGo d MX10_likely (.invokestatic 312) (zc 47 3 0) 69 S Q := zW_step (I := .invokestatic 312) rfl S Q
theorem eX10_likely_69 {d : Nat} {S : zS} {Q : zR → Prop} : zW d MX10_likely 69 S Q = zGo d MX10_likely (.bipush 10) (zv (.int 10)) 71 S Q := zW_step (I := .bipush 10) rfl S Q
theorem eX10_likely_71 {d : Nat} {S : zS} {Q : zR → Prop} : zW d MX10_likely 71 S Q = zGo d MX10_likely (.iload 2) z0 72 S Q := zW_step (I := .iload_n 2) rfl S Q
theorem eX10_likely_72 {d : Nat} {S : zS} {Q : zR → Prop} : zW d MX10_likely 72 S Q = zGo d MX10_likely (.invokestatic 316) (zc 46 2 0) 75 S Q := zW_step (I := .invokestatic 316) rfl S Q
theorem eX10_likely_75 {d : Nat} {S : zS} {Q : zR → Prop} : zW d MX10_likely 75 S Q = zGo d MX10_likely (.invokevirtual 319) (zc 80 3 6) 78 S Q := zW_step (I := .invokevirtual 319) rfl S Q
theorem eX10_likely_78 {d : Nat} {S : zS} {Q : zR → Prop} : zW d MX10_likely 78 S Q = zGo d MX10_likely (.iconst 0) (zv (.int 0)) 79 S Q := zW_step (I := .iconst 0) rfl S Q
theorem eX10_likely_79 {d : Nat} {S : zS} {Q : zR → Prop} : zW d MX10_likely 79 S Q = zGo d MX10_likely (.ireturn) z0 80 S Q := zW_step (I := .ireturn) rfl S Q
theorem rX10_likely : MX10_likely.2.2.2.2.1 = some .int := rfl
theorem eX10_law_0 {d : Nat} {S : zS} {Q : zR → Prop} : zW d MX10_law 0 S Q = zGo d MX10_law (.aload 0) z0 1 S Q := zW_step (I := .aload_n 0) rfl S Q
theorem eX10_law_1 {d : Nat} {S : zS} {Q : zR → Prop} : zW d MX10_law 1 S Q = zGo d MX10_law (.getfield 82) (zf 3 10 11) 4 S Q := zW_step (I := .getfield 82) rfl S Q
theorem eX10_law_4 {d : Nat} {S : zS} {Q : zR → Prop} : zW d MX10_law 4 S Q = zGo d MX10_law (.aload 0) z0 5 S Q := zW_step (I := .aload_n 0) rfl S Q
theorem eX10_law_5 {d : Nat} {S : zS} {Q : zR → Prop} : zW d MX10_law 5 S Q = zGo d MX10_law (.getfield 10) (zf 3 10 0) 8 S Q := zW_step (I := .getfield 10) rfl S Q
theorem eX10_law_8 {d : Nat} {S : zS} {Q : zR → Prop} : zW d MX10_law 8 S Q = zGo d MX10_law (.invokevirtual 139) (zc 83 2 7) 11 S Q := zW_step (I := .invokevirtual 139) rfl S Q
theorem eX10_law_11 {d : Nat} {S : zS} {Q : zR → Prop} : zW d MX10_law 11 S Q = zGo d MX10_law (.istore 1) z0 12 S Q := zW_step (I := .istore_n 1) rfl S Q
theorem eX10_law_12 {d : Nat} {S : zS} {Q : zR → Prop} : zW d MX10_law 12 S Q = zGo d MX10_law (.iload 1) z0 13 S Q := zW_step (I := .iload_n 1) rfl S Q
theorem eX10_law_13 {d : Nat} {S : zS} {Q : zR → Prop} : zW d MX10_law 13 S Q = zGo d MX10_law (.iconst (-1)) (zv (.int (-1))) 14 S Q := zW_step (I := .iconst (-1)) rfl S Q
theorem eX10_law_14 {d : Nat} {S : zS} {Q : zR → Prop} : zW d MX10_law 14 S Q = zGo d MX10_law (.if_icmp .eq 9) (zt 23) 17 S Q := zW_step (I := .if_icmp .eq 9) rfl S Q
theorem eX10_law_17 {d : Nat} {S : zS} {Q : zR → Prop} : zW d MX10_law 17 S Q = zGo d MX10_law (.ldc_w 326) (zv (.int (-100000))) 20 S Q := zW_step (I := .ldc_w 326) rfl S Q
theorem eX10_law_20 {d : Nat} {S : zS} {Q : zR → Prop} : zW d MX10_law 20 S Q = zGo d MX10_law (.iload 1) z0 21 S Q := zW_step (I := .iload_n 1) rfl S Q
theorem eX10_law_21 {d : Nat} {S : zS} {Q : zR → Prop} : zW d MX10_law 21 S Q = zGo d MX10_law (.isub) z0 22 S Q := zW_step (I := .isub) rfl S Q
theorem eX10_law_22 {d : Nat} {S : zS} {Q : zR → Prop} : zW d MX10_law 22 S Q = zGo d MX10_law (.ireturn) z0 23 S Q := zW_step (I := .ireturn) rfl S Q
theorem eX10_law_23 {d : Nat} {S : zS} {Q : zR → Prop} : zW d MX10_law 23 S Q = zGo d MX10_law (.aload 0) z0 24 S Q := zW_step (I := .aload_n 0) rfl S Q
theorem eX10_law_24 {d : Nat} {S : zS} {Q : zR → Prop} : zW d MX10_law 24 S Q = zGo d MX10_law (.getfield 50) (zf 3 10 6) 27 S Q := zW_step (I := .getfield 50) rfl S Q
theorem eX10_law_27 {d : Nat} {S : zS} {Q : zR → Prop} : zW d MX10_law 27 S Q = zGo d MX10_law (.aload 0) z0 28 S Q := zW_step (I := .aload_n 0) rfl S Q
theorem eX10_law_28 {d : Nat} {S : zS} {Q : zR → Prop} : zW d MX10_law 28 S Q = zGo d MX10_law (.getfield 19) (zf 3 10 1) 31 S Q := zW_step (I := .getfield 19) rfl S Q
theorem eX10_law_31 {d : Nat} {S : zS} {Q : zR → Prop} : zW d MX10_law 31 S Q = zGo d MX10_law (.invokevirtual 215) (zc 51 2 4) 34 S Q := zW_step (I := .invokevirtual 215) rfl S Q
theorem eX10_law_34 {d : Nat} {S : zS} {Q : zR → Prop} : zW d MX10_law 34 S Q = zGo d MX10_law (.lconst 0) (zv (.long 0)) 35 S Q := zW_step (I := .lconst 0) rfl S Q
theorem eX10_law_35 {d : Nat} {S : zS} {Q : zR → Prop} : zW d MX10_law 35 S Q = zGo d MX10_law (.lcmp) z0 36 S Q := zW_step (I := .lcmp) rfl S Q
theorem eX10_law_36 {d : Nat} {S : zS} {Q : zR → Prop} : zW d MX10_law 36 S Q = zGo d MX10_law (.ifCond .ne 6) (zt 42) 39 S Q := zW_step (I := .ifCond .ne 6) rfl S Q
theorem eX10_law_39 {d : Nat} {S : zS} {Q : zR → Prop} : zW d MX10_law 39 S Q = zGo d MX10_law (.bipush (-2)) (zv (.int (-2))) 41 S Q := zW_step (I := .bipush (-2)) rfl S Q
theorem eX10_law_41 {d : Nat} {S : zS} {Q : zR → Prop} : zW d MX10_law 41 S Q = zGo d MX10_law (.ireturn) z0 42 S Q := zW_step (I := .ireturn) rfl S Q
theorem eX10_law_42 {d : Nat} {S : zS} {Q : zR → Prop} : zW d MX10_law 42 S Q = zGo d MX10_law (.aload 0) z0 43 S Q := zW_step (I := .aload_n 0) rfl S Q
theorem eX10_law_43 {d : Nat} {S : zS} {Q : zR → Prop} : zW d MX10_law 43 S Q = zGo d MX10_law (.getfield 57) (zf 3 10 7) 46 S Q := zW_step (I := .getfield 57) rfl S Q
theorem eX10_law_46 {d : Nat} {S : zS} {Q : zR → Prop} : zW d MX10_law 46 S Q = zGo d MX10_law (.aload 0) z0 47 S Q := zW_step (I := .aload_n 0) rfl S Q
theorem eX10_law_47 {d : Nat} {S : zS} {Q : zR → Prop} : zW d MX10_law 47 S Q = zGo d MX10_law (.getfield 50) (zf 3 10 6) 50 S Q := zW_step (I := .getfield 50) rfl S Q
theorem eX10_law_50 {d : Nat} {S : zS} {Q : zR → Prop} : zW d MX10_law 50 S Q = zGo d MX10_law (.aload 0) z0 51 S Q := zW_step (I := .aload_n 0) rfl S Q
theorem eX10_law_51 {d : Nat} {S : zS} {Q : zR → Prop} : zW d MX10_law 51 S Q = zGo d MX10_law (.getfield 19) (zf 3 10 1) 54 S Q := zW_step (I := .getfield 19) rfl S Q
theorem eX10_law_54 {d : Nat} {S : zS} {Q : zR → Prop} : zW d MX10_law 54 S Q = zGo d MX10_law (.aload 0) z0 55 S Q := zW_step (I := .aload_n 0) rfl S Q
theorem eX10_law_55 {d : Nat} {S : zS} {Q : zR → Prop} : zW d MX10_law 55 S Q = zGo d MX10_law (.getfield 82) (zf 3 10 11) 58 S Q := zW_step (I := .getfield 82) rfl S Q
theorem eX10_law_58 {d : Nat} {S : zS} {Q : zR → Prop} : zW d MX10_law 58 S Q = zGo d MX10_law (.invokevirtual 258) (zc 19 4 1) 61 S Q := zW_step (I := .invokevirtual 258) rfl S Q
theorem eX10_law_61 {d : Nat} {S : zS} {Q : zR → Prop} : zW d MX10_law 61 S Q = zGo d MX10_law (.istore 2) z0 62 S Q := zW_step (I := .istore_n 2) rfl S Q
theorem eX10_law_62 {d : Nat} {S : zS} {Q : zR → Prop} : zW d MX10_law 62 S Q = zGo d MX10_law (.aload 0) z0 63 S Q := zW_step (I := .aload_n 0) rfl S Q
theorem eX10_law_63 {d : Nat} {S : zS} {Q : zR → Prop} : zW d MX10_law 63 S Q = zGo d MX10_law (.getfield 57) (zf 3 10 7) 66 S Q := zW_step (I := .getfield 57) rfl S Q
theorem eX10_law_66 {d : Nat} {S : zS} {Q : zR → Prop} : zW d MX10_law 66 S Q = zGo d MX10_law (.aload 0) z0 67 S Q := zW_step (I := .aload_n 0) rfl S Q
theorem eX10_law_67 {d : Nat} {S : zS} {Q : zR → Prop} : zW d MX10_law 67 S Q = zGo d MX10_law (.getfield 50) (zf 3 10 6) 70 S Q := zW_step (I := .getfield 50) rfl S Q
theorem eX10_law_70 {d : Nat} {S : zS} {Q : zR → Prop} : zW d MX10_law 70 S Q = zGo d MX10_law (.aload 0) z0 71 S Q := zW_step (I := .aload_n 0) rfl S Q
theorem eX10_law_71 {d : Nat} {S : zS} {Q : zR → Prop} : zW d MX10_law 71 S Q = zGo d MX10_law (.getfield 19) (zf 3 10 1) 74 S Q := zW_step (I := .getfield 19) rfl S Q
theorem eX10_law_74 {d : Nat} {S : zS} {Q : zR → Prop} : zW d MX10_law 74 S Q = zGo d MX10_law (.aload 0) z0 75 S Q := zW_step (I := .aload_n 0) rfl S Q
theorem eX10_law_75 {d : Nat} {S : zS} {Q : zR → Prop} : zW d MX10_law 75 S Q = zGo d MX10_law (.getfield 78) (zf 3 10 10) 78 S Q := zW_step (I := .getfield 78) rfl S Q
theorem eX10_law_78 {d : Nat} {S : zS} {Q : zR → Prop} : zW d MX10_law 78 S Q = zGo d MX10_law (.invokevirtual 258) (zc 19 4 1) 81 S Q := zW_step (I := .invokevirtual 258) rfl S Q
theorem eX10_law_81 {d : Nat} {S : zS} {Q : zR → Prop} : zW d MX10_law 81 S Q = zGo d MX10_law (.istore 3) z0 82 S Q := zW_step (I := .istore_n 3) rfl S Q
theorem eX10_law_82 {d : Nat} {S : zS} {Q : zR → Prop} : zW d MX10_law 82 S Q = zGo d MX10_law (.aload 0) z0 83 S Q := zW_step (I := .aload_n 0) rfl S Q
theorem eX10_law_83 {d : Nat} {S : zS} {Q : zR → Prop} : zW d MX10_law 83 S Q = zGo d MX10_law (.getfield 36) (zf 3 10 4) 86 S Q := zW_step (I := .getfield 36) rfl S Q
theorem eX10_law_86 {d : Nat} {S : zS} {Q : zR → Prop} : zW d MX10_law 86 S Q = zGo d MX10_law (.invokevirtual 205) (zc 78 1 6) 89 S Q := zW_step (I := .invokevirtual 205) rfl S Q
theorem eX10_law_89 {d : Nat} {S : zS} {Q : zR → Prop} : zW d MX10_law 89 S Q = zGo d MX10_law (.aload 0) z0 90 S Q := zW_step (I := .aload_n 0) rfl S Q
theorem eX10_law_90 {d : Nat} {S : zS} {Q : zR → Prop} : zW d MX10_law 90 S Q = zGo d MX10_law (.getfield 36) (zf 3 10 4) 93 S Q := zW_step (I := .getfield 36) rfl S Q
theorem eX10_law_93 {d : Nat} {S : zS} {Q : zR → Prop} : zW d MX10_law 93 S Q = zGo d MX10_law (.sipush 10000) (zv (.int 10000)) 96 S Q := zW_step (I := .sipush 10000) rfl S Q
theorem eX10_law_96 {d : Nat} {S : zS} {Q : zR → Prop} : zW d MX10_law 96 S Q = zGo d MX10_law (.iload 2) z0 97 S Q := zW_step (I := .iload_n 2) rfl S Q
theorem eX10_law_97 {d : Nat} {S : zS} {Q : zR → Prop} : zW d MX10_law 97 S Q = zGo d MX10_law (.iadd) z0 98 S Q := zW_step (I := .iadd) rfl S Q
theorem eX10_law_98 {d : Nat} {S : zS} {Q : zR → Prop} : zW d MX10_law 98 S Q = zGo d MX10_law (.i2l) z0 99 S Q := zW_step (I := .i2l) rfl S Q
theorem eX10_law_99 {d : Nat} {S : zS} {Q : zR → Prop} : zW d MX10_law 99 S Q = zGo d MX10_law (.invokevirtual 206) (zc 79 2 6) 102 S Q := zW_step (I := .invokevirtual 206) rfl S Q
theorem eX10_law_102 {d : Nat} {S : zS} {Q : zR → Prop} : zW d MX10_law 102 S Q = zGo d MX10_law (.aload 0) z0 103 S Q := zW_step (I := .aload_n 0) rfl S Q
theorem eX10_law_103 {d : Nat} {S : zS} {Q : zR → Prop} : zW d MX10_law 103 S Q = zGo d MX10_law (.getfield 36) (zf 3 10 4) 106 S Q := zW_step (I := .getfield 36) rfl S Q
theorem eX10_law_106 {d : Nat} {S : zS} {Q : zR → Prop} : zW d MX10_law 106 S Q = zGo d MX10_law (.sipush 10000) (zv (.int 10000)) 109 S Q := zW_step (I := .sipush 10000) rfl S Q
theorem eX10_law_109 {d : Nat} {S : zS} {Q : zR → Prop} : zW d MX10_law 109 S Q = zGo d MX10_law (.iload 3) z0 110 S Q := zW_step (I := .iload_n 3) rfl S Q
theorem eX10_law_110 {d : Nat} {S : zS} {Q : zR → Prop} : zW d MX10_law 110 S Q = zGo d MX10_law (.iadd) z0 111 S Q := zW_step (I := .iadd) rfl S Q
theorem eX10_law_111 {d : Nat} {S : zS} {Q : zR → Prop} : zW d MX10_law 111 S Q = zGo d MX10_law (.i2l) z0 112 S Q := zW_step (I := .i2l) rfl S Q
theorem eX10_law_112 {d : Nat} {S : zS} {Q : zR → Prop} : zW d MX10_law 112 S Q = zGo d MX10_law (.invokevirtual 206) (zc 79 2 6) 115 S Q := zW_step (I := .invokevirtual 206) rfl S Q
theorem eX10_law_115 {d : Nat} {S : zS} {Q : zR → Prop} : zW d MX10_law 115 S Q = zGo d MX10_law (.sipush 10000) (zv (.int 10000)) 118 S Q := zW_step (I := .sipush 10000) rfl S Q
theorem eX10_law_118 {d : Nat} {S : zS} {Q : zR → Prop} : zW d MX10_law 118 S Q = zGo d MX10_law (.iload 2) z0 119 S Q := zW_step (I := .iload_n 2) rfl S Q
theorem eX10_law_119 {d : Nat} {S : zS} {Q : zR → Prop} : zW d MX10_law 119 S Q = zGo d MX10_law (.iadd) z0 120 S Q := zW_step (I := .iadd) rfl S Q
theorem eX10_law_120 {d : Nat} {S : zS} {Q : zR → Prop} : zW d MX10_law 120 S Q = zGo d MX10_law (.iload 3) z0 121 S Q := zW_step (I := .iload_n 3) rfl S Q
theorem eX10_law_121 {d : Nat} {S : zS} {Q : zR → Prop} : zW d MX10_law 121 S Q = zGo d MX10_law (.isub) z0 122 S Q := zW_step (I := .isub) rfl S Q
theorem eX10_law_122 {d : Nat} {S : zS} {Q : zR → Prop} : zW d MX10_law 122 S Q = zGo d MX10_law (.ireturn) z0 123 S Q := zW_step (I := .ireturn) rfl S Q
theorem rX10_law : MX10_law.2.2.2.2.1 = some .int := rfl
theorem eX10_sure_0 {d : Nat} {S : zS} {Q : zR → Prop} : zW d MX10_sure 0 S Q = zGo d MX10_sure (.aload 0) z0 1 S Q := zW_step (I := .aload_n 0) rfl S Q
theorem eX10_sure_1 {d : Nat} {S : zS} {Q : zR → Prop} : zW d MX10_sure 1 S Q = zGo d MX10_sure (.getfield 50) (zf 3 10 6) 4 S Q := zW_step (I := .getfield 50) rfl S Q
theorem eX10_sure_4 {d : Nat} {S : zS} {Q : zR → Prop} : zW d MX10_sure 4 S Q = zGo d MX10_sure (.aload 0) z0 5 S Q := zW_step (I := .aload_n 0) rfl S Q
theorem eX10_sure_5 {d : Nat} {S : zS} {Q : zR → Prop} : zW d MX10_sure 5 S Q = zGo d MX10_sure (.getfield 19) (zf 3 10 1) 8 S Q := zW_step (I := .getfield 19) rfl S Q
theorem eX10_sure_8 {d : Nat} {S : zS} {Q : zR → Prop} : zW d MX10_sure 8 S Q = zGo d MX10_sure (.invokevirtual 215) (zc 51 2 4) 11 S Q := zW_step (I := .invokevirtual 215) rfl S Q
theorem eX10_sure_11 {d : Nat} {S : zS} {Q : zR → Prop} : zW d MX10_sure 11 S Q = zGo d MX10_sure (.lstore 1) z0 12 S Q := zW_step (I := .lstore_n 1) rfl S Q
theorem eX10_sure_12 {d : Nat} {S : zS} {Q : zR → Prop} : zW d MX10_sure 12 S Q = zGo d MX10_sure (.lload 1) z0 13 S Q := zW_step (I := .lload_n 1) rfl S Q
theorem eX10_sure_13 {d : Nat} {S : zS} {Q : zR → Prop} : zW d MX10_sure 13 S Q = zGo d MX10_sure (.lconst 0) (zv (.long 0)) 14 S Q := zW_step (I := .lconst 0) rfl S Q
theorem eX10_sure_14 {d : Nat} {S : zS} {Q : zR → Prop} : zW d MX10_sure 14 S Q = zGo d MX10_sure (.lcmp) z0 15 S Q := zW_step (I := .lcmp) rfl S Q
theorem eX10_sure_15 {d : Nat} {S : zS} {Q : zR → Prop} : zW d MX10_sure 15 S Q = zGo d MX10_sure (.ifCond .ne 6) (zt 21) 18 S Q := zW_step (I := .ifCond .ne 6) rfl S Q
theorem eX10_sure_18 {d : Nat} {S : zS} {Q : zR → Prop} : zW d MX10_sure 18 S Q = zGo d MX10_sure (.bipush (-2)) (zv (.int (-2))) 20 S Q := zW_step (I := .bipush (-2)) rfl S Q
theorem eX10_sure_20 {d : Nat} {S : zS} {Q : zR → Prop} : zW d MX10_sure 20 S Q = zGo d MX10_sure (.ireturn) z0 21 S Q := zW_step (I := .ireturn) rfl S Q
theorem eX10_sure_21 {d : Nat} {S : zS} {Q : zR → Prop} : zW d MX10_sure 21 S Q = zGo d MX10_sure (.aload 0) z0 22 S Q := zW_step (I := .aload_n 0) rfl S Q
theorem eX10_sure_22 {d : Nat} {S : zS} {Q : zR → Prop} : zW d MX10_sure 22 S Q = zGo d MX10_sure (.getfield 36) (zf 3 10 4) 25 S Q := zW_step (I := .getfield 36) rfl S Q
theorem eX10_sure_25 {d : Nat} {S : zS} {Q : zR → Prop} : zW d MX10_sure 25 S Q = zGo d MX10_sure (.invokevirtual 205) (zc 78 1 6) 28 S Q := zW_step (I := .invokevirtual 205) rfl S Q
theorem eX10_sure_28 {d : Nat} {S : zS} {Q : zR → Prop} : zW d MX10_sure 28 S Q = zGo d MX10_sure (.iconst 0) (zv (.int 0)) 29 S Q := zW_step (I := .iconst 0) rfl S Q
theorem eX10_sure_29 {d : Nat} {S : zS} {Q : zR → Prop} : zW d MX10_sure 29 S Q = zGo d MX10_sure (.istore 3) z0 30 S Q := zW_step (I := .istore_n 3) rfl S Q
theorem eX10_sure_30 {d : Nat} {S : zS} {Q : zR → Prop} : zW d MX10_sure 30 S Q = zGo d MX10_sure (.iconst 0) (zv (.int 0)) 31 S Q := zW_step (I := .iconst 0) rfl S Q
theorem eX10_sure_31 {d : Nat} {S : zS} {Q : zR → Prop} : zW d MX10_sure 31 S Q = zGo d MX10_sure (.istore 4) z0 33 S Q := zW_step (I := .istore 4) rfl S Q
theorem eX10_sure_33 {d : Nat} {S : zS} {Q : zR → Prop} : zW d MX10_sure 33 S Q = zGo d MX10_sure (.iload 4) z0 35 S Q := zW_step (I := .iload 4) rfl S Q
theorem eX10_sure_35 {d : Nat} {S : zS} {Q : zR → Prop} : zW d MX10_sure 35 S Q = zGo d MX10_sure (.aload 0) z0 36 S Q := zW_step (I := .aload_n 0) rfl S Q
theorem eX10_sure_36 {d : Nat} {S : zS} {Q : zR → Prop} : zW d MX10_sure 36 S Q = zGo d MX10_sure (.getfield 19) (zf 3 10 1) 39 S Q := zW_step (I := .getfield 19) rfl S Q
theorem eX10_sure_39 {d : Nat} {S : zS} {Q : zR → Prop} : zW d MX10_sure 39 S Q = zGo d MX10_sure (.getfield 93) (zf 0 9 3) 42 S Q := zW_step (I := .getfield 93) rfl S Q
theorem eX10_sure_42 {d : Nat} {S : zS} {Q : zR → Prop} : zW d MX10_sure 42 S Q = zGo d MX10_sure (.if_icmp .ge 80) (zt 122) 45 S Q := zW_step (I := .if_icmp .ge 80) rfl S Q
theorem eX10_sure_45 {d : Nat} {S : zS} {Q : zR → Prop} : zW d MX10_sure 45 S Q = zGo d MX10_sure (.iconst 0) (zv (.int 0)) 46 S Q := zW_step (I := .iconst 0) rfl S Q
theorem eX10_sure_46 {d : Nat} {S : zS} {Q : zR → Prop} : zW d MX10_sure 46 S Q = zGo d MX10_sure (.istore 5) z0 48 S Q := zW_step (I := .istore 5) rfl S Q
theorem eX10_sure_48 {d : Nat} {S : zS} {Q : zR → Prop} : zW d MX10_sure 48 S Q = zGo d MX10_sure (.iload 5) z0 50 S Q := zW_step (I := .iload 5) rfl S Q
theorem eX10_sure_50 {d : Nat} {S : zS} {Q : zR → Prop} : zW d MX10_sure 50 S Q = zGo d MX10_sure (.aload 0) z0 51 S Q := zW_step (I := .aload_n 0) rfl S Q
theorem eX10_sure_51 {d : Nat} {S : zS} {Q : zR → Prop} : zW d MX10_sure 51 S Q = zGo d MX10_sure (.getfield 19) (zf 3 10 1) 54 S Q := zW_step (I := .getfield 19) rfl S Q
theorem eX10_sure_54 {d : Nat} {S : zS} {Q : zR → Prop} : zW d MX10_sure 54 S Q = zGo d MX10_sure (.getfield 93) (zf 0 9 3) 57 S Q := zW_step (I := .getfield 93) rfl S Q
theorem eX10_sure_57 {d : Nat} {S : zS} {Q : zR → Prop} : zW d MX10_sure 57 S Q = zGo d MX10_sure (.if_icmp .ge 59) (zt 116) 60 S Q := zW_step (I := .if_icmp .ge 59) rfl S Q
theorem eX10_sure_60 {d : Nat} {S : zS} {Q : zR → Prop} : zW d MX10_sure 60 S Q = zGo d MX10_sure (.iload 4) z0 62 S Q := zW_step (I := .iload 4) rfl S Q
theorem eX10_sure_62 {d : Nat} {S : zS} {Q : zR → Prop} : zW d MX10_sure 62 S Q = zGo d MX10_sure (.iload 5) z0 64 S Q := zW_step (I := .iload 5) rfl S Q
theorem eX10_sure_64 {d : Nat} {S : zS} {Q : zR → Prop} : zW d MX10_sure 64 S Q = zGo d MX10_sure (.if_icmp .eq 46) (zt 110) 67 S Q := zW_step (I := .if_icmp .eq 46) rfl S Q
theorem eX10_sure_67 {d : Nat} {S : zS} {Q : zR → Prop} : zW d MX10_sure 67 S Q = zGo d MX10_sure (.aload 0) z0 68 S Q := zW_step (I := .aload_n 0) rfl S Q
theorem eX10_sure_68 {d : Nat} {S : zS} {Q : zR → Prop} : zW d MX10_sure 68 S Q = zGo d MX10_sure (.getfield 50) (zf 3 10 6) 71 S Q := zW_step (I := .getfield 50) rfl S Q
theorem eX10_sure_71 {d : Nat} {S : zS} {Q : zR → Prop} : zW d MX10_sure 71 S Q = zGo d MX10_sure (.iload 4) z0 73 S Q := zW_step (I := .iload 4) rfl S Q
theorem eX10_sure_73 {d : Nat} {S : zS} {Q : zR → Prop} : zW d MX10_sure 73 S Q = zGo d MX10_sure (.iload 5) z0 75 S Q := zW_step (I := .iload 5) rfl S Q
theorem eX10_sure_75 {d : Nat} {S : zS} {Q : zR → Prop} : zW d MX10_sure 75 S Q = zGo d MX10_sure (.invokevirtual 223) (zc 59 3 4) 78 S Q := zW_step (I := .invokevirtual 223) rfl S Q
theorem eX10_sure_78 {d : Nat} {S : zS} {Q : zR → Prop} : zW d MX10_sure 78 S Q = zGo d MX10_sure (.lload 1) z0 79 S Q := zW_step (I := .lload_n 1) rfl S Q
theorem eX10_sure_79 {d : Nat} {S : zS} {Q : zR → Prop} : zW d MX10_sure 79 S Q = zGo d MX10_sure (.lcmp) z0 80 S Q := zW_step (I := .lcmp) rfl S Q
theorem eX10_sure_80 {d : Nat} {S : zS} {Q : zR → Prop} : zW d MX10_sure 80 S Q = zGo d MX10_sure (.ifCond .ne 30) (zt 110) 83 S Q := zW_step (I := .ifCond .ne 30) rfl S Q
theorem eX10_sure_83 {d : Nat} {S : zS} {Q : zR → Prop} : zW d MX10_sure 83 S Q = zGo d MX10_sure (.iload 3) z0 84 S Q := zW_step (I := .iload_n 3) rfl S Q
theorem eX10_sure_84 {d : Nat} {S : zS} {Q : zR → Prop} : zW d MX10_sure 84 S Q = zGo d MX10_sure (.ifCond .ne 23) (zt 107) 87 S Q := zW_step (I := .ifCond .ne 23) rfl S Q
theorem eX10_sure_87 {d : Nat} {S : zS} {Q : zR → Prop} : zW d MX10_sure 87 S Q = zGo d MX10_sure (.aload 0) z0 88 S Q := zW_step (I := .aload_n 0) rfl S Q
theorem eX10_sure_88 {d : Nat} {S : zS} {Q : zR → Prop} : zW d MX10_sure 88 S Q = zGo d MX10_sure (.getfield 36) (zf 3 10 4) 91 S Q := zW_step (I := .getfield 36) rfl S Q
theorem eX10_sure_91 {d : Nat} {S : zS} {Q : zR → Prop} : zW d MX10_sure 91 S Q = zGo d MX10_sure (.iload 4) z0 93 S Q := zW_step (I := .iload 4) rfl S Q
theorem eX10_sure_93 {d : Nat} {S : zS} {Q : zR → Prop} : zW d MX10_sure 93 S Q = zGo d MX10_sure (.i2l) z0 94 S Q := zW_step (I := .i2l) rfl S Q
theorem eX10_sure_94 {d : Nat} {S : zS} {Q : zR → Prop} : zW d MX10_sure 94 S Q = zGo d MX10_sure (.invokevirtual 206) (zc 79 2 6) 97 S Q := zW_step (I := .invokevirtual 206) rfl S Q
theorem eX10_sure_97 {d : Nat} {S : zS} {Q : zR → Prop} : zW d MX10_sure 97 S Q = zGo d MX10_sure (.aload 0) z0 98 S Q := zW_step (I := .aload_n 0) rfl S Q
theorem eX10_sure_98 {d : Nat} {S : zS} {Q : zR → Prop} : zW d MX10_sure 98 S Q = zGo d MX10_sure (.getfield 36) (zf 3 10 4) 101 S Q := zW_step (I := .getfield 36) rfl S Q
theorem eX10_sure_101 {d : Nat} {S : zS} {Q : zR → Prop} : zW d MX10_sure 101 S Q = zGo d MX10_sure (.iload 5) z0 103 S Q := zW_step (I := .iload 5) rfl S Q
theorem eX10_sure_103 {d : Nat} {S : zS} {Q : zR → Prop} : zW d MX10_sure 103 S Q = zGo d MX10_sure (.i2l) z0 104 S Q := zW_step (I := .i2l) rfl S Q
theorem eX10_sure_104 {d : Nat} {S : zS} {Q : zR → Prop} : zW d MX10_sure 104 S Q = zGo d MX10_sure (.invokevirtual 206) (zc 79 2 6) 107 S Q := zW_step (I := .invokevirtual 206) rfl S Q
theorem eX10_sure_107 {d : Nat} {S : zS} {Q : zR → Prop} : zW d MX10_sure 107 S Q = zGo d MX10_sure (.iinc 3 1) (zv (.int 1)) 110 S Q := zW_step (I := .iinc 3 1) rfl S Q
theorem eX10_sure_110 {d : Nat} {S : zS} {Q : zR → Prop} : zW d MX10_sure 110 S Q = zGo d MX10_sure (.iinc 5 1) (zv (.int 1)) 113 S Q := zW_step (I := .iinc 5 1) rfl S Q
theorem eX10_sure_113 {d : Nat} {S : zS} {Q : zR → Prop} : zW d MX10_sure 113 S Q = zGo d MX10_sure (.goto (-65)) (zt 48) 116 S Q := zW_step (I := .goto (-65)) rfl S Q
theorem eX10_sure_116 {d : Nat} {S : zS} {Q : zR → Prop} : zW d MX10_sure 116 S Q = zGo d MX10_sure (.iinc 4 1) (zv (.int 1)) 119 S Q := zW_step (I := .iinc 4 1) rfl S Q
theorem eX10_sure_119 {d : Nat} {S : zS} {Q : zR → Prop} : zW d MX10_sure 119 S Q = zGo d MX10_sure (.goto (-86)) (zt 33) 122 S Q := zW_step (I := .goto (-86)) rfl S Q
theorem eX10_sure_122 {d : Nat} {S : zS} {Q : zR → Prop} : zW d MX10_sure 122 S Q = zGo d MX10_sure (.iload 3) z0 123 S Q := zW_step (I := .iload_n 3) rfl S Q
theorem eX10_sure_123 {d : Nat} {S : zS} {Q : zR → Prop} : zW d MX10_sure 123 S Q = zGo d MX10_sure (.ireturn) z0 124 S Q := zW_step (I := .ireturn) rfl S Q
theorem rX10_sure : MX10_sure.2.2.2.2.1 = some .int := rfl
theorem eX10_known_0 {d : Nat} {S : zS} {Q : zR → Prop} : zW d MX10_known 0 S Q = zGo d MX10_known (.aload 0) z0 1 S Q := zW_step (I := .aload_n 0) rfl S Q
theorem eX10_known_1 {d : Nat} {S : zS} {Q : zR → Prop} : zW d MX10_known 1 S Q = zGo d MX10_known (.getfield 50) (zf 3 10 6) 4 S Q := zW_step (I := .getfield 50) rfl S Q
theorem eX10_known_4 {d : Nat} {S : zS} {Q : zR → Prop} : zW d MX10_known 4 S Q = zGo d MX10_known (.aload 0) z0 5 S Q := zW_step (I := .aload_n 0) rfl S Q
theorem eX10_known_5 {d : Nat} {S : zS} {Q : zR → Prop} : zW d MX10_known 5 S Q = zGo d MX10_known (.getfield 19) (zf 3 10 1) 8 S Q := zW_step (I := .getfield 19) rfl S Q
theorem eX10_known_8 {d : Nat} {S : zS} {Q : zR → Prop} : zW d MX10_known 8 S Q = zGo d MX10_known (.invokevirtual 215) (zc 51 2 4) 11 S Q := zW_step (I := .invokevirtual 215) rfl S Q
theorem eX10_known_11 {d : Nat} {S : zS} {Q : zR → Prop} : zW d MX10_known 11 S Q = zGo d MX10_known (.lstore 1) z0 12 S Q := zW_step (I := .lstore_n 1) rfl S Q
theorem eX10_known_12 {d : Nat} {S : zS} {Q : zR → Prop} : zW d MX10_known 12 S Q = zGo d MX10_known (.lload 1) z0 13 S Q := zW_step (I := .lload_n 1) rfl S Q
theorem eX10_known_13 {d : Nat} {S : zS} {Q : zR → Prop} : zW d MX10_known 13 S Q = zGo d MX10_known (.lconst 0) (zv (.long 0)) 14 S Q := zW_step (I := .lconst 0) rfl S Q
theorem eX10_known_14 {d : Nat} {S : zS} {Q : zR → Prop} : zW d MX10_known 14 S Q = zGo d MX10_known (.lcmp) z0 15 S Q := zW_step (I := .lcmp) rfl S Q
theorem eX10_known_15 {d : Nat} {S : zS} {Q : zR → Prop} : zW d MX10_known 15 S Q = zGo d MX10_known (.ifCond .ne 6) (zt 21) 18 S Q := zW_step (I := .ifCond .ne 6) rfl S Q
theorem eX10_known_18 {d : Nat} {S : zS} {Q : zR → Prop} : zW d MX10_known 18 S Q = zGo d MX10_known (.bipush (-2)) (zv (.int (-2))) 20 S Q := zW_step (I := .bipush (-2)) rfl S Q
theorem eX10_known_20 {d : Nat} {S : zS} {Q : zR → Prop} : zW d MX10_known 20 S Q = zGo d MX10_known (.ireturn) z0 21 S Q := zW_step (I := .ireturn) rfl S Q
theorem eX10_known_21 {d : Nat} {S : zS} {Q : zR → Prop} : zW d MX10_known 21 S Q = zGo d MX10_known (.aload 0) z0 22 S Q := zW_step (I := .aload_n 0) rfl S Q
theorem eX10_known_22 {d : Nat} {S : zS} {Q : zR → Prop} : zW d MX10_known 22 S Q = zGo d MX10_known (.getfield 36) (zf 3 10 4) 25 S Q := zW_step (I := .getfield 36) rfl S Q
theorem eX10_known_25 {d : Nat} {S : zS} {Q : zR → Prop} : zW d MX10_known 25 S Q = zGo d MX10_known (.invokevirtual 205) (zc 78 1 6) 28 S Q := zW_step (I := .invokevirtual 205) rfl S Q
theorem eX10_known_28 {d : Nat} {S : zS} {Q : zR → Prop} : zW d MX10_known 28 S Q = zGo d MX10_known (.iconst 0) (zv (.int 0)) 29 S Q := zW_step (I := .iconst 0) rfl S Q
theorem eX10_known_29 {d : Nat} {S : zS} {Q : zR → Prop} : zW d MX10_known 29 S Q = zGo d MX10_known (.istore 3) z0 30 S Q := zW_step (I := .istore_n 3) rfl S Q
theorem eX10_known_30 {d : Nat} {S : zS} {Q : zR → Prop} : zW d MX10_known 30 S Q = zGo d MX10_known (.iconst 0) (zv (.int 0)) 31 S Q := zW_step (I := .iconst 0) rfl S Q
theorem eX10_known_31 {d : Nat} {S : zS} {Q : zR → Prop} : zW d MX10_known 31 S Q = zGo d MX10_known (.istore 4) z0 33 S Q := zW_step (I := .istore 4) rfl S Q
theorem eX10_known_33 {d : Nat} {S : zS} {Q : zR → Prop} : zW d MX10_known 33 S Q = zGo d MX10_known (.iload 4) z0 35 S Q := zW_step (I := .iload 4) rfl S Q
theorem eX10_known_35 {d : Nat} {S : zS} {Q : zR → Prop} : zW d MX10_known 35 S Q = zGo d MX10_known (.aload 0) z0 36 S Q := zW_step (I := .aload_n 0) rfl S Q
theorem eX10_known_36 {d : Nat} {S : zS} {Q : zR → Prop} : zW d MX10_known 36 S Q = zGo d MX10_known (.getfield 19) (zf 3 10 1) 39 S Q := zW_step (I := .getfield 19) rfl S Q
theorem eX10_known_39 {d : Nat} {S : zS} {Q : zR → Prop} : zW d MX10_known 39 S Q = zGo d MX10_known (.getfield 93) (zf 0 9 3) 42 S Q := zW_step (I := .getfield 93) rfl S Q
theorem eX10_known_42 {d : Nat} {S : zS} {Q : zR → Prop} : zW d MX10_known 42 S Q = zGo d MX10_known (.if_icmp .ge 121) (zt 163) 45 S Q := zW_step (I := .if_icmp .ge 121) rfl S Q
theorem eX10_known_45 {d : Nat} {S : zS} {Q : zR → Prop} : zW d MX10_known 45 S Q = zGo d MX10_known (.iload 4) z0 47 S Q := zW_step (I := .iload 4) rfl S Q
theorem eX10_known_47 {d : Nat} {S : zS} {Q : zR → Prop} : zW d MX10_known 47 S Q = zGo d MX10_known (.iconst 1) (zv (.int 1)) 48 S Q := zW_step (I := .iconst 1) rfl S Q
theorem eX10_known_48 {d : Nat} {S : zS} {Q : zR → Prop} : zW d MX10_known 48 S Q = zGo d MX10_known (.iadd) z0 49 S Q := zW_step (I := .iadd) rfl S Q
theorem eX10_known_49 {d : Nat} {S : zS} {Q : zR → Prop} : zW d MX10_known 49 S Q = zGo d MX10_known (.istore 5) z0 51 S Q := zW_step (I := .istore 5) rfl S Q
theorem eX10_known_51 {d : Nat} {S : zS} {Q : zR → Prop} : zW d MX10_known 51 S Q = zGo d MX10_known (.iload 5) z0 53 S Q := zW_step (I := .iload 5) rfl S Q
theorem eX10_known_53 {d : Nat} {S : zS} {Q : zR → Prop} : zW d MX10_known 53 S Q = zGo d MX10_known (.aload 0) z0 54 S Q := zW_step (I := .aload_n 0) rfl S Q
theorem eX10_known_54 {d : Nat} {S : zS} {Q : zR → Prop} : zW d MX10_known 54 S Q = zGo d MX10_known (.getfield 19) (zf 3 10 1) 57 S Q := zW_step (I := .getfield 19) rfl S Q
theorem eX10_known_57 {d : Nat} {S : zS} {Q : zR → Prop} : zW d MX10_known 57 S Q = zGo d MX10_known (.getfield 93) (zf 0 9 3) 60 S Q := zW_step (I := .getfield 93) rfl S Q
theorem eX10_known_60 {d : Nat} {S : zS} {Q : zR → Prop} : zW d MX10_known 60 S Q = zGo d MX10_known (.if_icmp .ge 97) (zt 157) 63 S Q := zW_step (I := .if_icmp .ge 97) rfl S Q
theorem eX10_known_63 {d : Nat} {S : zS} {Q : zR → Prop} : zW d MX10_known 63 S Q = zGo d MX10_known (.aload 0) z0 64 S Q := zW_step (I := .aload_n 0) rfl S Q
theorem eX10_known_64 {d : Nat} {S : zS} {Q : zR → Prop} : zW d MX10_known 64 S Q = zGo d MX10_known (.getfield 19) (zf 3 10 1) 67 S Q := zW_step (I := .getfield 19) rfl S Q
theorem eX10_known_67 {d : Nat} {S : zS} {Q : zR → Prop} : zW d MX10_known 67 S Q = zGo d MX10_known (.iload 4) z0 69 S Q := zW_step (I := .iload 4) rfl S Q
theorem eX10_known_69 {d : Nat} {S : zS} {Q : zR → Prop} : zW d MX10_known 69 S Q = zGo d MX10_known (.iload 5) z0 71 S Q := zW_step (I := .iload 5) rfl S Q
theorem eX10_known_71 {d : Nat} {S : zS} {Q : zR → Prop} : zW d MX10_known 71 S Q = zGo d MX10_known (.invokevirtual 166) (zc 112 3 9) 74 S Q := zW_step (I := .invokevirtual 166) rfl S Q
theorem eX10_known_74 {d : Nat} {S : zS} {Q : zR → Prop} : zW d MX10_known 74 S Q = zGo d MX10_known (.iconst 2) (zv (.int 2)) 75 S Q := zW_step (I := .iconst 2) rfl S Q
theorem eX10_known_75 {d : Nat} {S : zS} {Q : zR → Prop} : zW d MX10_known 75 S Q = zGo d MX10_known (.if_icmp .ne 76) (zt 151) 78 S Q := zW_step (I := .if_icmp .ne 76) rfl S Q
theorem eX10_known_78 {d : Nat} {S : zS} {Q : zR → Prop} : zW d MX10_known 78 S Q = zGo d MX10_known (.aload 0) z0 79 S Q := zW_step (I := .aload_n 0) rfl S Q
theorem eX10_known_79 {d : Nat} {S : zS} {Q : zR → Prop} : zW d MX10_known 79 S Q = zGo d MX10_known (.getfield 50) (zf 3 10 6) 82 S Q := zW_step (I := .getfield 50) rfl S Q
theorem eX10_known_82 {d : Nat} {S : zS} {Q : zR → Prop} : zW d MX10_known 82 S Q = zGo d MX10_known (.iload 4) z0 84 S Q := zW_step (I := .iload 4) rfl S Q
theorem eX10_known_84 {d : Nat} {S : zS} {Q : zR → Prop} : zW d MX10_known 84 S Q = zGo d MX10_known (.iload 5) z0 86 S Q := zW_step (I := .iload 5) rfl S Q
theorem eX10_known_86 {d : Nat} {S : zS} {Q : zR → Prop} : zW d MX10_known 86 S Q = zGo d MX10_known (.invokevirtual 231) (zc 60 3 4) 89 S Q := zW_step (I := .invokevirtual 231) rfl S Q
theorem eX10_known_89 {d : Nat} {S : zS} {Q : zR → Prop} : zW d MX10_known 89 S Q = zGo d MX10_known (.lstore 6) z0 91 S Q := zW_step (I := .lstore 6) rfl S Q
theorem eX10_known_91 {d : Nat} {S : zS} {Q : zR → Prop} : zW d MX10_known 91 S Q = zGo d MX10_known (.lload 6) z0 93 S Q := zW_step (I := .lload 6) rfl S Q
theorem eX10_known_93 {d : Nat} {S : zS} {Q : zR → Prop} : zW d MX10_known 93 S Q = zGo d MX10_known (.lconst 0) (zv (.long 0)) 94 S Q := zW_step (I := .lconst 0) rfl S Q
theorem eX10_known_94 {d : Nat} {S : zS} {Q : zR → Prop} : zW d MX10_known 94 S Q = zGo d MX10_known (.lcmp) z0 95 S Q := zW_step (I := .lcmp) rfl S Q
theorem eX10_known_95 {d : Nat} {S : zS} {Q : zR → Prop} : zW d MX10_known 95 S Q = zGo d MX10_known (.ifCond .eq 10) (zt 105) 98 S Q := zW_step (I := .ifCond .eq 10) rfl S Q
theorem eX10_known_98 {d : Nat} {S : zS} {Q : zR → Prop} : zW d MX10_known 98 S Q = zGo d MX10_known (.lload 6) z0 100 S Q := zW_step (I := .lload 6) rfl S Q
theorem eX10_known_100 {d : Nat} {S : zS} {Q : zR → Prop} : zW d MX10_known 100 S Q = zGo d MX10_known (.lload 1) z0 101 S Q := zW_step (I := .lload_n 1) rfl S Q
theorem eX10_known_101 {d : Nat} {S : zS} {Q : zR → Prop} : zW d MX10_known 101 S Q = zGo d MX10_known (.lcmp) z0 102 S Q := zW_step (I := .lcmp) rfl S Q
theorem eX10_known_102 {d : Nat} {S : zS} {Q : zR → Prop} : zW d MX10_known 102 S Q = zGo d MX10_known (.ifCond .ne 49) (zt 151) 105 S Q := zW_step (I := .ifCond .ne 49) rfl S Q
theorem eX10_known_105 {d : Nat} {S : zS} {Q : zR → Prop} : zW d MX10_known 105 S Q = zGo d MX10_known (.iload 3) z0 106 S Q := zW_step (I := .iload_n 3) rfl S Q
theorem eX10_known_106 {d : Nat} {S : zS} {Q : zR → Prop} : zW d MX10_known 106 S Q = zGo d MX10_known (.ifCond .ne 42) (zt 148) 109 S Q := zW_step (I := .ifCond .ne 42) rfl S Q
theorem eX10_known_109 {d : Nat} {S : zS} {Q : zR → Prop} : zW d MX10_known 109 S Q = zGo d MX10_known (.aload 0) z0 110 S Q := zW_step (I := .aload_n 0) rfl S Q
theorem eX10_known_110 {d : Nat} {S : zS} {Q : zR → Prop} : zW d MX10_known 110 S Q = zGo d MX10_known (.getfield 36) (zf 3 10 4) 113 S Q := zW_step (I := .getfield 36) rfl S Q
theorem eX10_known_113 {d : Nat} {S : zS} {Q : zR → Prop} : zW d MX10_known 113 S Q = zGo d MX10_known (.iload 4) z0 115 S Q := zW_step (I := .iload 4) rfl S Q
theorem eX10_known_115 {d : Nat} {S : zS} {Q : zR → Prop} : zW d MX10_known 115 S Q = zGo d MX10_known (.i2l) z0 116 S Q := zW_step (I := .i2l) rfl S Q
theorem eX10_known_116 {d : Nat} {S : zS} {Q : zR → Prop} : zW d MX10_known 116 S Q = zGo d MX10_known (.invokevirtual 206) (zc 79 2 6) 119 S Q := zW_step (I := .invokevirtual 206) rfl S Q
theorem eX10_known_119 {d : Nat} {S : zS} {Q : zR → Prop} : zW d MX10_known 119 S Q = zGo d MX10_known (.aload 0) z0 120 S Q := zW_step (I := .aload_n 0) rfl S Q
theorem eX10_known_120 {d : Nat} {S : zS} {Q : zR → Prop} : zW d MX10_known 120 S Q = zGo d MX10_known (.getfield 36) (zf 3 10 4) 123 S Q := zW_step (I := .getfield 36) rfl S Q
theorem eX10_known_123 {d : Nat} {S : zS} {Q : zR → Prop} : zW d MX10_known 123 S Q = zGo d MX10_known (.iload 5) z0 125 S Q := zW_step (I := .iload 5) rfl S Q
theorem eX10_known_125 {d : Nat} {S : zS} {Q : zR → Prop} : zW d MX10_known 125 S Q = zGo d MX10_known (.i2l) z0 126 S Q := zW_step (I := .i2l) rfl S Q
theorem eX10_known_126 {d : Nat} {S : zS} {Q : zR → Prop} : zW d MX10_known 126 S Q = zGo d MX10_known (.invokevirtual 206) (zc 79 2 6) 129 S Q := zW_step (I := .invokevirtual 206) rfl S Q
theorem eX10_known_129 {d : Nat} {S : zS} {Q : zR → Prop} : zW d MX10_known 129 S Q = zGo d MX10_known (.aload 0) z0 130 S Q := zW_step (I := .aload_n 0) rfl S Q
theorem eX10_known_130 {d : Nat} {S : zS} {Q : zR → Prop} : zW d MX10_known 130 S Q = zGo d MX10_known (.getfield 36) (zf 3 10 4) 133 S Q := zW_step (I := .getfield 36) rfl S Q
theorem eX10_known_133 {d : Nat} {S : zS} {Q : zR → Prop} : zW d MX10_known 133 S Q = zGo d MX10_known (.lload 6) z0 135 S Q := zW_step (I := .lload 6) rfl S Q
theorem eX10_known_135 {d : Nat} {S : zS} {Q : zR → Prop} : zW d MX10_known 135 S Q = zGo d MX10_known (.lconst 0) (zv (.long 0)) 136 S Q := zW_step (I := .lconst 0) rfl S Q
theorem eX10_known_136 {d : Nat} {S : zS} {Q : zR → Prop} : zW d MX10_known 136 S Q = zGo d MX10_known (.lcmp) z0 137 S Q := zW_step (I := .lcmp) rfl S Q
theorem eX10_known_137 {d : Nat} {S : zS} {Q : zR → Prop} : zW d MX10_known 137 S Q = zGo d MX10_known (.ifCond .ne 7) (zt 144) 140 S Q := zW_step (I := .ifCond .ne 7) rfl S Q
theorem eX10_known_140 {d : Nat} {S : zS} {Q : zR → Prop} : zW d MX10_known 140 S Q = zGo d MX10_known (.lconst 0) (zv (.long 0)) 141 S Q := zW_step (I := .lconst 0) rfl S Q
theorem eX10_known_141 {d : Nat} {S : zS} {Q : zR → Prop} : zW d MX10_known 141 S Q = zGo d MX10_known (.goto 4) (zt 145) 144 S Q := zW_step (I := .goto 4) rfl S Q
theorem eX10_known_144 {d : Nat} {S : zS} {Q : zR → Prop} : zW d MX10_known 144 S Q = zGo d MX10_known (.lconst 1) (zv (.long 1)) 145 S Q := zW_step (I := .lconst 1) rfl S Q
theorem eX10_known_145 {d : Nat} {S : zS} {Q : zR → Prop} : zW d MX10_known 145 S Q = zGo d MX10_known (.invokevirtual 206) (zc 79 2 6) 148 S Q := zW_step (I := .invokevirtual 206) rfl S Q
theorem eX10_known_148 {d : Nat} {S : zS} {Q : zR → Prop} : zW d MX10_known 148 S Q = zGo d MX10_known (.iinc 3 1) (zv (.int 1)) 151 S Q := zW_step (I := .iinc 3 1) rfl S Q
theorem eX10_known_151 {d : Nat} {S : zS} {Q : zR → Prop} : zW d MX10_known 151 S Q = zGo d MX10_known (.iinc 5 1) (zv (.int 1)) 154 S Q := zW_step (I := .iinc 5 1) rfl S Q
theorem eX10_known_154 {d : Nat} {S : zS} {Q : zR → Prop} : zW d MX10_known 154 S Q = zGo d MX10_known (.goto (-103)) (zt 51) 157 S Q := zW_step (I := .goto (-103)) rfl S Q
theorem eX10_known_157 {d : Nat} {S : zS} {Q : zR → Prop} : zW d MX10_known 157 S Q = zGo d MX10_known (.iinc 4 1) (zv (.int 1)) 160 S Q := zW_step (I := .iinc 4 1) rfl S Q
theorem eX10_known_160 {d : Nat} {S : zS} {Q : zR → Prop} : zW d MX10_known 160 S Q = zGo d MX10_known (.goto (-127)) (zt 33) 163 S Q := zW_step (I := .goto (-127)) rfl S Q
theorem eX10_known_163 {d : Nat} {S : zS} {Q : zR → Prop} : zW d MX10_known 163 S Q = zGo d MX10_known (.iload 3) z0 164 S Q := zW_step (I := .iload_n 3) rfl S Q
theorem eX10_known_164 {d : Nat} {S : zS} {Q : zR → Prop} : zW d MX10_known 164 S Q = zGo d MX10_known (.ireturn) z0 165 S Q := zW_step (I := .ireturn) rfl S Q
theorem rX10_known : MX10_known.2.2.2.2.1 = some .int := rfl
theorem eX10_asks_0 {d : Nat} {S : zS} {Q : zR → Prop} : zW d MX10_asks 0 S Q = zGo d MX10_asks (.aload 0) z0 1 S Q := zW_step (I := .aload_n 0) rfl S Q
theorem eX10_asks_1 {d : Nat} {S : zS} {Q : zR → Prop} : zW d MX10_asks 1 S Q = zGo d MX10_asks (.getfield 50) (zf 3 10 6) 4 S Q := zW_step (I := .getfield 50) rfl S Q
theorem eX10_asks_4 {d : Nat} {S : zS} {Q : zR → Prop} : zW d MX10_asks 4 S Q = zGo d MX10_asks (.aload 0) z0 5 S Q := zW_step (I := .aload_n 0) rfl S Q
theorem eX10_asks_5 {d : Nat} {S : zS} {Q : zR → Prop} : zW d MX10_asks 5 S Q = zGo d MX10_asks (.getfield 19) (zf 3 10 1) 8 S Q := zW_step (I := .getfield 19) rfl S Q
theorem eX10_asks_8 {d : Nat} {S : zS} {Q : zR → Prop} : zW d MX10_asks 8 S Q = zGo d MX10_asks (.invokevirtual 215) (zc 51 2 4) 11 S Q := zW_step (I := .invokevirtual 215) rfl S Q
theorem eX10_asks_11 {d : Nat} {S : zS} {Q : zR → Prop} : zW d MX10_asks 11 S Q = zGo d MX10_asks (.lstore 1) z0 12 S Q := zW_step (I := .lstore_n 1) rfl S Q
theorem eX10_asks_12 {d : Nat} {S : zS} {Q : zR → Prop} : zW d MX10_asks 12 S Q = zGo d MX10_asks (.lload 1) z0 13 S Q := zW_step (I := .lload_n 1) rfl S Q
theorem eX10_asks_13 {d : Nat} {S : zS} {Q : zR → Prop} : zW d MX10_asks 13 S Q = zGo d MX10_asks (.lconst 0) (zv (.long 0)) 14 S Q := zW_step (I := .lconst 0) rfl S Q
theorem eX10_asks_14 {d : Nat} {S : zS} {Q : zR → Prop} : zW d MX10_asks 14 S Q = zGo d MX10_asks (.lcmp) z0 15 S Q := zW_step (I := .lcmp) rfl S Q
theorem eX10_asks_15 {d : Nat} {S : zS} {Q : zR → Prop} : zW d MX10_asks 15 S Q = zGo d MX10_asks (.ifCond .eq 14) (zt 29) 18 S Q := zW_step (I := .ifCond .eq 14) rfl S Q
theorem eX10_asks_18 {d : Nat} {S : zS} {Q : zR → Prop} : zW d MX10_asks 18 S Q = zGo d MX10_asks (.aload 0) z0 19 S Q := zW_step (I := .aload_n 0) rfl S Q
theorem eX10_asks_19 {d : Nat} {S : zS} {Q : zR → Prop} : zW d MX10_asks 19 S Q = zGo d MX10_asks (.getfield 19) (zf 3 10 1) 22 S Q := zW_step (I := .getfield 19) rfl S Q
theorem eX10_asks_22 {d : Nat} {S : zS} {Q : zR → Prop} : zW d MX10_asks 22 S Q = zGo d MX10_asks (.iconst 2) (zv (.int 2)) 23 S Q := zW_step (I := .iconst 2) rfl S Q
theorem eX10_asks_23 {d : Nat} {S : zS} {Q : zR → Prop} : zW d MX10_asks 23 S Q = zGo d MX10_asks (.invokevirtual 209) (zc 122 2 9) 26 S Q := zW_step (I := .invokevirtual 209) rfl S Q
theorem eX10_asks_26 {d : Nat} {S : zS} {Q : zR → Prop} : zW d MX10_asks 26 S Q = zGo d MX10_asks (.ifCond .ne 7) (zt 33) 29 S Q := zW_step (I := .ifCond .ne 7) rfl S Q
theorem eX10_asks_29 {d : Nat} {S : zS} {Q : zR → Prop} : zW d MX10_asks 29 S Q = zGo d MX10_asks (.ldc2_w 301) (zv (.long (-2))) 32 S Q := zW_step (I := .ldc2_w 301) rfl S Q
theorem eX10_asks_32 {d : Nat} {S : zS} {Q : zR → Prop} : zW d MX10_asks 32 S Q = zGo d MX10_asks (.lreturn) z0 33 S Q := zW_step (I := .lreturn) rfl S Q
theorem eX10_asks_33 {d : Nat} {S : zS} {Q : zR → Prop} : zW d MX10_asks 33 S Q = zGo d MX10_asks (.lload 1) z0 34 S Q := zW_step (I := .lload_n 1) rfl S Q
theorem eX10_asks_34 {d : Nat} {S : zS} {Q : zR → Prop} : zW d MX10_asks 34 S Q = zGo d MX10_asks (.lconst 1) (zv (.long 1)) 35 S Q := zW_step (I := .lconst 1) rfl S Q
theorem eX10_asks_35 {d : Nat} {S : zS} {Q : zR → Prop} : zW d MX10_asks 35 S Q = zGo d MX10_asks (.ladd) z0 36 S Q := zW_step (I := .ladd) rfl S Q
theorem eX10_asks_36 {d : Nat} {S : zS} {Q : zR → Prop} : zW d MX10_asks 36 S Q = zGo d MX10_asks (.lstore 3) z0 37 S Q := zW_step (I := .lstore_n 3) rfl S Q
theorem eX10_asks_37 {d : Nat} {S : zS} {Q : zR → Prop} : zW d MX10_asks 37 S Q = zGo d MX10_asks (.iconst 0) (zv (.int 0)) 38 S Q := zW_step (I := .iconst 0) rfl S Q
theorem eX10_asks_38 {d : Nat} {S : zS} {Q : zR → Prop} : zW d MX10_asks 38 S Q = zGo d MX10_asks (.istore 5) z0 40 S Q := zW_step (I := .istore 5) rfl S Q
theorem eX10_asks_40 {d : Nat} {S : zS} {Q : zR → Prop} : zW d MX10_asks 40 S Q = zGo d MX10_asks (.iload 5) z0 42 S Q := zW_step (I := .iload 5) rfl S Q
theorem eX10_asks_42 {d : Nat} {S : zS} {Q : zR → Prop} : zW d MX10_asks 42 S Q = zGo d MX10_asks (.aload 0) z0 43 S Q := zW_step (I := .aload_n 0) rfl S Q
theorem eX10_asks_43 {d : Nat} {S : zS} {Q : zR → Prop} : zW d MX10_asks 43 S Q = zGo d MX10_asks (.getfield 19) (zf 3 10 1) 46 S Q := zW_step (I := .getfield 19) rfl S Q
theorem eX10_asks_46 {d : Nat} {S : zS} {Q : zR → Prop} : zW d MX10_asks 46 S Q = zGo d MX10_asks (.getfield 93) (zf 0 9 3) 49 S Q := zW_step (I := .getfield 93) rfl S Q
theorem eX10_asks_49 {d : Nat} {S : zS} {Q : zR → Prop} : zW d MX10_asks 49 S Q = zGo d MX10_asks (.if_icmp .ge 118) (zt 167) 52 S Q := zW_step (I := .if_icmp .ge 118) rfl S Q
theorem eX10_asks_52 {d : Nat} {S : zS} {Q : zR → Prop} : zW d MX10_asks 52 S Q = zGo d MX10_asks (.iload 5) z0 54 S Q := zW_step (I := .iload 5) rfl S Q
theorem eX10_asks_54 {d : Nat} {S : zS} {Q : zR → Prop} : zW d MX10_asks 54 S Q = zGo d MX10_asks (.iconst 1) (zv (.int 1)) 55 S Q := zW_step (I := .iconst 1) rfl S Q
theorem eX10_asks_55 {d : Nat} {S : zS} {Q : zR → Prop} : zW d MX10_asks 55 S Q = zGo d MX10_asks (.iadd) z0 56 S Q := zW_step (I := .iadd) rfl S Q
theorem eX10_asks_56 {d : Nat} {S : zS} {Q : zR → Prop} : zW d MX10_asks 56 S Q = zGo d MX10_asks (.istore 6) z0 58 S Q := zW_step (I := .istore 6) rfl S Q
theorem eX10_asks_58 {d : Nat} {S : zS} {Q : zR → Prop} : zW d MX10_asks 58 S Q = zGo d MX10_asks (.iload 6) z0 60 S Q := zW_step (I := .iload 6) rfl S Q
theorem eX10_asks_60 {d : Nat} {S : zS} {Q : zR → Prop} : zW d MX10_asks 60 S Q = zGo d MX10_asks (.aload 0) z0 61 S Q := zW_step (I := .aload_n 0) rfl S Q
theorem eX10_asks_61 {d : Nat} {S : zS} {Q : zR → Prop} : zW d MX10_asks 61 S Q = zGo d MX10_asks (.getfield 19) (zf 3 10 1) 64 S Q := zW_step (I := .getfield 19) rfl S Q
theorem eX10_asks_64 {d : Nat} {S : zS} {Q : zR → Prop} : zW d MX10_asks 64 S Q = zGo d MX10_asks (.getfield 93) (zf 0 9 3) 67 S Q := zW_step (I := .getfield 93) rfl S Q
theorem eX10_asks_67 {d : Nat} {S : zS} {Q : zR → Prop} : zW d MX10_asks 67 S Q = zGo d MX10_asks (.if_icmp .ge 94) (zt 161) 70 S Q := zW_step (I := .if_icmp .ge 94) rfl S Q
theorem eX10_asks_70 {d : Nat} {S : zS} {Q : zR → Prop} : zW d MX10_asks 70 S Q = zGo d MX10_asks (.aload 0) z0 71 S Q := zW_step (I := .aload_n 0) rfl S Q
theorem eX10_asks_71 {d : Nat} {S : zS} {Q : zR → Prop} : zW d MX10_asks 71 S Q = zGo d MX10_asks (.getfield 19) (zf 3 10 1) 74 S Q := zW_step (I := .getfield 19) rfl S Q
theorem eX10_asks_74 {d : Nat} {S : zS} {Q : zR → Prop} : zW d MX10_asks 74 S Q = zGo d MX10_asks (.iload 5) z0 76 S Q := zW_step (I := .iload 5) rfl S Q
theorem eX10_asks_76 {d : Nat} {S : zS} {Q : zR → Prop} : zW d MX10_asks 76 S Q = zGo d MX10_asks (.iload 6) z0 78 S Q := zW_step (I := .iload 6) rfl S Q
theorem eX10_asks_78 {d : Nat} {S : zS} {Q : zR → Prop} : zW d MX10_asks 78 S Q = zGo d MX10_asks (.invokevirtual 166) (zc 112 3 9) 81 S Q := zW_step (I := .invokevirtual 166) rfl S Q
theorem eX10_asks_81 {d : Nat} {S : zS} {Q : zR → Prop} : zW d MX10_asks 81 S Q = zGo d MX10_asks (.iconst 2) (zv (.int 2)) 82 S Q := zW_step (I := .iconst 2) rfl S Q
theorem eX10_asks_82 {d : Nat} {S : zS} {Q : zR → Prop} : zW d MX10_asks 82 S Q = zGo d MX10_asks (.if_icmp .ne 73) (zt 155) 85 S Q := zW_step (I := .if_icmp .ne 73) rfl S Q
theorem eX10_asks_85 {d : Nat} {S : zS} {Q : zR → Prop} : zW d MX10_asks 85 S Q = zGo d MX10_asks (.aload 0) z0 86 S Q := zW_step (I := .aload_n 0) rfl S Q
theorem eX10_asks_86 {d : Nat} {S : zS} {Q : zR → Prop} : zW d MX10_asks 86 S Q = zGo d MX10_asks (.getfield 50) (zf 3 10 6) 89 S Q := zW_step (I := .getfield 50) rfl S Q
theorem eX10_asks_89 {d : Nat} {S : zS} {Q : zR → Prop} : zW d MX10_asks 89 S Q = zGo d MX10_asks (.iload 5) z0 91 S Q := zW_step (I := .iload 5) rfl S Q
theorem eX10_asks_91 {d : Nat} {S : zS} {Q : zR → Prop} : zW d MX10_asks 91 S Q = zGo d MX10_asks (.iload 6) z0 93 S Q := zW_step (I := .iload 6) rfl S Q
theorem eX10_asks_93 {d : Nat} {S : zS} {Q : zR → Prop} : zW d MX10_asks 93 S Q = zGo d MX10_asks (.invokevirtual 231) (zc 60 3 4) 96 S Q := zW_step (I := .invokevirtual 231) rfl S Q
theorem eX10_asks_96 {d : Nat} {S : zS} {Q : zR → Prop} : zW d MX10_asks 96 S Q = zGo d MX10_asks (.lstore 7) z0 98 S Q := zW_step (I := .lstore 7) rfl S Q
theorem eX10_asks_98 {d : Nat} {S : zS} {Q : zR → Prop} : zW d MX10_asks 98 S Q = zGo d MX10_asks (.lload 7) z0 100 S Q := zW_step (I := .lload 7) rfl S Q
theorem eX10_asks_100 {d : Nat} {S : zS} {Q : zR → Prop} : zW d MX10_asks 100 S Q = zGo d MX10_asks (.lload 1) z0 101 S Q := zW_step (I := .lload_n 1) rfl S Q
theorem eX10_asks_101 {d : Nat} {S : zS} {Q : zR → Prop} : zW d MX10_asks 101 S Q = zGo d MX10_asks (.lload 7) z0 103 S Q := zW_step (I := .lload 7) rfl S Q
theorem eX10_asks_103 {d : Nat} {S : zS} {Q : zR → Prop} : zW d MX10_asks 103 S Q = zGo d MX10_asks (.lsub) z0 104 S Q := zW_step (I := .lsub) rfl S Q
theorem eX10_asks_104 {d : Nat} {S : zS} {Q : zR → Prop} : zW d MX10_asks 104 S Q = zGo d MX10_asks (.invokestatic 303) (zt 996) 107 S Q := zW_step (I := .invokestatic 303) rfl S Q
theorem eX10_asks_107 {d : Nat} {S : zS} {Q : zR → Prop} : zW d MX10_asks 107 S Q = zGo d MX10_asks (.lstore 9) z0 109 S Q := zW_step (I := .lstore 9) rfl S Q
theorem eX10_asks_109 {d : Nat} {S : zS} {Q : zR → Prop} : zW d MX10_asks 109 S Q = zGo d MX10_asks (.lload 9) z0 111 S Q := zW_step (I := .lload 9) rfl S Q
theorem eX10_asks_111 {d : Nat} {S : zS} {Q : zR → Prop} : zW d MX10_asks 111 S Q = zGo d MX10_asks (.lload 3) z0 112 S Q := zW_step (I := .lload_n 3) rfl S Q
theorem eX10_asks_112 {d : Nat} {S : zS} {Q : zR → Prop} : zW d MX10_asks 112 S Q = zGo d MX10_asks (.lcmp) z0 113 S Q := zW_step (I := .lcmp) rfl S Q
theorem eX10_asks_113 {d : Nat} {S : zS} {Q : zR → Prop} : zW d MX10_asks 113 S Q = zGo d MX10_asks (.ifCond .ge 42) (zt 155) 116 S Q := zW_step (I := .ifCond .ge 42) rfl S Q
theorem eX10_asks_116 {d : Nat} {S : zS} {Q : zR → Prop} : zW d MX10_asks 116 S Q = zGo d MX10_asks (.lload 9) z0 118 S Q := zW_step (I := .lload 9) rfl S Q
theorem eX10_asks_118 {d : Nat} {S : zS} {Q : zR → Prop} : zW d MX10_asks 118 S Q = zGo d MX10_asks (.lstore 3) z0 119 S Q := zW_step (I := .lstore_n 3) rfl S Q
theorem eX10_asks_119 {d : Nat} {S : zS} {Q : zR → Prop} : zW d MX10_asks 119 S Q = zGo d MX10_asks (.aload 0) z0 120 S Q := zW_step (I := .aload_n 0) rfl S Q
theorem eX10_asks_120 {d : Nat} {S : zS} {Q : zR → Prop} : zW d MX10_asks 120 S Q = zGo d MX10_asks (.getfield 36) (zf 3 10 4) 123 S Q := zW_step (I := .getfield 36) rfl S Q
theorem eX10_asks_123 {d : Nat} {S : zS} {Q : zR → Prop} : zW d MX10_asks 123 S Q = zGo d MX10_asks (.invokevirtual 205) (zc 78 1 6) 126 S Q := zW_step (I := .invokevirtual 205) rfl S Q
theorem eX10_asks_126 {d : Nat} {S : zS} {Q : zR → Prop} : zW d MX10_asks 126 S Q = zGo d MX10_asks (.aload 0) z0 127 S Q := zW_step (I := .aload_n 0) rfl S Q
theorem eX10_asks_127 {d : Nat} {S : zS} {Q : zR → Prop} : zW d MX10_asks 127 S Q = zGo d MX10_asks (.getfield 36) (zf 3 10 4) 130 S Q := zW_step (I := .getfield 36) rfl S Q
theorem eX10_asks_130 {d : Nat} {S : zS} {Q : zR → Prop} : zW d MX10_asks 130 S Q = zGo d MX10_asks (.iload 5) z0 132 S Q := zW_step (I := .iload 5) rfl S Q
theorem eX10_asks_132 {d : Nat} {S : zS} {Q : zR → Prop} : zW d MX10_asks 132 S Q = zGo d MX10_asks (.i2l) z0 133 S Q := zW_step (I := .i2l) rfl S Q
theorem eX10_asks_133 {d : Nat} {S : zS} {Q : zR → Prop} : zW d MX10_asks 133 S Q = zGo d MX10_asks (.invokevirtual 206) (zc 79 2 6) 136 S Q := zW_step (I := .invokevirtual 206) rfl S Q
theorem eX10_asks_136 {d : Nat} {S : zS} {Q : zR → Prop} : zW d MX10_asks 136 S Q = zGo d MX10_asks (.aload 0) z0 137 S Q := zW_step (I := .aload_n 0) rfl S Q
theorem eX10_asks_137 {d : Nat} {S : zS} {Q : zR → Prop} : zW d MX10_asks 137 S Q = zGo d MX10_asks (.getfield 36) (zf 3 10 4) 140 S Q := zW_step (I := .getfield 36) rfl S Q
theorem eX10_asks_140 {d : Nat} {S : zS} {Q : zR → Prop} : zW d MX10_asks 140 S Q = zGo d MX10_asks (.iload 6) z0 142 S Q := zW_step (I := .iload 6) rfl S Q
theorem eX10_asks_142 {d : Nat} {S : zS} {Q : zR → Prop} : zW d MX10_asks 142 S Q = zGo d MX10_asks (.i2l) z0 143 S Q := zW_step (I := .i2l) rfl S Q
theorem eX10_asks_143 {d : Nat} {S : zS} {Q : zR → Prop} : zW d MX10_asks 143 S Q = zGo d MX10_asks (.invokevirtual 206) (zc 79 2 6) 146 S Q := zW_step (I := .invokevirtual 206) rfl S Q
theorem eX10_asks_146 {d : Nat} {S : zS} {Q : zR → Prop} : zW d MX10_asks 146 S Q = zGo d MX10_asks (.aload 0) z0 147 S Q := zW_step (I := .aload_n 0) rfl S Q
theorem eX10_asks_147 {d : Nat} {S : zS} {Q : zR → Prop} : zW d MX10_asks 147 S Q = zGo d MX10_asks (.getfield 36) (zf 3 10 4) 150 S Q := zW_step (I := .getfield 36) rfl S Q
theorem eX10_asks_150 {d : Nat} {S : zS} {Q : zR → Prop} : zW d MX10_asks 150 S Q = zGo d MX10_asks (.lload 7) z0 152 S Q := zW_step (I := .lload 7) rfl S Q
theorem eX10_asks_152 {d : Nat} {S : zS} {Q : zR → Prop} : zW d MX10_asks 152 S Q = zGo d MX10_asks (.invokevirtual 206) (zc 79 2 6) 155 S Q := zW_step (I := .invokevirtual 206) rfl S Q
theorem eX10_asks_155 {d : Nat} {S : zS} {Q : zR → Prop} : zW d MX10_asks 155 S Q = zGo d MX10_asks (.iinc 6 1) (zv (.int 1)) 158 S Q := zW_step (I := .iinc 6 1) rfl S Q
theorem eX10_asks_158 {d : Nat} {S : zS} {Q : zR → Prop} : zW d MX10_asks 158 S Q = zGo d MX10_asks (.goto (-100)) (zt 58) 161 S Q := zW_step (I := .goto (-100)) rfl S Q
theorem eX10_asks_161 {d : Nat} {S : zS} {Q : zR → Prop} : zW d MX10_asks 161 S Q = zGo d MX10_asks (.iinc 5 1) (zv (.int 1)) 164 S Q := zW_step (I := .iinc 5 1) rfl S Q
theorem eX10_asks_164 {d : Nat} {S : zS} {Q : zR → Prop} : zW d MX10_asks 164 S Q = zGo d MX10_asks (.goto (-124)) (zt 40) 167 S Q := zW_step (I := .goto (-124)) rfl S Q
theorem eX10_asks_167 {d : Nat} {S : zS} {Q : zR → Prop} : zW d MX10_asks 167 S Q = zGo d MX10_asks (.lload 3) z0 168 S Q := zW_step (I := .lload_n 3) rfl S Q
theorem eX10_asks_168 {d : Nat} {S : zS} {Q : zR → Prop} : zW d MX10_asks 168 S Q = zGo d MX10_asks (.lreturn) z0 169 S Q := zW_step (I := .lreturn) rfl S Q
theorem rX10_asks : MX10_asks.2.2.2.2.1 = some .long := rfl
section PUB6
variable {h h0 : Nat → zE} {te : cText} {tO dr : cTold} {pa : cPast} {ro : cRow} {fi : cFits} {od od0 : cOrd} {cs : cCst} {ci : cCir} {ga : cGam} {r1 r2 : cRule} {sw : Bool} {d : Nat} {u u0 : zU} {Q : zR → Prop} {n k len m la : Nat} {rm mt nt : Nat → Nat} {fm : Bool} {vr : Int32} {A : Nat → Nat → Nat} {B : Nat → Nat → Int64} {C : Nat → Nat → Nat} {op : Nat → Int32} {sn : Int32} {tl : Bool} {rk : Nat} {rf : Nat → Int64}
theorem cw_again (hT : oldT (n, rm, mt, nt, fm, vr)) (hN : nmOK (k, len, m, A, B, C, op, sn, tl, n, la) cs) (hv : sn = vr) (hl : 0 < len) (hl2 : len < 10000) {ro : cRow} : zK (d + 1) 51 [.ref 22, .ref 4] ((wld h te (n, rm, mt, nt, fm, vr) dr pa ro fi (k, len, m, A, B, C, op, sn, tl, n, la) cs ci ga r1 r2 sw), u) Q = Q (some (.long (B 1 0)), ((wld h te (n, rm, mt, nt, fm, vr) dr pa ro fi (k, len, m, A, B, C, op, sn, tl, n, la) cs ci ga r1 r2 sw), u)) := by
  have := c_total_same (d := d) (u := u) (Q := Q) (A := A) (B := B) (C := C) (op := op) (tl := tl) (n := n) (la := la) (m := m) (nm_ok hN) (W_told (h := h) (te := te) (dr := dr) (pa := pa) (ro := ro) (fi := fi) (od := (k, len, m, A, B, C, op, sn, tl, n, la)) (cs := cs) (ci := ci) (ga := ga) (r1 := r1) (r2 := r2) (sw := sw) hT) (ap_told hN.2.2.1) hv hl hl2
  rw [← W_ord hN] at this
  exact this
/-! a share of all ORDERS, told as a fraction -/
theorem p_share (hT : oldT (n, rm, mt, nt, fm, vr)) (hN : nmOK (k, len, m, A, B, C, op, sn, tl, n, la) cs) (hG : ordG n len la m A) (hv : sn = vr) (hk : rk ≤ 14) {x y : Nat} (hx : x < 2147483648) (hy : y < 2147483648) (hy0 : 0 < y) (hB : B 1 0 = lN y) : zK (d + 3) 178 [.ref 1, .long (lN x)] ((wld h te (n, rm, mt, nt, fm, vr) dr pa (rk, rf) fi (k, len, m, A, B, C, op, sn, tl, n, la) cs ci ga r1 r2 sw), u) Q = Q (some (.int 0), ((wld h te (n, rm, mt, nt, fm, vr) dr pa (2, vp_updL (vp_updL rf 0 (lN (x / Nat.gcd x y))) 1 (lN (y / Nat.gcd x y))) fi (k, len, m, A, B, C, op, sn, tl, n, la) cs ci ga r1 r2 sw), u)) := by
  have ag := fun ro Q => cw_again (d := 1) (u := u) (Q := Q) (h := h) (te := te) (dr := dr) (pa := pa) (fi := fi) (ci := ci) (ga := ga) (r1 := r1) (r2 := r2) (sw := sw) (ro := ro) hT hN hv (by have := hG.2.2.1; omega) hG.2.1
  have o22 := fun ro => Wo_22 (h := h) (te := te) (tO := (n, rm, mt, nt, fm, vr)) (dr := dr) (pa := pa) (ro := ro) (fi := fi) (ci := ci) (ga := ga) (r1 := r1) (r2 := r2) (sw := sw) hN
  refine zK_of (k := 3) (by omega) ?_
  refine zK_in (M := MX10_share) rfl (Nat.le_of_ble_eq_true rfl) ?_
  show zW 2 MX10_share 0 ([.ref 1, .long (lN x), .null], [], ((wld h te (n, rm, mt, nt, fm, vr) dr pa (rk, rf) fi (k, len, m, A, B, C, op, sn, tl, n, la) cs ci ga r1 r2 sw), u)) _
  simp (disch := first | assumption | omega | decide) only [eX10_share_0, eX10_share_1, eX10_share_4, eX10_share_7, eX10_share_8, eX10_share_11, eX10_share_12, eX10_share_13, eX10_share_16, eX10_share_17, eX10_share_20, eX10_share_23, eX10_share_26, eX10_share_27, rX10_share, zg_aload, zg_getfield, zg_iconst, zg_ireturn, zg_iv0, zg_iv1, zg_iv2, zg_lload, q10, q01, q00, ite_self, zLd_i, zLd_l, zLd_a, zInc_i, zGet_o, zGet2_s, zPut_o, zAld_i, zAll_j, zAst_i, zAsl_j, zLen_i, zLen_j, zRt_i, zRt_z, zRl2_l, zRv_n, List.getElem?_cons_zero, List.getElem?_cons_succ, List.length_cons, List.length_nil, z_set, z_set2, z_cut, List.set_cons_zero, List.set_cons_succ, Option.toList_some, Option.toList_none, List.cons_append, List.nil_append, zif, zW_ite, zfit_0, zfit_1, zfit_2, zfit_3, zisc_o, zRt_c, zRt_b, List.map_cons, List.map_nil, List.sum_cons, List.sum_nil, true_and, and_true, if_true, if_false, ite_true, ite_false, Nat.reduceLT, Nat.reduceLeDiff, Nat.reduceAdd, Nat.reduceEqDiff, eq_self, not_true_eq_false, not_false_eq_true, Nat.lt_irrefl, or_true, true_or, or_false, false_or, z_cell_lt, Value.category, ltT, ltF, leT, leF, natT, natF, iltT, iltF, ieqT, ieqF, vpT, cl_nI, q_bit, pow_cell, z_pw_eq, nI_add, nI_mul, nI_m1, nI_dn, nI_dn0, m1_lt, lg_pos, i32_irr, q_shT, ite01, ite00, updL_z, q_upd, Bool.false_eq_true, nI_l2i, jlT_0, jlF_0, jgT_0, jgF_0, jeT_0, jeF_0, jv_0, jc_0, jm_0, jM_0, ja_0, jA_0, jlT_1, jlF_1, jgT_1, jgF_1, jeT_1, jeF_1, jv_1, jc_1, jm_1, jM_1, ja_1, jA_1, W_1, W_16, cw_clear hk, o22, ag, hB, cw_addF, Nat.zero_add]
theorem p_orders (tot : ∀ (d : Nat) (Q : zR → Prop), zK (d + 3) 51 [.ref 22, .ref 4] ((wld h0 te (n, rm, mt, nt, fm, vr) dr pa (rk, rf) fi od0 cs ci ga r1 r2 sw), u0) Q = Q (some (.long (B 1 0)), ((wld h te (n, rm, mt, nt, fm, vr) dr pa (rk, rf) fi (k, len, m, A, B, C, op, sn, tl, n, la) cs ci ga r1 r2 sw), u))) (hN0 : nmOK od0 cs) : zK (d + 4) 145 [.ref 1] ((wld h0 te (n, rm, mt, nt, fm, vr) dr pa (rk, rf) fi od0 cs ci ga r1 r2 sw), u0) Q = Q (some (.long (B 1 0)), ((wld h te (n, rm, mt, nt, fm, vr) dr pa (rk, rf) fi (k, len, m, A, B, C, op, sn, tl, n, la) cs ci ga r1 r2 sw), u)) := by
  refine zK_of (k := 4) (by omega) ?_
  refine zK_in (M := MX10_orders) rfl (Nat.le_of_ble_eq_true rfl) ?_
  show zW 3 MX10_orders 0 ([.ref 1], [], ((wld h0 te (n, rm, mt, nt, fm, vr) dr pa (rk, rf) fi od0 cs ci ga r1 r2 sw), u0)) _
  simp (disch := first | assumption | omega | decide) only [eX10_orders_0, eX10_orders_1, eX10_orders_4, eX10_orders_5, eX10_orders_8, eX10_orders_11, rX10_orders, zg_aload, zg_getfield, zg_iv1, zg_lreturn, q10, q01, q00, ite_self, zLd_i, zLd_l, zLd_a, zInc_i, zGet_o, zGet2_s, zPut_o, zAld_i, zAll_j, zAst_i, zAsl_j, zLen_i, zLen_j, zRt_i, zRt_z, zRl2_l, zRv_n, List.getElem?_cons_zero, List.getElem?_cons_succ, List.length_cons, List.length_nil, z_set, z_set2, z_cut, List.set_cons_zero, List.set_cons_succ, Option.toList_some, Option.toList_none, List.cons_append, List.nil_append, zif, zW_ite, zfit_0, zfit_1, zfit_2, zfit_3, zisc_o, zRt_c, zRt_b, List.map_cons, List.map_nil, List.sum_cons, List.sum_nil, true_and, and_true, if_true, if_false, ite_true, ite_false, Nat.reduceLT, Nat.reduceLeDiff, Nat.reduceAdd, Nat.reduceEqDiff, eq_self, not_true_eq_false, not_false_eq_true, Nat.lt_irrefl, or_true, true_or, or_false, false_or, z_cell_lt, Value.category, ltT, ltF, leT, leF, natT, natF, iltT, iltF, ieqT, ieqF, vpT, cl_nI, q_bit, pow_cell, z_pw_eq, nI_add, nI_mul, nI_m1, nI_dn, nI_dn0, m1_lt, lg_pos, i32_irr, q_shT, ite01, ite00, updL_z, q_upd, Bool.false_eq_true, nI_l2i, jlT_0, jlF_0, jgT_0, jgF_0, jeT_0, jeF_0, jv_0, jc_0, jm_0, jM_0, ja_0, jA_0, jlT_1, jlF_1, jgT_1, jgF_1, jeT_1, jeF_1, jv_1, jc_1, jm_1, jM_1, ja_1, jA_1, W_1, Wo_22 hN0, tot]
theorem p_first0 (tot : ∀ (d : Nat) (Q : zR → Prop), zK (d + 3) 51 [.ref 22, .ref 4] ((wld h0 te (n, rm, mt, nt, fm, vr) dr pa (rk, rf) fi od0 cs ci ga r1 r2 sw), u0) Q = Q (some (.long (B 1 0)), ((wld h te (n, rm, mt, nt, fm, vr) dr pa (rk, rf) fi (k, len, m, A, B, C, op, sn, tl, n, la) cs ci ga r1 r2 sw), u))) (hN0 : nmOK od0 cs) (hz : B 1 0 = 0) : zK (d + 4) 146 [.ref 1] ((wld h0 te (n, rm, mt, nt, fm, vr) dr pa (rk, rf) fi od0 cs ci ga r1 r2 sw), u0) Q = Q (some (.int (-2)), ((wld h te (n, rm, mt, nt, fm, vr) dr pa (rk, rf) fi (k, len, m, A, B, C, op, sn, tl, n, la) cs ci ga r1 r2 sw), u)) := by
  refine zK_of (k := 4) (by omega) ?_
  refine zK_in (M := MX10_first) rfl (Nat.le_of_ble_eq_true rfl) ?_
  show zW 3 MX10_first 0 ([.ref 1], [], ((wld h0 te (n, rm, mt, nt, fm, vr) dr pa (rk, rf) fi od0 cs ci ga r1 r2 sw), u0)) _
  simp (disch := first | assumption | omega | decide) only [eX10_first_0, eX10_first_1, eX10_first_4, eX10_first_5, eX10_first_8, eX10_first_11, eX10_first_12, eX10_first_13, eX10_first_16, eX10_first_18, eX10_first_19, eX10_first_20, eX10_first_23, eX10_first_26, eX10_first_27, eX10_first_30, eX10_first_31, eX10_first_34, eX10_first_37, rX10_first, zg_aload, zg_bipush, zg_getfield, zg_if, zg_ireturn, zg_iv0, zg_iv1, zg_lcmp, zg_lconst, q10, q01, q00, ite_self, zLd_i, zLd_l, zLd_a, zInc_i, zGet_o, zGet2_s, zPut_o, zAld_i, zAll_j, zAst_i, zAsl_j, zLen_i, zLen_j, zRt_i, zRt_z, zRl2_l, zRv_n, List.getElem?_cons_zero, List.getElem?_cons_succ, List.length_cons, List.length_nil, z_set, z_set2, z_cut, List.set_cons_zero, List.set_cons_succ, Option.toList_some, Option.toList_none, List.cons_append, List.nil_append, zif, zW_ite, zfit_0, zfit_1, zfit_2, zfit_3, zisc_o, zRt_c, zRt_b, List.map_cons, List.map_nil, List.sum_cons, List.sum_nil, true_and, and_true, if_true, if_false, ite_true, ite_false, Nat.reduceLT, Nat.reduceLeDiff, Nat.reduceAdd, Nat.reduceEqDiff, eq_self, not_true_eq_false, not_false_eq_true, Nat.lt_irrefl, or_true, true_or, or_false, false_or, z_cell_lt, Value.category, ltT, ltF, leT, leF, natT, natF, iltT, iltF, ieqT, ieqF, vpT, cl_nI, q_bit, pow_cell, z_pw_eq, nI_add, nI_mul, nI_m1, nI_dn, nI_dn0, m1_lt, lg_pos, i32_irr, q_shT, ite01, ite00, updL_z, q_upd, Bool.false_eq_true, nI_l2i, jlT_0, jlF_0, jgT_0, jgF_0, jeT_0, jeF_0, jv_0, jc_0, jm_0, jM_0, ja_0, jA_0, jlT_1, jlF_1, jgT_1, jgF_1, jeT_1, jeF_1, jv_1, jc_1, jm_1, jM_1, ja_1, jA_1, jlT_2, jlF_2, jgT_2, jgF_2, jeT_2, jeF_2, jv_2, jc_2, jm_2, jM_2, ja_2, jA_2, W_1, Wo_22 hN0, tot, hz, lcmp_eq0]
theorem p_first (tot : ∀ (d : Nat) (Q : zR → Prop), zK (d + 3) 51 [.ref 22, .ref 4] ((wld h0 te (n, rm, mt, nt, fm, vr) dr pa (rk, rf) fi od0 cs ci ga r1 r2 sw), u0) Q = Q (some (.long (B 1 0)), ((wld h te (n, rm, mt, nt, fm, vr) dr pa (rk, rf) fi (k, len, m, A, B, C, op, sn, tl, n, la) cs ci ga r1 r2 sw), u))) (hN0 : nmOK od0 cs) (hT : oldT (n, rm, mt, nt, fm, vr)) (hN : nmOK (k, len, m, A, B, C, op, sn, tl, n, la) cs) (hG : ordG n len la m A) (hv : sn = vr) (hk : rk ≤ 14) (hz : ¬ B 1 0 = 0) : zK (d + 4) 146 [.ref 1] ((wld h0 te (n, rm, mt, nt, fm, vr) dr pa (rk, rf) fi od0 cs ci ga r1 r2 sw), u0) Q = Q (some (.int (nI (2 * n))), ((wld h te (n, rm, mt, nt, fm, vr) dr pa ((lrS A n rf (2 * n)).2.1, (lrS A n rf (2 * n)).2.2) fi (k, len, m, A, B, C, op, sn, tl, n, la) cs ci ga r1 r2 sw), u)) := by
  have hz' := eq_false hz
  have lr := fun Q => cw_lr (d := 0) (u := u) (Q := Q) (h := h) (te := te) (tO := (n, rm, mt, nt, fm, vr)) (dr := dr) (pa := pa) (fi := fi) (ci := ci) (ga := ga) (r1 := r1) (r2 := r2) (sw := sw) (rf := rf) hN hG
  have o22 := fun ro => Wo_22 (h := h) (te := te) (tO := (n, rm, mt, nt, fm, vr)) (dr := dr) (pa := pa) (ro := ro) (fi := fi) (ci := ci) (ga := ga) (r1 := r1) (r2 := r2) (sw := sw) hN
  refine zK_of (k := 4) (by omega) ?_
  refine zK_in (M := MX10_first) rfl (Nat.le_of_ble_eq_true rfl) ?_
  show zW 3 MX10_first 0 ([.ref 1], [], ((wld h0 te (n, rm, mt, nt, fm, vr) dr pa (rk, rf) fi od0 cs ci ga r1 r2 sw), u0)) _
  simp (disch := first | assumption | omega | decide) only [eX10_first_0, eX10_first_1, eX10_first_4, eX10_first_5, eX10_first_8, eX10_first_11, eX10_first_12, eX10_first_13, eX10_first_16, eX10_first_18, eX10_first_19, eX10_first_20, eX10_first_23, eX10_first_26, eX10_first_27, eX10_first_30, eX10_first_31, eX10_first_34, eX10_first_37, rX10_first, zg_aload, zg_bipush, zg_getfield, zg_if, zg_ireturn, zg_iv0, zg_iv1, zg_lcmp, zg_lconst, q10, q01, q00, ite_self, zLd_i, zLd_l, zLd_a, zInc_i, zGet_o, zGet2_s, zPut_o, zAld_i, zAll_j, zAst_i, zAsl_j, zLen_i, zLen_j, zRt_i, zRt_z, zRl2_l, zRv_n, List.getElem?_cons_zero, List.getElem?_cons_succ, List.length_cons, List.length_nil, z_set, z_set2, z_cut, List.set_cons_zero, List.set_cons_succ, Option.toList_some, Option.toList_none, List.cons_append, List.nil_append, zif, zW_ite, zfit_0, zfit_1, zfit_2, zfit_3, zisc_o, zRt_c, zRt_b, List.map_cons, List.map_nil, List.sum_cons, List.sum_nil, true_and, and_true, if_true, if_false, ite_true, ite_false, Nat.reduceLT, Nat.reduceLeDiff, Nat.reduceAdd, Nat.reduceEqDiff, eq_self, not_true_eq_false, not_false_eq_true, Nat.lt_irrefl, or_true, true_or, or_false, false_or, z_cell_lt, Value.category, ltT, ltF, leT, leF, natT, natF, iltT, iltF, ieqT, ieqF, vpT, cl_nI, q_bit, pow_cell, z_pw_eq, nI_add, nI_mul, nI_m1, nI_dn, nI_dn0, m1_lt, lg_pos, i32_irr, q_shT, ite01, ite00, updL_z, q_upd, Bool.false_eq_true, nI_l2i, jlT_0, jlF_0, jgT_0, jgF_0, jeT_0, jeF_0, jv_0, jc_0, jm_0, jM_0, ja_0, jA_0, jlT_1, jlF_1, jgT_1, jgF_1, jeT_1, jeF_1, jv_1, jc_1, jm_1, jM_1, ja_1, jA_1, jlT_2, jlF_2, jgT_2, jgF_2, jeT_2, jeF_2, jv_2, jc_2, jm_2, jM_2, ja_2, jA_2, W_1, W_16, Wo_22 hN0, o22, tot, hz', lcmp_eq0, cw_clear hk, lr]
theorem tlB_1 : tlB A B n la len m tl 1 = B 1 := by
  unfold tlB
  split <;> rfl
theorem p_beforen (hT : oldT (n, rm, mt, nt, fm, vr)) {g j : Int32} (hno : ¬ (hasB n g = true ∧ hasB n j = true ∧ ¬ g = j)) : zK (d + 5) 147 [.ref 1, .int g, .int j] ((wld h te (n, rm, mt, nt, fm, vr) dr pa (rk, rf) fi (k, len, m, A, B, C, op, sn, tl, n, la) cs ci ga r1 r2 sw), u) Q = Q (some (.int (-1)), ((wld h te (n, rm, mt, nt, fm, vr) dr pa (rk, rf) fi (k, len, m, A, B, C, op, sn, tl, n, la) cs ci ga r1 r2 sw), u)) := by
  have at2 := fun Q => c_areTwo (d := 2) (u := u) (Q := Q) (g := g) (k := j) (W_told (h := h) (te := te) (dr := dr) (pa := pa) (ro := (rk, rf)) (fi := fi) (od := (k, len, m, A, B, C, op, sn, tl, n, la)) (cs := cs) (ci := ci) (ga := ga) (r1 := r1) (r2 := r2) (sw := sw) hT)
  have e : (hasB n g && (hasB n j && decide (¬ g = j))) = false := by
    cases h1 : hasB n g <;> cases h2 : hasB n j <;> simp_all
  refine zK_of (k := 5) (by omega) ?_
  refine zK_in (M := MX10_before) rfl (Nat.le_of_ble_eq_true rfl) ?_
  show zW 4 MX10_before 0 ([.ref 1, .int g, .int j], [], ((wld h te (n, rm, mt, nt, fm, vr) dr pa (rk, rf) fi (k, len, m, A, B, C, op, sn, tl, n, la) cs ci ga r1 r2 sw), u)) _
  simp (disch := first | assumption | omega | decide) only [eX10_before_0, eX10_before_1, eX10_before_4, eX10_before_5, eX10_before_6, eX10_before_9, eX10_before_12, eX10_before_13, eX10_before_14, eX10_before_15, eX10_before_18, eX10_before_19, eX10_before_22, eX10_before_25, eX10_before_26, eX10_before_27, eX10_before_30, eX10_before_32, eX10_before_33, eX10_before_34, eX10_before_35, eX10_before_38, eX10_before_39, eX10_before_40, eX10_before_43, eX10_before_46, rX10_before, zg_aload, zg_bipush, zg_getfield, zg_iconst, zg_if, zg_iload, zg_ireturn, zg_iv1, zg_iv2, zg_lcmp, zg_lconst, q10, q01, q00, ite_self, zLd_i, zLd_l, zLd_a, zInc_i, zGet_o, zGet2_s, zPut_o, zAld_i, zAll_j, zAst_i, zAsl_j, zLen_i, zLen_j, zRt_i, zRt_z, zRl2_l, zRv_n, List.getElem?_cons_zero, List.getElem?_cons_succ, List.length_cons, List.length_nil, z_set, z_set2, z_cut, List.set_cons_zero, List.set_cons_succ, Option.toList_some, Option.toList_none, List.cons_append, List.nil_append, zif, zW_ite, zfit_0, zfit_1, zfit_2, zfit_3, zisc_o, zRt_c, zRt_b, List.map_cons, List.map_nil, List.sum_cons, List.sum_nil, true_and, and_true, if_true, if_false, ite_true, ite_false, Nat.reduceLT, Nat.reduceLeDiff, Nat.reduceAdd, Nat.reduceEqDiff, eq_self, not_true_eq_false, not_false_eq_true, Nat.lt_irrefl, or_true, true_or, or_false, false_or, z_cell_lt, Value.category, ltT, ltF, leT, leF, natT, natF, iltT, iltF, ieqT, ieqF, vpT, cl_nI, q_bit, pow_cell, z_pw_eq, nI_add, nI_mul, nI_m1, nI_dn, nI_dn0, m1_lt, lg_pos, i32_irr, q_shT, ite01, ite00, updL_z, q_upd, Bool.false_eq_true, nI_l2i, jlT_0, jlF_0, jgT_0, jgF_0, jeT_0, jeF_0, jv_0, jc_0, jm_0, jM_0, ja_0, jA_0, jlT_1, jlF_1, jgT_1, jgF_1, jeT_1, jeF_1, jv_1, jc_1, jm_1, jM_1, ja_1, jA_1, jlT_2, jlF_2, jgT_2, jgF_2, jeT_2, jeF_2, jv_2, jc_2, jm_2, jM_2, ja_2, jA_2, W_1, W_4, at2, e]
theorem p_before0 (tot : ∀ (d : Nat) (Q : zR → Prop), zK (d + 3) 51 [.ref 22, .ref 4] ((wld h0 te (n, rm, mt, nt, fm, vr) dr pa (rk, rf) fi od0 cs ci ga r1 r2 sw), u0) Q = Q (some (.long (B 1 0)), ((wld h te (n, rm, mt, nt, fm, vr) dr pa (rk, rf) fi (k, len, m, A, B, C, op, sn, tl, n, la) cs ci ga r1 r2 sw), u))) (hN0 : nmOK od0 cs) (hT : oldT (n, rm, mt, nt, fm, vr)) {a b : Nat} (ha : a < n) (hb : b < n) (hab : a ≠ b) (hz : B 1 0 = 0) : zK (d + 5) 147 [.ref 1, .int (nI a), .int (nI b)] ((wld h0 te (n, rm, mt, nt, fm, vr) dr pa (rk, rf) fi od0 cs ci ga r1 r2 sw), u0) Q = Q (some (.int (-2)), ((wld h te (n, rm, mt, nt, fm, vr) dr pa (rk, rf) fi (k, len, m, A, B, C, op, sn, tl, n, la) cs ci ga r1 r2 sw), u)) := by
  have hn : n ≤ 7 := hT.1
  have at2 := fun Q => c_areTwo (d := 2) (u := u0) (Q := Q) (g := nI a) (k := nI b) (W_told (h := h0) (te := te) (dr := dr) (pa := pa) (ro := (rk, rf)) (fi := fi) (od := od0) (cs := cs) (ci := ci) (ga := ga) (r1 := r1) (r2 := r2) (sw := sw) hT)
  have e1 := hasB_in hn ha
  have e2 := hasB_in hn hb
  refine zK_of (k := 5) (by omega) ?_
  refine zK_in (M := MX10_before) rfl (Nat.le_of_ble_eq_true rfl) ?_
  show zW 4 MX10_before 0 ([.ref 1, .int (nI a), .int (nI b)], [], ((wld h0 te (n, rm, mt, nt, fm, vr) dr pa (rk, rf) fi od0 cs ci ga r1 r2 sw), u0)) _
  simp (disch := first | assumption | omega | decide) only [eX10_before_0, eX10_before_1, eX10_before_4, eX10_before_5, eX10_before_6, eX10_before_9, eX10_before_12, eX10_before_13, eX10_before_14, eX10_before_15, eX10_before_18, eX10_before_19, eX10_before_22, eX10_before_25, eX10_before_26, eX10_before_27, eX10_before_30, eX10_before_32, eX10_before_33, eX10_before_34, eX10_before_35, eX10_before_38, eX10_before_39, eX10_before_40, eX10_before_43, eX10_before_46, rX10_before, zg_aload, zg_bipush, zg_getfield, zg_iconst, zg_if, zg_iload, zg_ireturn, zg_iv1, zg_iv2, zg_lcmp, zg_lconst, q10, q01, q00, ite_self, zLd_i, zLd_l, zLd_a, zInc_i, zGet_o, zGet2_s, zPut_o, zAld_i, zAll_j, zAst_i, zAsl_j, zLen_i, zLen_j, zRt_i, zRt_z, zRl2_l, zRv_n, List.getElem?_cons_zero, List.getElem?_cons_succ, List.length_cons, List.length_nil, z_set, z_set2, z_cut, List.set_cons_zero, List.set_cons_succ, Option.toList_some, Option.toList_none, List.cons_append, List.nil_append, zif, zW_ite, zfit_0, zfit_1, zfit_2, zfit_3, zisc_o, zRt_c, zRt_b, List.map_cons, List.map_nil, List.sum_cons, List.sum_nil, true_and, and_true, if_true, if_false, ite_true, ite_false, Nat.reduceLT, Nat.reduceLeDiff, Nat.reduceAdd, Nat.reduceEqDiff, eq_self, not_true_eq_false, not_false_eq_true, Nat.lt_irrefl, or_true, true_or, or_false, false_or, z_cell_lt, Value.category, ltT, ltF, leT, leF, natT, natF, iltT, iltF, ieqT, ieqF, vpT, cl_nI, q_bit, pow_cell, z_pw_eq, nI_add, nI_mul, nI_m1, nI_dn, nI_dn0, m1_lt, lg_pos, i32_irr, q_shT, ite01, ite00, updL_z, q_upd, Bool.false_eq_true, nI_l2i, jlT_0, jlF_0, jgT_0, jgF_0, jeT_0, jeF_0, jv_0, jc_0, jm_0, jM_0, ja_0, jA_0, jlT_1, jlF_1, jgT_1, jgF_1, jeT_1, jeF_1, jv_1, jc_1, jm_1, jM_1, ja_1, jA_1, jlT_2, jlF_2, jgT_2, jgF_2, jeT_2, jeF_2, jv_2, jc_2, jm_2, jM_2, ja_2, jA_2, W_1, W_4, at2, e1, e2, Bool.true_and, decide_true, Wo_22 hN0, tot, hz, lcmp_eq0]
theorem p_before (tot : ∀ (d : Nat) (Q : zR → Prop), zK (d + 3) 51 [.ref 22, .ref 4] ((wld h0 te (n, rm, mt, nt, fm, vr) dr pa (rk, rf) fi od0 cs ci ga r1 r2 sw), u0) Q = Q (some (.long (B 1 0)), ((wld h te (n, rm, mt, nt, fm, vr) dr pa (rk, rf) fi (k, len, m, A, B, C, op, sn, tl, n, la) cs ci ga r1 r2 sw), u))) (hN0 : nmOK od0 cs) (hT : oldT (n, rm, mt, nt, fm, vr)) (hN : nmOK (k, len, m, A, B, C, op, sn, tl, n, la) cs) (hG : ordG n len la m A) (hv : sn = vr) (hk : rk ≤ 14) {a b : Nat} (ha : a < n) (hb : b < n) (hab : a ≠ b) {x y : Nat} (hx : x < 2147483648) (hy : y < 2147483648) (hy0 : 0 < y) (hB : B 1 0 = lN y) (hX : waS (tlB A B n la len m tl 3) (fun c => !c.testBit b) a (2 ^ n) = lN x) : zK (d + 5) 147 [.ref 1, .int (nI a), .int (nI b)] ((wld h0 te (n, rm, mt, nt, fm, vr) dr pa (rk, rf) fi od0 cs ci ga r1 r2 sw), u0) Q = Q (some (.int 0), ((wld h te (n, rm, mt, nt, fm, vr) dr pa (2, vp_updL (vp_updL rf 0 (lN (x / Nat.gcd x y))) 1 (lN (y / Nat.gcd x y))) fi (k, len, m, A, tlB A B n la len m tl, C, op, sn, true, n, la) cs ci ga r1 r2 sw), u)) := by
  have hn : n ≤ 7 := hT.1
  have at2 := fun Q => c_areTwo (d := 2) (u := u0) (Q := Q) (g := nI a) (k := nI b) (W_told (h := h0) (te := te) (dr := dr) (pa := pa) (ro := (rk, rf)) (fi := fi) (od := od0) (cs := cs) (ci := ci) (ga := ga) (r1 := r1) (r2 := r2) (sw := sw) hT)
  have e1 := hasB_in hn ha
  have e2 := hasB_in hn hb
  have hz : (lN y = 0) = False := (lN_z hy).trans (eq_false (by omega))
  have wa := fun Q => cw_wa (d := 1) (u := u) (Q := Q) (h := h) (te := te) (tO := (n, rm, mt, nt, fm, vr)) (dr := dr) (pa := pa) (ro := (rk, rf)) (fi := fi) (ci := ci) (ga := ga) (r1 := r1) (r2 := r2) (sw := sw) hN hG ha hb
  have sh := fun Q => p_share (d := 1) (u := u) (Q := Q) (h := h) (te := te) (dr := dr) (pa := pa) (fi := fi) (ci := ci) (ga := ga) (r1 := r1) (r2 := r2) (sw := sw) (rf := rf) (B := tlB A B n la len m tl) (C := C) (op := op) (tl := true) (cs := cs) hT hN hG hv hk hx hy hy0 ((congrFun (tlB_1) 0).trans hB)
  refine zK_of (k := 5) (by omega) ?_
  refine zK_in (M := MX10_before) rfl (Nat.le_of_ble_eq_true rfl) ?_
  show zW 4 MX10_before 0 ([.ref 1, .int (nI a), .int (nI b)], [], ((wld h0 te (n, rm, mt, nt, fm, vr) dr pa (rk, rf) fi od0 cs ci ga r1 r2 sw), u0)) _
  simp (disch := first | assumption | omega | decide) only [eX10_before_0, eX10_before_1, eX10_before_4, eX10_before_5, eX10_before_6, eX10_before_9, eX10_before_12, eX10_before_13, eX10_before_14, eX10_before_15, eX10_before_18, eX10_before_19, eX10_before_22, eX10_before_25, eX10_before_26, eX10_before_27, eX10_before_30, eX10_before_32, eX10_before_33, eX10_before_34, eX10_before_35, eX10_before_38, eX10_before_39, eX10_before_40, eX10_before_43, eX10_before_46, rX10_before, zg_aload, zg_bipush, zg_getfield, zg_iconst, zg_if, zg_iload, zg_ireturn, zg_iv1, zg_iv2, zg_lcmp, zg_lconst, q10, q01, q00, ite_self, zLd_i, zLd_l, zLd_a, zInc_i, zGet_o, zGet2_s, zPut_o, zAld_i, zAll_j, zAst_i, zAsl_j, zLen_i, zLen_j, zRt_i, zRt_z, zRl2_l, zRv_n, List.getElem?_cons_zero, List.getElem?_cons_succ, List.length_cons, List.length_nil, z_set, z_set2, z_cut, List.set_cons_zero, List.set_cons_succ, Option.toList_some, Option.toList_none, List.cons_append, List.nil_append, zif, zW_ite, zfit_0, zfit_1, zfit_2, zfit_3, zisc_o, zRt_c, zRt_b, List.map_cons, List.map_nil, List.sum_cons, List.sum_nil, true_and, and_true, if_true, if_false, ite_true, ite_false, Nat.reduceLT, Nat.reduceLeDiff, Nat.reduceAdd, Nat.reduceEqDiff, eq_self, not_true_eq_false, not_false_eq_true, Nat.lt_irrefl, or_true, true_or, or_false, false_or, z_cell_lt, Value.category, ltT, ltF, leT, leF, natT, natF, iltT, iltF, ieqT, ieqF, vpT, cl_nI, q_bit, pow_cell, z_pw_eq, nI_add, nI_mul, nI_m1, nI_dn, nI_dn0, m1_lt, lg_pos, i32_irr, q_shT, ite01, ite00, updL_z, q_upd, Bool.false_eq_true, nI_l2i, jlT_0, jlF_0, jgT_0, jgF_0, jeT_0, jeF_0, jv_0, jc_0, jm_0, jM_0, ja_0, jA_0, jlT_1, jlF_1, jgT_1, jgF_1, jeT_1, jeF_1, jv_1, jc_1, jm_1, jM_1, ja_1, jA_1, jlT_2, jlF_2, jgT_2, jgF_2, jeT_2, jeF_2, jv_2, jc_2, jm_2, jM_2, ja_2, jA_2, W_1, W_4, at2, e1, e2, Bool.true_and, decide_true, Wo_22 hN0, Wo_22 hN, tot, hB, hz, lcmp_eq0, wa, hX, sh]
theorem p_metn (hT : oldT (n, rm, mt, nt, fm, vr)) {g j : Int32} (hno : ¬ (hasB n g = true ∧ hasB n j = true ∧ ¬ g = j)) : zK (d + 5) 148 [.ref 1, .int g, .int j] ((wld h te (n, rm, mt, nt, fm, vr) dr pa (rk, rf) fi (k, len, m, A, B, C, op, sn, tl, n, la) cs ci ga r1 r2 sw), u) Q = Q (some (.int (-1)), ((wld h te (n, rm, mt, nt, fm, vr) dr pa (rk, rf) fi (k, len, m, A, B, C, op, sn, tl, n, la) cs ci ga r1 r2 sw), u)) := by
  have at2 := fun Q => c_areTwo (d := 2) (u := u) (Q := Q) (g := g) (k := j) (W_told (h := h) (te := te) (dr := dr) (pa := pa) (ro := (rk, rf)) (fi := fi) (od := (k, len, m, A, B, C, op, sn, tl, n, la)) (cs := cs) (ci := ci) (ga := ga) (r1 := r1) (r2 := r2) (sw := sw) hT)
  have e : (hasB n g && (hasB n j && decide (¬ g = j))) = false := by
    cases h1 : hasB n g <;> cases h2 : hasB n j <;> simp_all
  refine zK_of (k := 5) (by omega) ?_
  refine zK_in (M := MX10_met) rfl (Nat.le_of_ble_eq_true rfl) ?_
  show zW 4 MX10_met 0 ([.ref 1, .int g, .int j], [], ((wld h te (n, rm, mt, nt, fm, vr) dr pa (rk, rf) fi (k, len, m, A, B, C, op, sn, tl, n, la) cs ci ga r1 r2 sw), u)) _
  simp (disch := first | assumption | omega | decide) only [eX10_met_0, eX10_met_1, eX10_met_4, eX10_met_5, eX10_met_6, eX10_met_9, eX10_met_12, eX10_met_13, eX10_met_14, eX10_met_15, eX10_met_18, eX10_met_19, eX10_met_22, eX10_met_25, eX10_met_26, eX10_met_27, eX10_met_30, eX10_met_32, eX10_met_33, eX10_met_34, eX10_met_35, eX10_met_38, eX10_met_39, eX10_met_40, eX10_met_43, eX10_met_46, rX10_met, zg_aload, zg_bipush, zg_getfield, zg_iconst, zg_if, zg_iload, zg_ireturn, zg_iv1, zg_iv2, zg_lcmp, zg_lconst, q10, q01, q00, ite_self, zLd_i, zLd_l, zLd_a, zInc_i, zGet_o, zGet2_s, zPut_o, zAld_i, zAll_j, zAst_i, zAsl_j, zLen_i, zLen_j, zRt_i, zRt_z, zRl2_l, zRv_n, List.getElem?_cons_zero, List.getElem?_cons_succ, List.length_cons, List.length_nil, z_set, z_set2, z_cut, List.set_cons_zero, List.set_cons_succ, Option.toList_some, Option.toList_none, List.cons_append, List.nil_append, zif, zW_ite, zfit_0, zfit_1, zfit_2, zfit_3, zisc_o, zRt_c, zRt_b, List.map_cons, List.map_nil, List.sum_cons, List.sum_nil, true_and, and_true, if_true, if_false, ite_true, ite_false, Nat.reduceLT, Nat.reduceLeDiff, Nat.reduceAdd, Nat.reduceEqDiff, eq_self, not_true_eq_false, not_false_eq_true, Nat.lt_irrefl, or_true, true_or, or_false, false_or, z_cell_lt, Value.category, ltT, ltF, leT, leF, natT, natF, iltT, iltF, ieqT, ieqF, vpT, cl_nI, q_bit, pow_cell, z_pw_eq, nI_add, nI_mul, nI_m1, nI_dn, nI_dn0, m1_lt, lg_pos, i32_irr, q_shT, ite01, ite00, updL_z, q_upd, Bool.false_eq_true, nI_l2i, jlT_0, jlF_0, jgT_0, jgF_0, jeT_0, jeF_0, jv_0, jc_0, jm_0, jM_0, ja_0, jA_0, jlT_1, jlF_1, jgT_1, jgF_1, jeT_1, jeF_1, jv_1, jc_1, jm_1, jM_1, ja_1, jA_1, jlT_2, jlF_2, jgT_2, jgF_2, jeT_2, jeF_2, jv_2, jc_2, jm_2, jM_2, ja_2, jA_2, W_1, W_4, at2, e]
theorem p_met0 (tot : ∀ (d : Nat) (Q : zR → Prop), zK (d + 3) 51 [.ref 22, .ref 4] ((wld h0 te (n, rm, mt, nt, fm, vr) dr pa (rk, rf) fi od0 cs ci ga r1 r2 sw), u0) Q = Q (some (.long (B 1 0)), ((wld h te (n, rm, mt, nt, fm, vr) dr pa (rk, rf) fi (k, len, m, A, B, C, op, sn, tl, n, la) cs ci ga r1 r2 sw), u))) (hN0 : nmOK od0 cs) (hT : oldT (n, rm, mt, nt, fm, vr)) {a b : Nat} (ha : a < n) (hb : b < n) (hab : a ≠ b) (hz : B 1 0 = 0) : zK (d + 5) 148 [.ref 1, .int (nI a), .int (nI b)] ((wld h0 te (n, rm, mt, nt, fm, vr) dr pa (rk, rf) fi od0 cs ci ga r1 r2 sw), u0) Q = Q (some (.int (-2)), ((wld h te (n, rm, mt, nt, fm, vr) dr pa (rk, rf) fi (k, len, m, A, B, C, op, sn, tl, n, la) cs ci ga r1 r2 sw), u)) := by
  have hn : n ≤ 7 := hT.1
  have at2 := fun Q => c_areTwo (d := 2) (u := u0) (Q := Q) (g := nI a) (k := nI b) (W_told (h := h0) (te := te) (dr := dr) (pa := pa) (ro := (rk, rf)) (fi := fi) (od := od0) (cs := cs) (ci := ci) (ga := ga) (r1 := r1) (r2 := r2) (sw := sw) hT)
  have e1 := hasB_in hn ha
  have e2 := hasB_in hn hb
  refine zK_of (k := 5) (by omega) ?_
  refine zK_in (M := MX10_met) rfl (Nat.le_of_ble_eq_true rfl) ?_
  show zW 4 MX10_met 0 ([.ref 1, .int (nI a), .int (nI b)], [], ((wld h0 te (n, rm, mt, nt, fm, vr) dr pa (rk, rf) fi od0 cs ci ga r1 r2 sw), u0)) _
  simp (disch := first | assumption | omega | decide) only [eX10_met_0, eX10_met_1, eX10_met_4, eX10_met_5, eX10_met_6, eX10_met_9, eX10_met_12, eX10_met_13, eX10_met_14, eX10_met_15, eX10_met_18, eX10_met_19, eX10_met_22, eX10_met_25, eX10_met_26, eX10_met_27, eX10_met_30, eX10_met_32, eX10_met_33, eX10_met_34, eX10_met_35, eX10_met_38, eX10_met_39, eX10_met_40, eX10_met_43, eX10_met_46, rX10_met, zg_aload, zg_bipush, zg_getfield, zg_iconst, zg_if, zg_iload, zg_ireturn, zg_iv1, zg_iv2, zg_lcmp, zg_lconst, q10, q01, q00, ite_self, zLd_i, zLd_l, zLd_a, zInc_i, zGet_o, zGet2_s, zPut_o, zAld_i, zAll_j, zAst_i, zAsl_j, zLen_i, zLen_j, zRt_i, zRt_z, zRl2_l, zRv_n, List.getElem?_cons_zero, List.getElem?_cons_succ, List.length_cons, List.length_nil, z_set, z_set2, z_cut, List.set_cons_zero, List.set_cons_succ, Option.toList_some, Option.toList_none, List.cons_append, List.nil_append, zif, zW_ite, zfit_0, zfit_1, zfit_2, zfit_3, zisc_o, zRt_c, zRt_b, List.map_cons, List.map_nil, List.sum_cons, List.sum_nil, true_and, and_true, if_true, if_false, ite_true, ite_false, Nat.reduceLT, Nat.reduceLeDiff, Nat.reduceAdd, Nat.reduceEqDiff, eq_self, not_true_eq_false, not_false_eq_true, Nat.lt_irrefl, or_true, true_or, or_false, false_or, z_cell_lt, Value.category, ltT, ltF, leT, leF, natT, natF, iltT, iltF, ieqT, ieqF, vpT, cl_nI, q_bit, pow_cell, z_pw_eq, nI_add, nI_mul, nI_m1, nI_dn, nI_dn0, m1_lt, lg_pos, i32_irr, q_shT, ite01, ite00, updL_z, q_upd, Bool.false_eq_true, nI_l2i, jlT_0, jlF_0, jgT_0, jgF_0, jeT_0, jeF_0, jv_0, jc_0, jm_0, jM_0, ja_0, jA_0, jlT_1, jlF_1, jgT_1, jgF_1, jeT_1, jeF_1, jv_1, jc_1, jm_1, jM_1, ja_1, jA_1, jlT_2, jlF_2, jgT_2, jgF_2, jeT_2, jeF_2, jv_2, jc_2, jm_2, jM_2, ja_2, jA_2, W_1, W_4, at2, e1, e2, Bool.true_and, decide_true, Wo_22 hN0, tot, hz, lcmp_eq0]
theorem p_met (tot : ∀ (d : Nat) (Q : zR → Prop), zK (d + 3) 51 [.ref 22, .ref 4] ((wld h0 te (n, rm, mt, nt, fm, vr) dr pa (rk, rf) fi od0 cs ci ga r1 r2 sw), u0) Q = Q (some (.long (B 1 0)), ((wld h te (n, rm, mt, nt, fm, vr) dr pa (rk, rf) fi (k, len, m, A, B, C, op, sn, tl, n, la) cs ci ga r1 r2 sw), u))) (hN0 : nmOK od0 cs) (hT : oldT (n, rm, mt, nt, fm, vr)) (hN : nmOK (k, len, m, A, B, C, op, sn, tl, n, la) cs) (hG : ordG n len la m A) (hv : sn = vr) (hk : rk ≤ 14) {a b : Nat} (ha : a < n) (hb : b < n) (hab : a ≠ b) {x y : Nat} (hx : x < 2147483648) (hy : y < 2147483648) (hy0 : 0 < y) (hB : B 1 0 = lN y) (hX : wmS (tlB A B n la len m tl 4) a b (2 ^ n) = lN x) : zK (d + 5) 148 [.ref 1, .int (nI a), .int (nI b)] ((wld h0 te (n, rm, mt, nt, fm, vr) dr pa (rk, rf) fi od0 cs ci ga r1 r2 sw), u0) Q = Q (some (.int 0), ((wld h te (n, rm, mt, nt, fm, vr) dr pa (2, vp_updL (vp_updL rf 0 (lN (x / Nat.gcd x y))) 1 (lN (y / Nat.gcd x y))) fi (k, len, m, A, tlB A B n la len m tl, C, op, sn, true, n, la) cs ci ga r1 r2 sw), u)) := by
  have hn : n ≤ 7 := hT.1
  have at2 := fun Q => c_areTwo (d := 2) (u := u0) (Q := Q) (g := nI a) (k := nI b) (W_told (h := h0) (te := te) (dr := dr) (pa := pa) (ro := (rk, rf)) (fi := fi) (od := od0) (cs := cs) (ci := ci) (ga := ga) (r1 := r1) (r2 := r2) (sw := sw) hT)
  have e1 := hasB_in hn ha
  have e2 := hasB_in hn hb
  have hz : (lN y = 0) = False := (lN_z hy).trans (eq_false (by omega))
  have wa := fun Q => cw_wm (d := 1) (u := u) (Q := Q) (h := h) (te := te) (tO := (n, rm, mt, nt, fm, vr)) (dr := dr) (pa := pa) (ro := (rk, rf)) (fi := fi) (ci := ci) (ga := ga) (r1 := r1) (r2 := r2) (sw := sw) hN hG ha hb
  have sh := fun Q => p_share (d := 1) (u := u) (Q := Q) (h := h) (te := te) (dr := dr) (pa := pa) (fi := fi) (ci := ci) (ga := ga) (r1 := r1) (r2 := r2) (sw := sw) (rf := rf) (B := tlB A B n la len m tl) (C := C) (op := op) (tl := true) (cs := cs) hT hN hG hv hk hx hy hy0 ((congrFun (tlB_1) 0).trans hB)
  refine zK_of (k := 5) (by omega) ?_
  refine zK_in (M := MX10_met) rfl (Nat.le_of_ble_eq_true rfl) ?_
  show zW 4 MX10_met 0 ([.ref 1, .int (nI a), .int (nI b)], [], ((wld h0 te (n, rm, mt, nt, fm, vr) dr pa (rk, rf) fi od0 cs ci ga r1 r2 sw), u0)) _
  simp (disch := first | assumption | omega | decide) only [eX10_met_0, eX10_met_1, eX10_met_4, eX10_met_5, eX10_met_6, eX10_met_9, eX10_met_12, eX10_met_13, eX10_met_14, eX10_met_15, eX10_met_18, eX10_met_19, eX10_met_22, eX10_met_25, eX10_met_26, eX10_met_27, eX10_met_30, eX10_met_32, eX10_met_33, eX10_met_34, eX10_met_35, eX10_met_38, eX10_met_39, eX10_met_40, eX10_met_43, eX10_met_46, rX10_met, zg_aload, zg_bipush, zg_getfield, zg_iconst, zg_if, zg_iload, zg_ireturn, zg_iv1, zg_iv2, zg_lcmp, zg_lconst, q10, q01, q00, ite_self, zLd_i, zLd_l, zLd_a, zInc_i, zGet_o, zGet2_s, zPut_o, zAld_i, zAll_j, zAst_i, zAsl_j, zLen_i, zLen_j, zRt_i, zRt_z, zRl2_l, zRv_n, List.getElem?_cons_zero, List.getElem?_cons_succ, List.length_cons, List.length_nil, z_set, z_set2, z_cut, List.set_cons_zero, List.set_cons_succ, Option.toList_some, Option.toList_none, List.cons_append, List.nil_append, zif, zW_ite, zfit_0, zfit_1, zfit_2, zfit_3, zisc_o, zRt_c, zRt_b, List.map_cons, List.map_nil, List.sum_cons, List.sum_nil, true_and, and_true, if_true, if_false, ite_true, ite_false, Nat.reduceLT, Nat.reduceLeDiff, Nat.reduceAdd, Nat.reduceEqDiff, eq_self, not_true_eq_false, not_false_eq_true, Nat.lt_irrefl, or_true, true_or, or_false, false_or, z_cell_lt, Value.category, ltT, ltF, leT, leF, natT, natF, iltT, iltF, ieqT, ieqF, vpT, cl_nI, q_bit, pow_cell, z_pw_eq, nI_add, nI_mul, nI_m1, nI_dn, nI_dn0, m1_lt, lg_pos, i32_irr, q_shT, ite01, ite00, updL_z, q_upd, Bool.false_eq_true, nI_l2i, jlT_0, jlF_0, jgT_0, jgF_0, jeT_0, jeF_0, jv_0, jc_0, jm_0, jM_0, ja_0, jA_0, jlT_1, jlF_1, jgT_1, jgF_1, jeT_1, jeF_1, jv_1, jc_1, jm_1, jM_1, ja_1, jA_1, jlT_2, jlF_2, jgT_2, jgF_2, jeT_2, jeF_2, jv_2, jc_2, jm_2, jM_2, ja_2, jA_2, W_1, W_4, at2, e1, e2, Bool.true_and, decide_true, Wo_22 hN0, Wo_22 hN, tot, hB, hz, lcmp_eq0, wa, hX, sh]
theorem p_placen (hT : oldT (n, rm, mt, nt, fm, vr)) {g j : Int32} (hno : ¬ (hasB n g = true ∧ hasB n j = true)) : zK (d + 5) 151 [.ref 1, .int g, .int j] ((wld h te (n, rm, mt, nt, fm, vr) dr pa (rk, rf) fi (k, len, m, A, B, C, op, sn, tl, n, la) cs ci ga r1 r2 sw), u) Q = Q (some (.int (-1)), ((wld h te (n, rm, mt, nt, fm, vr) dr pa (rk, rf) fi (k, len, m, A, B, C, op, sn, tl, n, la) cs ci ga r1 r2 sw), u)) := by
  have hs := fun g Q => c_has (d := 3) (u := u) (Q := Q) (g := g) (W_told (h := h) (te := te) (dr := dr) (pa := pa) (ro := (rk, rf)) (fi := fi) (od := (k, len, m, A, B, C, op, sn, tl, n, la)) (cs := cs) (ci := ci) (ga := ga) (r1 := r1) (r2 := r2) (sw := sw) hT)
  refine zK_of (k := 5) (by omega) ?_
  refine zK_in (M := MX10_place) rfl (Nat.le_of_ble_eq_true rfl) ?_
  show zW 4 MX10_place 0 ([.ref 1, .int g, .int j], [], ((wld h te (n, rm, mt, nt, fm, vr) dr pa (rk, rf) fi (k, len, m, A, B, C, op, sn, tl, n, la) cs ci ga r1 r2 sw), u)) _
  cases c1 : hasB n g
  · simp (disch := first | assumption | omega | decide) only [eX10_place_0, eX10_place_1, eX10_place_4, eX10_place_5, eX10_place_8, eX10_place_11, eX10_place_12, eX10_place_15, eX10_place_16, eX10_place_19, eX10_place_22, eX10_place_23, eX10_place_24, eX10_place_25, eX10_place_28, eX10_place_29, eX10_place_32, eX10_place_35, eX10_place_36, eX10_place_37, eX10_place_40, eX10_place_42, eX10_place_43, eX10_place_44, eX10_place_45, eX10_place_48, eX10_place_49, eX10_place_50, eX10_place_53, eX10_place_56, rX10_place, zg_aload, zg_bipush, zg_getfield, zg_iconst, zg_if, zg_iload, zg_ireturn, zg_iv1, zg_iv2, zg_lcmp, zg_lconst, q10, q01, q00, ite_self, zLd_i, zLd_l, zLd_a, zInc_i, zGet_o, zGet2_s, zPut_o, zAld_i, zAll_j, zAst_i, zAsl_j, zLen_i, zLen_j, zRt_i, zRt_z, zRl2_l, zRv_n, List.getElem?_cons_zero, List.getElem?_cons_succ, List.length_cons, List.length_nil, z_set, z_set2, z_cut, List.set_cons_zero, List.set_cons_succ, Option.toList_some, Option.toList_none, List.cons_append, List.nil_append, zif, zW_ite, zfit_0, zfit_1, zfit_2, zfit_3, zisc_o, zRt_c, zRt_b, List.map_cons, List.map_nil, List.sum_cons, List.sum_nil, true_and, and_true, if_true, if_false, ite_true, ite_false, Nat.reduceLT, Nat.reduceLeDiff, Nat.reduceAdd, Nat.reduceEqDiff, eq_self, not_true_eq_false, not_false_eq_true, Nat.lt_irrefl, or_true, true_or, or_false, false_or, z_cell_lt, Value.category, ltT, ltF, leT, leF, natT, natF, iltT, iltF, ieqT, ieqF, vpT, cl_nI, q_bit, pow_cell, z_pw_eq, nI_add, nI_mul, nI_m1, nI_dn, nI_dn0, m1_lt, lg_pos, i32_irr, q_shT, ite01, ite00, updL_z, q_upd, Bool.false_eq_true, nI_l2i, jlT_0, jlF_0, jgT_0, jgF_0, jeT_0, jeF_0, jv_0, jc_0, jm_0, jM_0, ja_0, jA_0, jlT_1, jlF_1, jgT_1, jgF_1, jeT_1, jeF_1, jv_1, jc_1, jm_1, jM_1, ja_1, jA_1, jlT_2, jlF_2, jgT_2, jgF_2, jeT_2, jeF_2, jv_2, jc_2, jm_2, jM_2, ja_2, jA_2, W_1, W_4, hs, c1]
  · cases c2 : hasB n j
    · simp (disch := first | assumption | omega | decide) only [eX10_place_0, eX10_place_1, eX10_place_4, eX10_place_5, eX10_place_8, eX10_place_11, eX10_place_12, eX10_place_15, eX10_place_16, eX10_place_19, eX10_place_22, eX10_place_23, eX10_place_24, eX10_place_25, eX10_place_28, eX10_place_29, eX10_place_32, eX10_place_35, eX10_place_36, eX10_place_37, eX10_place_40, eX10_place_42, eX10_place_43, eX10_place_44, eX10_place_45, eX10_place_48, eX10_place_49, eX10_place_50, eX10_place_53, eX10_place_56, rX10_place, zg_aload, zg_bipush, zg_getfield, zg_iconst, zg_if, zg_iload, zg_ireturn, zg_iv1, zg_iv2, zg_lcmp, zg_lconst, q10, q01, q00, ite_self, zLd_i, zLd_l, zLd_a, zInc_i, zGet_o, zGet2_s, zPut_o, zAld_i, zAll_j, zAst_i, zAsl_j, zLen_i, zLen_j, zRt_i, zRt_z, zRl2_l, zRv_n, List.getElem?_cons_zero, List.getElem?_cons_succ, List.length_cons, List.length_nil, z_set, z_set2, z_cut, List.set_cons_zero, List.set_cons_succ, Option.toList_some, Option.toList_none, List.cons_append, List.nil_append, zif, zW_ite, zfit_0, zfit_1, zfit_2, zfit_3, zisc_o, zRt_c, zRt_b, List.map_cons, List.map_nil, List.sum_cons, List.sum_nil, true_and, and_true, if_true, if_false, ite_true, ite_false, Nat.reduceLT, Nat.reduceLeDiff, Nat.reduceAdd, Nat.reduceEqDiff, eq_self, not_true_eq_false, not_false_eq_true, Nat.lt_irrefl, or_true, true_or, or_false, false_or, z_cell_lt, Value.category, ltT, ltF, leT, leF, natT, natF, iltT, iltF, ieqT, ieqF, vpT, cl_nI, q_bit, pow_cell, z_pw_eq, nI_add, nI_mul, nI_m1, nI_dn, nI_dn0, m1_lt, lg_pos, i32_irr, q_shT, ite01, ite00, updL_z, q_upd, Bool.false_eq_true, nI_l2i, jlT_0, jlF_0, jgT_0, jgF_0, jeT_0, jeF_0, jv_0, jc_0, jm_0, jM_0, ja_0, jA_0, jlT_1, jlF_1, jgT_1, jgF_1, jeT_1, jeF_1, jv_1, jc_1, jm_1, jM_1, ja_1, jA_1, jlT_2, jlF_2, jgT_2, jgF_2, jeT_2, jeF_2, jv_2, jc_2, jm_2, jM_2, ja_2, jA_2, W_1, W_4, hs, c1, c2]
    · exact absurd ⟨c1, c2⟩ hno
theorem p_place0 (tot : ∀ (d : Nat) (Q : zR → Prop), zK (d + 3) 51 [.ref 22, .ref 4] ((wld h0 te (n, rm, mt, nt, fm, vr) dr pa (rk, rf) fi od0 cs ci ga r1 r2 sw), u0) Q = Q (some (.long (B 1 0)), ((wld h te (n, rm, mt, nt, fm, vr) dr pa (rk, rf) fi (k, len, m, A, B, C, op, sn, tl, n, la) cs ci ga r1 r2 sw), u))) (hN0 : nmOK od0 cs) (hT : oldT (n, rm, mt, nt, fm, vr)) {a b : Nat} (ha : a < n) (hb : b < n) (hz : B 1 0 = 0) : zK (d + 5) 151 [.ref 1, .int (nI a), .int (nI b)] ((wld h0 te (n, rm, mt, nt, fm, vr) dr pa (rk, rf) fi od0 cs ci ga r1 r2 sw), u0) Q = Q (some (.int (-2)), ((wld h te (n, rm, mt, nt, fm, vr) dr pa (rk, rf) fi (k, len, m, A, B, C, op, sn, tl, n, la) cs ci ga r1 r2 sw), u)) := by
  have hn : n ≤ 7 := hT.1
  have hs := fun g Q => c_has (d := 3) (u := u0) (Q := Q) (g := g) (W_told (h := h0) (te := te) (dr := dr) (pa := pa) (ro := (rk, rf)) (fi := fi) (od := od0) (cs := cs) (ci := ci) (ga := ga) (r1 := r1) (r2 := r2) (sw := sw) hT)
  have e1 := hasB_in hn ha
  have e2 := hasB_in hn hb
  refine zK_of (k := 5) (by omega) ?_
  refine zK_in (M := MX10_place) rfl (Nat.le_of_ble_eq_true rfl) ?_
  show zW 4 MX10_place 0 ([.ref 1, .int (nI a), .int (nI b)], [], ((wld h0 te (n, rm, mt, nt, fm, vr) dr pa (rk, rf) fi od0 cs ci ga r1 r2 sw), u0)) _
  simp (disch := first | assumption | omega | decide) only [eX10_place_0, eX10_place_1, eX10_place_4, eX10_place_5, eX10_place_8, eX10_place_11, eX10_place_12, eX10_place_15, eX10_place_16, eX10_place_19, eX10_place_22, eX10_place_23, eX10_place_24, eX10_place_25, eX10_place_28, eX10_place_29, eX10_place_32, eX10_place_35, eX10_place_36, eX10_place_37, eX10_place_40, eX10_place_42, eX10_place_43, eX10_place_44, eX10_place_45, eX10_place_48, eX10_place_49, eX10_place_50, eX10_place_53, eX10_place_56, rX10_place, zg_aload, zg_bipush, zg_getfield, zg_iconst, zg_if, zg_iload, zg_ireturn, zg_iv1, zg_iv2, zg_lcmp, zg_lconst, q10, q01, q00, ite_self, zLd_i, zLd_l, zLd_a, zInc_i, zGet_o, zGet2_s, zPut_o, zAld_i, zAll_j, zAst_i, zAsl_j, zLen_i, zLen_j, zRt_i, zRt_z, zRl2_l, zRv_n, List.getElem?_cons_zero, List.getElem?_cons_succ, List.length_cons, List.length_nil, z_set, z_set2, z_cut, List.set_cons_zero, List.set_cons_succ, Option.toList_some, Option.toList_none, List.cons_append, List.nil_append, zif, zW_ite, zfit_0, zfit_1, zfit_2, zfit_3, zisc_o, zRt_c, zRt_b, List.map_cons, List.map_nil, List.sum_cons, List.sum_nil, true_and, and_true, if_true, if_false, ite_true, ite_false, Nat.reduceLT, Nat.reduceLeDiff, Nat.reduceAdd, Nat.reduceEqDiff, eq_self, not_true_eq_false, not_false_eq_true, Nat.lt_irrefl, or_true, true_or, or_false, false_or, z_cell_lt, Value.category, ltT, ltF, leT, leF, natT, natF, iltT, iltF, ieqT, ieqF, vpT, cl_nI, q_bit, pow_cell, z_pw_eq, nI_add, nI_mul, nI_m1, nI_dn, nI_dn0, m1_lt, lg_pos, i32_irr, q_shT, ite01, ite00, updL_z, q_upd, Bool.false_eq_true, nI_l2i, jlT_0, jlF_0, jgT_0, jgF_0, jeT_0, jeF_0, jv_0, jc_0, jm_0, jM_0, ja_0, jA_0, jlT_1, jlF_1, jgT_1, jgF_1, jeT_1, jeF_1, jv_1, jc_1, jm_1, jM_1, ja_1, jA_1, jlT_2, jlF_2, jgT_2, jgF_2, jeT_2, jeF_2, jv_2, jc_2, jm_2, jM_2, ja_2, jA_2, W_1, W_4, hs, e1, e2, Wo_22 hN0, tot, hz, lcmp_eq0]
theorem p_place (tot : ∀ (d : Nat) (Q : zR → Prop), zK (d + 3) 51 [.ref 22, .ref 4] ((wld h0 te (n, rm, mt, nt, fm, vr) dr pa (rk, rf) fi od0 cs ci ga r1 r2 sw), u0) Q = Q (some (.long (B 1 0)), ((wld h te (n, rm, mt, nt, fm, vr) dr pa (rk, rf) fi (k, len, m, A, B, C, op, sn, tl, n, la) cs ci ga r1 r2 sw), u))) (hN0 : nmOK od0 cs) (hT : oldT (n, rm, mt, nt, fm, vr)) (hN : nmOK (k, len, m, A, B, C, op, sn, tl, n, la) cs) (hG : ordG n len la m A) (hv : sn = vr) (hk : rk ≤ 14) {a b : Nat} (ha : a < n) (hb : b < n) {x y : Nat} (hx : x < 2147483648) (hy : y < 2147483648) (hy0 : 0 < y) (hB : B 1 0 = lN y) (hX : waS (tlB A B n la len m tl 3) (fun c => decide (pop c = b)) a (2 ^ n) = lN x) : zK (d + 5) 151 [.ref 1, .int (nI a), .int (nI b)] ((wld h0 te (n, rm, mt, nt, fm, vr) dr pa (rk, rf) fi od0 cs ci ga r1 r2 sw), u0) Q = Q (some (.int 0), ((wld h te (n, rm, mt, nt, fm, vr) dr pa (2, vp_updL (vp_updL rf 0 (lN (x / Nat.gcd x y))) 1 (lN (y / Nat.gcd x y))) fi (k, len, m, A, tlB A B n la len m tl, C, op, sn, true, n, la) cs ci ga r1 r2 sw), u)) := by
  have hn : n ≤ 7 := hT.1
  have hs := fun g Q => c_has (d := 3) (u := u0) (Q := Q) (g := g) (W_told (h := h0) (te := te) (dr := dr) (pa := pa) (ro := (rk, rf)) (fi := fi) (od := od0) (cs := cs) (ci := ci) (ga := ga) (r1 := r1) (r2 := r2) (sw := sw) hT)
  have e1 := hasB_in hn ha
  have e2 := hasB_in hn hb
  have hz : (lN y = 0) = False := (lN_z hy).trans (eq_false (by omega))
  have wa := fun Q => cw_wb (d := 1) (u := u) (Q := Q) (h := h) (te := te) (tO := (n, rm, mt, nt, fm, vr)) (dr := dr) (pa := pa) (ro := (rk, rf)) (fi := fi) (ci := ci) (ga := ga) (r1 := r1) (r2 := r2) (sw := sw) hN hG ha hb
  have sh := fun Q => p_share (d := 1) (u := u) (Q := Q) (h := h) (te := te) (dr := dr) (pa := pa) (fi := fi) (ci := ci) (ga := ga) (r1 := r1) (r2 := r2) (sw := sw) (rf := rf) (B := tlB A B n la len m tl) (C := C) (op := op) (tl := true) (cs := cs) hT hN hG hv hk hx hy hy0 ((congrFun (tlB_1) 0).trans hB)
  refine zK_of (k := 5) (by omega) ?_
  refine zK_in (M := MX10_place) rfl (Nat.le_of_ble_eq_true rfl) ?_
  show zW 4 MX10_place 0 ([.ref 1, .int (nI a), .int (nI b)], [], ((wld h0 te (n, rm, mt, nt, fm, vr) dr pa (rk, rf) fi od0 cs ci ga r1 r2 sw), u0)) _
  simp (disch := first | assumption | omega | decide) only [eX10_place_0, eX10_place_1, eX10_place_4, eX10_place_5, eX10_place_8, eX10_place_11, eX10_place_12, eX10_place_15, eX10_place_16, eX10_place_19, eX10_place_22, eX10_place_23, eX10_place_24, eX10_place_25, eX10_place_28, eX10_place_29, eX10_place_32, eX10_place_35, eX10_place_36, eX10_place_37, eX10_place_40, eX10_place_42, eX10_place_43, eX10_place_44, eX10_place_45, eX10_place_48, eX10_place_49, eX10_place_50, eX10_place_53, eX10_place_56, rX10_place, zg_aload, zg_bipush, zg_getfield, zg_iconst, zg_if, zg_iload, zg_ireturn, zg_iv1, zg_iv2, zg_lcmp, zg_lconst, q10, q01, q00, ite_self, zLd_i, zLd_l, zLd_a, zInc_i, zGet_o, zGet2_s, zPut_o, zAld_i, zAll_j, zAst_i, zAsl_j, zLen_i, zLen_j, zRt_i, zRt_z, zRl2_l, zRv_n, List.getElem?_cons_zero, List.getElem?_cons_succ, List.length_cons, List.length_nil, z_set, z_set2, z_cut, List.set_cons_zero, List.set_cons_succ, Option.toList_some, Option.toList_none, List.cons_append, List.nil_append, zif, zW_ite, zfit_0, zfit_1, zfit_2, zfit_3, zisc_o, zRt_c, zRt_b, List.map_cons, List.map_nil, List.sum_cons, List.sum_nil, true_and, and_true, if_true, if_false, ite_true, ite_false, Nat.reduceLT, Nat.reduceLeDiff, Nat.reduceAdd, Nat.reduceEqDiff, eq_self, not_true_eq_false, not_false_eq_true, Nat.lt_irrefl, or_true, true_or, or_false, false_or, z_cell_lt, Value.category, ltT, ltF, leT, leF, natT, natF, iltT, iltF, ieqT, ieqF, vpT, cl_nI, q_bit, pow_cell, z_pw_eq, nI_add, nI_mul, nI_m1, nI_dn, nI_dn0, m1_lt, lg_pos, i32_irr, q_shT, ite01, ite00, updL_z, q_upd, Bool.false_eq_true, nI_l2i, jlT_0, jlF_0, jgT_0, jgF_0, jeT_0, jeF_0, jv_0, jc_0, jm_0, jM_0, ja_0, jA_0, jlT_1, jlF_1, jgT_1, jgF_1, jeT_1, jeF_1, jv_1, jc_1, jm_1, jM_1, ja_1, jA_1, jlT_2, jlF_2, jgT_2, jgF_2, jeT_2, jeF_2, jv_2, jc_2, jm_2, jM_2, ja_2, jA_2, W_1, W_4, hs, e1, e2, Wo_22 hN0, Wo_22 hN, tot, hB, hz, lcmp_eq0, wa, hX, sh]
theorem p_most0 (tot : ∀ (d : Nat) (Q : zR → Prop), zK (d + 3) 51 [.ref 22, .ref 4] ((wld h0 te (n, rm, mt, nt, fm, vr) dr pa (rk, rf) fi od0 cs ci ga r1 r2 sw), u0) Q = Q (some (.long (B 1 0)), ((wld h te (n, rm, mt, nt, fm, vr) dr pa (rk, rf) fi (k, len, m, A, B, C, op, sn, tl, n, la) cs ci ga r1 r2 sw), u))) (hN0 : nmOK od0 cs) (hz : B 1 0 = 0) : zK (d + 5) 153 [.ref 1] ((wld h0 te (n, rm, mt, nt, fm, vr) dr pa (rk, rf) fi od0 cs ci ga r1 r2 sw), u0) Q = Q (some (.int (-2)), ((wld h te (n, rm, mt, nt, fm, vr) dr pa (rk, rf) fi (k, len, m, A, B, C, op, sn, tl, n, la) cs ci ga r1 r2 sw), u)) := by
  refine zK_of (k := 5) (by omega) ?_
  refine zK_in (M := MX10_most) rfl (Nat.le_of_ble_eq_true rfl) ?_
  show zW 4 MX10_most 0 ([.ref 1, .null], [], ((wld h0 te (n, rm, mt, nt, fm, vr) dr pa (rk, rf) fi od0 cs ci ga r1 r2 sw), u0)) _
  simp (disch := first | assumption | omega | decide) only [eX10_most_0, eX10_most_1, eX10_most_4, eX10_most_5, eX10_most_8, eX10_most_11, eX10_most_12, eX10_most_13, eX10_most_16, eX10_most_18, eX10_most_19, eX10_most_20, eX10_most_23, eX10_most_26, eX10_most_27, eX10_most_28, eX10_most_31, eX10_most_34, eX10_most_35, eX10_most_38, eX10_most_39, eX10_most_40, eX10_most_43, eX10_most_44, eX10_most_47, rX10_most, zg_aload, zg_bipush, zg_getfield, zg_i2l, zg_if, zg_iload, zg_ireturn, zg_is1, zg_istore, zg_iv0, zg_iv1, zg_lcmp, zg_lconst, q10, q01, q00, ite_self, zLd_i, zLd_l, zLd_a, zInc_i, zGet_o, zGet2_s, zPut_o, zAld_i, zAll_j, zAst_i, zAsl_j, zLen_i, zLen_j, zRt_i, zRt_z, zRl2_l, zRv_n, List.getElem?_cons_zero, List.getElem?_cons_succ, List.length_cons, List.length_nil, z_set, z_set2, z_cut, List.set_cons_zero, List.set_cons_succ, Option.toList_some, Option.toList_none, List.cons_append, List.nil_append, zif, zW_ite, zfit_0, zfit_1, zfit_2, zfit_3, zisc_o, zRt_c, zRt_b, List.map_cons, List.map_nil, List.sum_cons, List.sum_nil, true_and, and_true, if_true, if_false, ite_true, ite_false, Nat.reduceLT, Nat.reduceLeDiff, Nat.reduceAdd, Nat.reduceEqDiff, eq_self, not_true_eq_false, not_false_eq_true, Nat.lt_irrefl, or_true, true_or, or_false, false_or, z_cell_lt, Value.category, ltT, ltF, leT, leF, natT, natF, iltT, iltF, ieqT, ieqF, vpT, cl_nI, q_bit, pow_cell, z_pw_eq, nI_add, nI_mul, nI_m1, nI_dn, nI_dn0, m1_lt, lg_pos, i32_irr, q_shT, ite01, ite00, updL_z, q_upd, Bool.false_eq_true, nI_l2i, jlT_0, jlF_0, jgT_0, jgF_0, jeT_0, jeF_0, jv_0, jc_0, jm_0, jM_0, ja_0, jA_0, jlT_1, jlF_1, jgT_1, jgF_1, jeT_1, jeF_1, jv_1, jc_1, jm_1, jM_1, ja_1, jA_1, jlT_2, jlF_2, jgT_2, jgF_2, jeT_2, jeF_2, jv_2, jc_2, jm_2, jM_2, ja_2, jA_2, W_1, Wo_22 hN0, tot, hz, lcmp_eq0]
theorem p_most (tot : ∀ (d : Nat) (Q : zR → Prop), zK (d + 3) 51 [.ref 22, .ref 4] ((wld h0 te (n, rm, mt, nt, fm, vr) dr pa (rk, rf) fi od0 cs ci ga r1 r2 sw), u0) Q = Q (some (.long (B 1 0)), ((wld h te (n, rm, mt, nt, fm, vr) dr pa (rk, rf) fi (k, len, m, A, B, C, op, sn, tl, n, la) cs ci ga r1 r2 sw), u))) (hN0 : nmOK od0 cs) (hT : oldT (n, rm, mt, nt, fm, vr)) (hN : nmOK (k, len, m, A, B, C, op, sn, tl, n, la) cs) (hG : ordG n len la m A) (hv : sn = vr) (hk : rk ≤ 14) (hz : ¬ B 1 0 = 0) : zK (d + 5) 153 [.ref 1] ((wld h0 te (n, rm, mt, nt, fm, vr) dr pa (rk, rf) fi od0 cs ci ga r1 r2 sw), u0) Q = Q (some (.int (nI (pop (fsB A (tlB A B n la len m tl 0) (la + 1))))), ((wld h te (n, rm, mt, nt, fm, vr) dr pa (1, vp_updL rf 0 (lN (fsB A (tlB A B n la len m tl 0) (la + 1)))) fi (k, len, m, A, tlB A B n la len m tl, C, op, sn, true, n, la) cs ci ga r1 r2 sw), u)) := by
  have hz' := eq_false hz
  have hf := fsB_lt A (tlB A B n la len m tl 0) hG.2.2.2.2.2.1 (la + 1)
  have fs := fun Q => cw_fset (d := 1) (u := u) (Q := Q) (h := h) (te := te) (tO := (n, rm, mt, nt, fm, vr)) (dr := dr) (pa := pa) (ro := (rk, rf)) (fi := fi) (ci := ci) (ga := ga) (r1 := r1) (r2 := r2) (sw := sw) hN hG
  generalize fsB A (tlB A B n la len m tl 0) (la + 1) = z at *
  refine zK_of (k := 5) (by omega) ?_
  refine zK_in (M := MX10_most) rfl (Nat.le_of_ble_eq_true rfl) ?_
  show zW 4 MX10_most 0 ([.ref 1, .null], [], ((wld h0 te (n, rm, mt, nt, fm, vr) dr pa (rk, rf) fi od0 cs ci ga r1 r2 sw), u0)) _
  simp (disch := first | assumption | omega | decide) only [eX10_most_0, eX10_most_1, eX10_most_4, eX10_most_5, eX10_most_8, eX10_most_11, eX10_most_12, eX10_most_13, eX10_most_16, eX10_most_18, eX10_most_19, eX10_most_20, eX10_most_23, eX10_most_26, eX10_most_27, eX10_most_28, eX10_most_31, eX10_most_34, eX10_most_35, eX10_most_38, eX10_most_39, eX10_most_40, eX10_most_43, eX10_most_44, eX10_most_47, rX10_most, zg_aload, zg_bipush, zg_getfield, zg_i2l, zg_if, zg_iload, zg_ireturn, zg_is1, zg_istore, zg_iv0, zg_iv1, zg_lcmp, zg_lconst, q10, q01, q00, ite_self, zLd_i, zLd_l, zLd_a, zInc_i, zGet_o, zGet2_s, zPut_o, zAld_i, zAll_j, zAst_i, zAsl_j, zLen_i, zLen_j, zRt_i, zRt_z, zRl2_l, zRv_n, List.getElem?_cons_zero, List.getElem?_cons_succ, List.length_cons, List.length_nil, z_set, z_set2, z_cut, List.set_cons_zero, List.set_cons_succ, Option.toList_some, Option.toList_none, List.cons_append, List.nil_append, zif, zW_ite, zfit_0, zfit_1, zfit_2, zfit_3, zisc_o, zRt_c, zRt_b, List.map_cons, List.map_nil, List.sum_cons, List.sum_nil, true_and, and_true, if_true, if_false, ite_true, ite_false, Nat.reduceLT, Nat.reduceLeDiff, Nat.reduceAdd, Nat.reduceEqDiff, eq_self, not_true_eq_false, not_false_eq_true, Nat.lt_irrefl, or_true, true_or, or_false, false_or, z_cell_lt, Value.category, ltT, ltF, leT, leF, natT, natF, iltT, iltF, ieqT, ieqF, vpT, cl_nI, q_bit, pow_cell, z_pw_eq, nI_add, nI_mul, nI_m1, nI_dn, nI_dn0, m1_lt, lg_pos, i32_irr, q_shT, ite01, ite00, updL_z, q_upd, Bool.false_eq_true, nI_l2i, jlT_0, jlF_0, jgT_0, jgF_0, jeT_0, jeF_0, jv_0, jc_0, jm_0, jM_0, ja_0, jA_0, jlT_1, jlF_1, jgT_1, jgF_1, jeT_1, jeF_1, jv_1, jc_1, jm_1, jM_1, ja_1, jA_1, jlT_2, jlF_2, jgT_2, jgF_2, jeT_2, jeF_2, jv_2, jc_2, jm_2, jM_2, ja_2, jA_2, W_1, W_16, Wo_22 hN0, Wo_22 hN, tot, hz', lcmp_eq0, fs, cw_clear hk, cw_add, c_bc, Nat.zero_add]
end PUB6

