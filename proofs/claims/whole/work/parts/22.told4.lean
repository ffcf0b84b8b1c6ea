/-! what is put by, and brought back; one guest more -/
theorem eX9_packed_0 {d : Nat} {S : zS} {Q : zR → Prop} : zW d MX9_packed 0 S Q = zGo d MX9_packed (.lconst 0) (zv (.long 0)) 1 S Q := zW_step (I := .lconst 0) rfl S Q
theorem eX9_packed_1 {d : Nat} {S : zS} {Q : zR → Prop} : zW d MX9_packed 1 S Q = zGo d MX9_packed (.lstore 1) z0 2 S Q := zW_step (I := .lstore_n 1) rfl S Q
theorem eX9_packed_2 {d : Nat} {S : zS} {Q : zR → Prop} : zW d MX9_packed 2 S Q = zGo d MX9_packed (.iconst 0) (zv (.int 0)) 3 S Q := zW_step (I := .iconst 0) rfl S Q
theorem eX9_packed_3 {d : Nat} {S : zS} {Q : zR → Prop} : zW d MX9_packed 3 S Q = zGo d MX9_packed (.istore 3) z0 4 S Q := zW_step (I := .istore_n 3) rfl S Q
theorem eX9_packed_4 {d : Nat} {S : zS} {Q : zR → Prop} : zW d MX9_packed 4 S Q = zGo d MX9_packed (.iload 3) z0 5 S Q := zW_step (I := .iload_n 3) rfl S Q
theorem eX9_packed_5 {d : Nat} {S : zS} {Q : zR → Prop} : zW d MX9_packed 5 S Q = zGo d MX9_packed (.bipush 7) (zv (.int 7)) 7 S Q := zW_step (I := .bipush 7) rfl S Q
theorem eX9_packed_7 {d : Nat} {S : zS} {Q : zR → Prop} : zW d MX9_packed 7 S Q = zGo d MX9_packed (.if_icmp .ge 21) (zt 28) 10 S Q := zW_step (I := .if_icmp .ge 21) rfl S Q
theorem eX9_packed_10 {d : Nat} {S : zS} {Q : zR → Prop} : zW d MX9_packed 10 S Q = zGo d MX9_packed (.lload 1) z0 11 S Q := zW_step (I := .lload_n 1) rfl S Q
theorem eX9_packed_11 {d : Nat} {S : zS} {Q : zR → Prop} : zW d MX9_packed 11 S Q = zGo d MX9_packed (.aload 0) z0 12 S Q := zW_step (I := .aload_n 0) rfl S Q
theorem eX9_packed_12 {d : Nat} {S : zS} {Q : zR → Prop} : zW d MX9_packed 12 S Q = zGo d MX9_packed (.iload 3) z0 13 S Q := zW_step (I := .iload_n 3) rfl S Q
theorem eX9_packed_13 {d : Nat} {S : zS} {Q : zR → Prop} : zW d MX9_packed 13 S Q = zGo d MX9_packed (.iaload) z0 14 S Q := zW_step (I := .iaload) rfl S Q
theorem eX9_packed_14 {d : Nat} {S : zS} {Q : zR → Prop} : zW d MX9_packed 14 S Q = zGo d MX9_packed (.i2l) z0 15 S Q := zW_step (I := .i2l) rfl S Q
theorem eX9_packed_15 {d : Nat} {S : zS} {Q : zR → Prop} : zW d MX9_packed 15 S Q = zGo d MX9_packed (.bipush 7) (zv (.int 7)) 17 S Q := zW_step (I := .bipush 7) rfl S Q
theorem eX9_packed_17 {d : Nat} {S : zS} {Q : zR → Prop} : zW d MX9_packed 17 S Q = zGo d MX9_packed (.iload 3) z0 18 S Q := zW_step (I := .iload_n 3) rfl S Q
theorem eX9_packed_18 {d : Nat} {S : zS} {Q : zR → Prop} : zW d MX9_packed 18 S Q = zGo d MX9_packed (.imul) z0 19 S Q := zW_step (I := .imul) rfl S Q
theorem eX9_packed_19 {d : Nat} {S : zS} {Q : zR → Prop} : zW d MX9_packed 19 S Q = zGo d MX9_packed (.lshl) z0 20 S Q := zW_step (I := .lshl) rfl S Q
theorem eX9_packed_20 {d : Nat} {S : zS} {Q : zR → Prop} : zW d MX9_packed 20 S Q = zGo d MX9_packed (.lor) z0 21 S Q := zW_step (I := .lor) rfl S Q
theorem eX9_packed_21 {d : Nat} {S : zS} {Q : zR → Prop} : zW d MX9_packed 21 S Q = zGo d MX9_packed (.lstore 1) z0 22 S Q := zW_step (I := .lstore_n 1) rfl S Q
theorem eX9_packed_22 {d : Nat} {S : zS} {Q : zR → Prop} : zW d MX9_packed 22 S Q = zGo d MX9_packed (.iinc 3 1) (zv (.int 1)) 25 S Q := zW_step (I := .iinc 3 1) rfl S Q
theorem eX9_packed_25 {d : Nat} {S : zS} {Q : zR → Prop} : zW d MX9_packed 25 S Q = zGo d MX9_packed (.goto (-21)) (zt 4) 28 S Q := zW_step (I := .goto (-21)) rfl S Q
theorem eX9_packed_28 {d : Nat} {S : zS} {Q : zR → Prop} : zW d MX9_packed 28 S Q = zGo d MX9_packed (.lload 1) z0 29 S Q := zW_step (I := .lload_n 1) rfl S Q
theorem eX9_packed_29 {d : Nat} {S : zS} {Q : zR → Prop} : zW d MX9_packed 29 S Q = zGo d MX9_packed (.lreturn) z0 30 S Q := zW_step (I := .lreturn) rfl S Q
theorem rX9_packed : MX9_packed.2.2.2.2.1 = some .long := rfl
theorem eX9_unpack_0 {d : Nat} {S : zS} {Q : zR → Prop} : zW d MX9_unpack 0 S Q = zGo d MX9_unpack (.iconst 0) (zv (.int 0)) 1 S Q := zW_step (I := .iconst 0) rfl S Q
theorem eX9_unpack_1 {d : Nat} {S : zS} {Q : zR → Prop} : zW d MX9_unpack 1 S Q = zGo d MX9_unpack (.istore 3) z0 2 S Q := zW_step (I := .istore_n 3) rfl S Q
theorem eX9_unpack_2 {d : Nat} {S : zS} {Q : zR → Prop} : zW d MX9_unpack 2 S Q = zGo d MX9_unpack (.iload 3) z0 3 S Q := zW_step (I := .iload_n 3) rfl S Q
theorem eX9_unpack_3 {d : Nat} {S : zS} {Q : zR → Prop} : zW d MX9_unpack 3 S Q = zGo d MX9_unpack (.bipush 7) (zv (.int 7)) 5 S Q := zW_step (I := .bipush 7) rfl S Q
theorem eX9_unpack_5 {d : Nat} {S : zS} {Q : zR → Prop} : zW d MX9_unpack 5 S Q = zGo d MX9_unpack (.if_icmp .ge 22) (zt 27) 8 S Q := zW_step (I := .if_icmp .ge 22) rfl S Q
theorem eX9_unpack_8 {d : Nat} {S : zS} {Q : zR → Prop} : zW d MX9_unpack 8 S Q = zGo d MX9_unpack (.aload 2) z0 9 S Q := zW_step (I := .aload_n 2) rfl S Q
theorem eX9_unpack_9 {d : Nat} {S : zS} {Q : zR → Prop} : zW d MX9_unpack 9 S Q = zGo d MX9_unpack (.iload 3) z0 10 S Q := zW_step (I := .iload_n 3) rfl S Q
theorem eX9_unpack_10 {d : Nat} {S : zS} {Q : zR → Prop} : zW d MX9_unpack 10 S Q = zGo d MX9_unpack (.lload 0) z0 11 S Q := zW_step (I := .lload_n 0) rfl S Q
theorem eX9_unpack_11 {d : Nat} {S : zS} {Q : zR → Prop} : zW d MX9_unpack 11 S Q = zGo d MX9_unpack (.bipush 7) (zv (.int 7)) 13 S Q := zW_step (I := .bipush 7) rfl S Q
theorem eX9_unpack_13 {d : Nat} {S : zS} {Q : zR → Prop} : zW d MX9_unpack 13 S Q = zGo d MX9_unpack (.iload 3) z0 14 S Q := zW_step (I := .iload_n 3) rfl S Q
theorem eX9_unpack_14 {d : Nat} {S : zS} {Q : zR → Prop} : zW d MX9_unpack 14 S Q = zGo d MX9_unpack (.imul) z0 15 S Q := zW_step (I := .imul) rfl S Q
theorem eX9_unpack_15 {d : Nat} {S : zS} {Q : zR → Prop} : zW d MX9_unpack 15 S Q = zGo d MX9_unpack (.lushr) z0 16 S Q := zW_step (I := .lushr) rfl S Q
theorem eX9_unpack_16 {d : Nat} {S : zS} {Q : zR → Prop} : zW d MX9_unpack 16 S Q = zGo d MX9_unpack (.l2i) z0 17 S Q := zW_step (I := .l2i) rfl S Q
theorem eX9_unpack_17 {d : Nat} {S : zS} {Q : zR → Prop} : zW d MX9_unpack 17 S Q = zGo d MX9_unpack (.bipush 127) (zv (.int 127)) 19 S Q := zW_step (I := .bipush 127) rfl S Q
theorem eX9_unpack_19 {d : Nat} {S : zS} {Q : zR → Prop} : zW d MX9_unpack 19 S Q = zGo d MX9_unpack (.iand) z0 20 S Q := zW_step (I := .iand) rfl S Q
theorem eX9_unpack_20 {d : Nat} {S : zS} {Q : zR → Prop} : zW d MX9_unpack 20 S Q = zGo d MX9_unpack (.iastore) z0 21 S Q := zW_step (I := .iastore) rfl S Q
theorem eX9_unpack_21 {d : Nat} {S : zS} {Q : zR → Prop} : zW d MX9_unpack 21 S Q = zGo d MX9_unpack (.iinc 3 1) (zv (.int 1)) 24 S Q := zW_step (I := .iinc 3 1) rfl S Q
theorem eX9_unpack_24 {d : Nat} {S : zS} {Q : zR → Prop} : zW d MX9_unpack 24 S Q = zGo d MX9_unpack (.goto (-22)) (zt 2) 27 S Q := zW_step (I := .goto (-22)) rfl S Q
theorem eX9_unpack_27 {d : Nat} {S : zS} {Q : zR → Prop} : zW d MX9_unpack 27 S Q = zGo d MX9_unpack (.return_) z0 28 S Q := zW_step (I := .return_) rfl S Q
theorem rX9_unpack : MX9_unpack.2.2.2.2.1 = none := rfl
theorem eX9_save_0 {d : Nat} {S : zS} {Q : zR → Prop} : zW d MX9_save 0 S Q = zGo d MX9_save (.aload 1) z0 1 S Q := zW_step (I := .aload_n 1) rfl S Q
theorem eX9_save_1 {d : Nat} {S : zS} {Q : zR → Prop} : zW d MX9_save 1 S Q = zGo d MX9_save (.iconst 3) (zv (.int 3)) 2 S Q := zW_step (I := .iconst 3) rfl S Q
theorem eX9_save_2 {d : Nat} {S : zS} {Q : zR → Prop} : zW d MX9_save 2 S Q = zGo d MX9_save (.iload 2) z0 3 S Q := zW_step (I := .iload_n 2) rfl S Q
theorem eX9_save_3 {d : Nat} {S : zS} {Q : zR → Prop} : zW d MX9_save 3 S Q = zGo d MX9_save (.imul) z0 4 S Q := zW_step (I := .imul) rfl S Q
theorem eX9_save_4 {d : Nat} {S : zS} {Q : zR → Prop} : zW d MX9_save 4 S Q = zGo d MX9_save (.aload 0) z0 5 S Q := zW_step (I := .aload_n 0) rfl S Q
theorem eX9_save_5 {d : Nat} {S : zS} {Q : zR → Prop} : zW d MX9_save 5 S Q = zGo d MX9_save (.getfield 15) (zf 3 9 1) 8 S Q := zW_step (I := .getfield 15) rfl S Q
theorem eX9_save_8 {d : Nat} {S : zS} {Q : zR → Prop} : zW d MX9_save 8 S Q = zGo d MX9_save (.invokestatic 72) (zc 125 1 0) 11 S Q := zW_step (I := .invokestatic 72) rfl S Q
theorem eX9_save_11 {d : Nat} {S : zS} {Q : zR → Prop} : zW d MX9_save 11 S Q = zGo d MX9_save (.lastore) z0 12 S Q := zW_step (I := .lastore) rfl S Q
theorem eX9_save_12 {d : Nat} {S : zS} {Q : zR → Prop} : zW d MX9_save 12 S Q = zGo d MX9_save (.aload 1) z0 13 S Q := zW_step (I := .aload_n 1) rfl S Q
theorem eX9_save_13 {d : Nat} {S : zS} {Q : zR → Prop} : zW d MX9_save 13 S Q = zGo d MX9_save (.iconst 3) (zv (.int 3)) 14 S Q := zW_step (I := .iconst 3) rfl S Q
theorem eX9_save_14 {d : Nat} {S : zS} {Q : zR → Prop} : zW d MX9_save 14 S Q = zGo d MX9_save (.iload 2) z0 15 S Q := zW_step (I := .iload_n 2) rfl S Q
theorem eX9_save_15 {d : Nat} {S : zS} {Q : zR → Prop} : zW d MX9_save 15 S Q = zGo d MX9_save (.imul) z0 16 S Q := zW_step (I := .imul) rfl S Q
theorem eX9_save_16 {d : Nat} {S : zS} {Q : zR → Prop} : zW d MX9_save 16 S Q = zGo d MX9_save (.iconst 1) (zv (.int 1)) 17 S Q := zW_step (I := .iconst 1) rfl S Q
theorem eX9_save_17 {d : Nat} {S : zS} {Q : zR → Prop} : zW d MX9_save 17 S Q = zGo d MX9_save (.iadd) z0 18 S Q := zW_step (I := .iadd) rfl S Q
theorem eX9_save_18 {d : Nat} {S : zS} {Q : zR → Prop} : zW d MX9_save 18 S Q = zGo d MX9_save (.aload 0) z0 19 S Q := zW_step (I := .aload_n 0) rfl S Q
theorem eX9_save_19 {d : Nat} {S : zS} {Q : zR → Prop} : zW d MX9_save 19 S Q = zGo d MX9_save (.getfield 18) (zf 3 9 2) 22 S Q := zW_step (I := .getfield 18) rfl S Q
theorem eX9_save_22 {d : Nat} {S : zS} {Q : zR → Prop} : zW d MX9_save 22 S Q = zGo d MX9_save (.invokestatic 72) (zc 125 1 0) 25 S Q := zW_step (I := .invokestatic 72) rfl S Q
theorem eX9_save_25 {d : Nat} {S : zS} {Q : zR → Prop} : zW d MX9_save 25 S Q = zGo d MX9_save (.lastore) z0 26 S Q := zW_step (I := .lastore) rfl S Q
theorem eX9_save_26 {d : Nat} {S : zS} {Q : zR → Prop} : zW d MX9_save 26 S Q = zGo d MX9_save (.aload 1) z0 27 S Q := zW_step (I := .aload_n 1) rfl S Q
theorem eX9_save_27 {d : Nat} {S : zS} {Q : zR → Prop} : zW d MX9_save 27 S Q = zGo d MX9_save (.iconst 3) (zv (.int 3)) 28 S Q := zW_step (I := .iconst 3) rfl S Q
theorem eX9_save_28 {d : Nat} {S : zS} {Q : zR → Prop} : zW d MX9_save 28 S Q = zGo d MX9_save (.iload 2) z0 29 S Q := zW_step (I := .iload_n 2) rfl S Q
theorem eX9_save_29 {d : Nat} {S : zS} {Q : zR → Prop} : zW d MX9_save 29 S Q = zGo d MX9_save (.imul) z0 30 S Q := zW_step (I := .imul) rfl S Q
theorem eX9_save_30 {d : Nat} {S : zS} {Q : zR → Prop} : zW d MX9_save 30 S Q = zGo d MX9_save (.iconst 2) (zv (.int 2)) 31 S Q := zW_step (I := .iconst 2) rfl S Q
theorem eX9_save_31 {d : Nat} {S : zS} {Q : zR → Prop} : zW d MX9_save 31 S Q = zGo d MX9_save (.iadd) z0 32 S Q := zW_step (I := .iadd) rfl S Q
theorem eX9_save_32 {d : Nat} {S : zS} {Q : zR → Prop} : zW d MX9_save 32 S Q = zGo d MX9_save (.aload 0) z0 33 S Q := zW_step (I := .aload_n 0) rfl S Q
theorem eX9_save_33 {d : Nat} {S : zS} {Q : zR → Prop} : zW d MX9_save 33 S Q = zGo d MX9_save (.getfield 9) (zf 3 9 0) 36 S Q := zW_step (I := .getfield 9) rfl S Q
theorem eX9_save_36 {d : Nat} {S : zS} {Q : zR → Prop} : zW d MX9_save 36 S Q = zGo d MX9_save (.invokestatic 72) (zc 125 1 0) 39 S Q := zW_step (I := .invokestatic 72) rfl S Q
theorem eX9_save_39 {d : Nat} {S : zS} {Q : zR → Prop} : zW d MX9_save 39 S Q = zGo d MX9_save (.iconst 1) (zv (.int 1)) 40 S Q := zW_step (I := .iconst 1) rfl S Q
theorem eX9_save_40 {d : Nat} {S : zS} {Q : zR → Prop} : zW d MX9_save 40 S Q = zGo d MX9_save (.lshl) z0 41 S Q := zW_step (I := .lshl) rfl S Q
theorem eX9_save_41 {d : Nat} {S : zS} {Q : zR → Prop} : zW d MX9_save 41 S Q = zGo d MX9_save (.aload 0) z0 42 S Q := zW_step (I := .aload_n 0) rfl S Q
theorem eX9_save_42 {d : Nat} {S : zS} {Q : zR → Prop} : zW d MX9_save 42 S Q = zGo d MX9_save (.getfield 57) (zf 2 9 4) 45 S Q := zW_step (I := .getfield 57) rfl S Q
theorem eX9_save_45 {d : Nat} {S : zS} {Q : zR → Prop} : zW d MX9_save 45 S Q = zGo d MX9_save (.ifCond .eq 7) (zt 52) 48 S Q := zW_step (I := .ifCond .eq 7) rfl S Q
theorem eX9_save_48 {d : Nat} {S : zS} {Q : zR → Prop} : zW d MX9_save 48 S Q = zGo d MX9_save (.iconst 1) (zv (.int 1)) 49 S Q := zW_step (I := .iconst 1) rfl S Q
theorem eX9_save_49 {d : Nat} {S : zS} {Q : zR → Prop} : zW d MX9_save 49 S Q = zGo d MX9_save (.goto 4) (zt 53) 52 S Q := zW_step (I := .goto 4) rfl S Q
theorem eX9_save_52 {d : Nat} {S : zS} {Q : zR → Prop} : zW d MX9_save 52 S Q = zGo d MX9_save (.iconst 0) (zv (.int 0)) 53 S Q := zW_step (I := .iconst 0) rfl S Q
theorem eX9_save_53 {d : Nat} {S : zS} {Q : zR → Prop} : zW d MX9_save 53 S Q = zGo d MX9_save (.i2l) z0 54 S Q := zW_step (I := .i2l) rfl S Q
theorem eX9_save_54 {d : Nat} {S : zS} {Q : zR → Prop} : zW d MX9_save 54 S Q = zGo d MX9_save (.lor) z0 55 S Q := zW_step (I := .lor) rfl S Q
theorem eX9_save_55 {d : Nat} {S : zS} {Q : zR → Prop} : zW d MX9_save 55 S Q = zGo d MX9_save (.lastore) z0 56 S Q := zW_step (I := .lastore) rfl S Q
theorem eX9_save_56 {d : Nat} {S : zS} {Q : zR → Prop} : zW d MX9_save 56 S Q = zGo d MX9_save (.return_) z0 57 S Q := zW_step (I := .return_) rfl S Q
theorem rX9_save : MX9_save.2.2.2.2.1 = none := rfl
theorem eX9_load_0 {d : Nat} {S : zS} {Q : zR → Prop} : zW d MX9_load 0 S Q = zGo d MX9_load (.aload 1) z0 1 S Q := zW_step (I := .aload_n 1) rfl S Q
theorem eX9_load_1 {d : Nat} {S : zS} {Q : zR → Prop} : zW d MX9_load 1 S Q = zGo d MX9_load (.iconst 3) (zv (.int 3)) 2 S Q := zW_step (I := .iconst 3) rfl S Q
theorem eX9_load_2 {d : Nat} {S : zS} {Q : zR → Prop} : zW d MX9_load 2 S Q = zGo d MX9_load (.iload 2) z0 3 S Q := zW_step (I := .iload_n 2) rfl S Q
theorem eX9_load_3 {d : Nat} {S : zS} {Q : zR → Prop} : zW d MX9_load 3 S Q = zGo d MX9_load (.imul) z0 4 S Q := zW_step (I := .imul) rfl S Q
theorem eX9_load_4 {d : Nat} {S : zS} {Q : zR → Prop} : zW d MX9_load 4 S Q = zGo d MX9_load (.laload) z0 5 S Q := zW_step (I := .laload) rfl S Q
theorem eX9_load_5 {d : Nat} {S : zS} {Q : zR → Prop} : zW d MX9_load 5 S Q = zGo d MX9_load (.aload 0) z0 6 S Q := zW_step (I := .aload_n 0) rfl S Q
theorem eX9_load_6 {d : Nat} {S : zS} {Q : zR → Prop} : zW d MX9_load 6 S Q = zGo d MX9_load (.getfield 15) (zf 3 9 1) 9 S Q := zW_step (I := .getfield 15) rfl S Q
theorem eX9_load_9 {d : Nat} {S : zS} {Q : zR → Prop} : zW d MX9_load 9 S Q = zGo d MX9_load (.invokestatic 76) (zc 126 2 0) 12 S Q := zW_step (I := .invokestatic 76) rfl S Q
theorem eX9_load_12 {d : Nat} {S : zS} {Q : zR → Prop} : zW d MX9_load 12 S Q = zGo d MX9_load (.aload 1) z0 13 S Q := zW_step (I := .aload_n 1) rfl S Q
theorem eX9_load_13 {d : Nat} {S : zS} {Q : zR → Prop} : zW d MX9_load 13 S Q = zGo d MX9_load (.iconst 3) (zv (.int 3)) 14 S Q := zW_step (I := .iconst 3) rfl S Q
theorem eX9_load_14 {d : Nat} {S : zS} {Q : zR → Prop} : zW d MX9_load 14 S Q = zGo d MX9_load (.iload 2) z0 15 S Q := zW_step (I := .iload_n 2) rfl S Q
theorem eX9_load_15 {d : Nat} {S : zS} {Q : zR → Prop} : zW d MX9_load 15 S Q = zGo d MX9_load (.imul) z0 16 S Q := zW_step (I := .imul) rfl S Q
theorem eX9_load_16 {d : Nat} {S : zS} {Q : zR → Prop} : zW d MX9_load 16 S Q = zGo d MX9_load (.iconst 1) (zv (.int 1)) 17 S Q := zW_step (I := .iconst 1) rfl S Q
theorem eX9_load_17 {d : Nat} {S : zS} {Q : zR → Prop} : zW d MX9_load 17 S Q = zGo d MX9_load (.iadd) z0 18 S Q := zW_step (I := .iadd) rfl S Q
theorem eX9_load_18 {d : Nat} {S : zS} {Q : zR → Prop} : zW d MX9_load 18 S Q = zGo d MX9_load (.laload) z0 19 S Q := zW_step (I := .laload) rfl S Q
theorem eX9_load_19 {d : Nat} {S : zS} {Q : zR → Prop} : zW d MX9_load 19 S Q = zGo d MX9_load (.aload 0) z0 20 S Q := zW_step (I := .aload_n 0) rfl S Q
theorem eX9_load_20 {d : Nat} {S : zS} {Q : zR → Prop} : zW d MX9_load 20 S Q = zGo d MX9_load (.getfield 18) (zf 3 9 2) 23 S Q := zW_step (I := .getfield 18) rfl S Q
theorem eX9_load_23 {d : Nat} {S : zS} {Q : zR → Prop} : zW d MX9_load 23 S Q = zGo d MX9_load (.invokestatic 76) (zc 126 2 0) 26 S Q := zW_step (I := .invokestatic 76) rfl S Q
theorem eX9_load_26 {d : Nat} {S : zS} {Q : zR → Prop} : zW d MX9_load 26 S Q = zGo d MX9_load (.aload 1) z0 27 S Q := zW_step (I := .aload_n 1) rfl S Q
theorem eX9_load_27 {d : Nat} {S : zS} {Q : zR → Prop} : zW d MX9_load 27 S Q = zGo d MX9_load (.iconst 3) (zv (.int 3)) 28 S Q := zW_step (I := .iconst 3) rfl S Q
theorem eX9_load_28 {d : Nat} {S : zS} {Q : zR → Prop} : zW d MX9_load 28 S Q = zGo d MX9_load (.iload 2) z0 29 S Q := zW_step (I := .iload_n 2) rfl S Q
theorem eX9_load_29 {d : Nat} {S : zS} {Q : zR → Prop} : zW d MX9_load 29 S Q = zGo d MX9_load (.imul) z0 30 S Q := zW_step (I := .imul) rfl S Q
theorem eX9_load_30 {d : Nat} {S : zS} {Q : zR → Prop} : zW d MX9_load 30 S Q = zGo d MX9_load (.iconst 2) (zv (.int 2)) 31 S Q := zW_step (I := .iconst 2) rfl S Q
theorem eX9_load_31 {d : Nat} {S : zS} {Q : zR → Prop} : zW d MX9_load 31 S Q = zGo d MX9_load (.iadd) z0 32 S Q := zW_step (I := .iadd) rfl S Q
theorem eX9_load_32 {d : Nat} {S : zS} {Q : zR → Prop} : zW d MX9_load 32 S Q = zGo d MX9_load (.laload) z0 33 S Q := zW_step (I := .laload) rfl S Q
theorem eX9_load_33 {d : Nat} {S : zS} {Q : zR → Prop} : zW d MX9_load 33 S Q = zGo d MX9_load (.iconst 1) (zv (.int 1)) 34 S Q := zW_step (I := .iconst 1) rfl S Q
theorem eX9_load_34 {d : Nat} {S : zS} {Q : zR → Prop} : zW d MX9_load 34 S Q = zGo d MX9_load (.lushr) z0 35 S Q := zW_step (I := .lushr) rfl S Q
theorem eX9_load_35 {d : Nat} {S : zS} {Q : zR → Prop} : zW d MX9_load 35 S Q = zGo d MX9_load (.aload 0) z0 36 S Q := zW_step (I := .aload_n 0) rfl S Q
theorem eX9_load_36 {d : Nat} {S : zS} {Q : zR → Prop} : zW d MX9_load 36 S Q = zGo d MX9_load (.getfield 9) (zf 3 9 0) 39 S Q := zW_step (I := .getfield 9) rfl S Q
theorem eX9_load_39 {d : Nat} {S : zS} {Q : zR → Prop} : zW d MX9_load 39 S Q = zGo d MX9_load (.invokestatic 76) (zc 126 2 0) 42 S Q := zW_step (I := .invokestatic 76) rfl S Q
theorem eX9_load_42 {d : Nat} {S : zS} {Q : zR → Prop} : zW d MX9_load 42 S Q = zGo d MX9_load (.aload 0) z0 43 S Q := zW_step (I := .aload_n 0) rfl S Q
theorem eX9_load_43 {d : Nat} {S : zS} {Q : zR → Prop} : zW d MX9_load 43 S Q = zGo d MX9_load (.aload 1) z0 44 S Q := zW_step (I := .aload_n 1) rfl S Q
theorem eX9_load_44 {d : Nat} {S : zS} {Q : zR → Prop} : zW d MX9_load 44 S Q = zGo d MX9_load (.iconst 3) (zv (.int 3)) 45 S Q := zW_step (I := .iconst 3) rfl S Q
theorem eX9_load_45 {d : Nat} {S : zS} {Q : zR → Prop} : zW d MX9_load 45 S Q = zGo d MX9_load (.iload 2) z0 46 S Q := zW_step (I := .iload_n 2) rfl S Q
theorem eX9_load_46 {d : Nat} {S : zS} {Q : zR → Prop} : zW d MX9_load 46 S Q = zGo d MX9_load (.imul) z0 47 S Q := zW_step (I := .imul) rfl S Q
theorem eX9_load_47 {d : Nat} {S : zS} {Q : zR → Prop} : zW d MX9_load 47 S Q = zGo d MX9_load (.iconst 2) (zv (.int 2)) 48 S Q := zW_step (I := .iconst 2) rfl S Q
theorem eX9_load_48 {d : Nat} {S : zS} {Q : zR → Prop} : zW d MX9_load 48 S Q = zGo d MX9_load (.iadd) z0 49 S Q := zW_step (I := .iadd) rfl S Q
theorem eX9_load_49 {d : Nat} {S : zS} {Q : zR → Prop} : zW d MX9_load 49 S Q = zGo d MX9_load (.laload) z0 50 S Q := zW_step (I := .laload) rfl S Q
theorem eX9_load_50 {d : Nat} {S : zS} {Q : zR → Prop} : zW d MX9_load 50 S Q = zGo d MX9_load (.lconst 1) (zv (.long 1)) 51 S Q := zW_step (I := .lconst 1) rfl S Q
theorem eX9_load_51 {d : Nat} {S : zS} {Q : zR → Prop} : zW d MX9_load 51 S Q = zGo d MX9_load (.land) z0 52 S Q := zW_step (I := .land) rfl S Q
theorem eX9_load_52 {d : Nat} {S : zS} {Q : zR → Prop} : zW d MX9_load 52 S Q = zGo d MX9_load (.lconst 1) (zv (.long 1)) 53 S Q := zW_step (I := .lconst 1) rfl S Q
theorem eX9_load_53 {d : Nat} {S : zS} {Q : zR → Prop} : zW d MX9_load 53 S Q = zGo d MX9_load (.lcmp) z0 54 S Q := zW_step (I := .lcmp) rfl S Q
theorem eX9_load_54 {d : Nat} {S : zS} {Q : zR → Prop} : zW d MX9_load 54 S Q = zGo d MX9_load (.ifCond .ne 7) (zt 61) 57 S Q := zW_step (I := .ifCond .ne 7) rfl S Q
theorem eX9_load_57 {d : Nat} {S : zS} {Q : zR → Prop} : zW d MX9_load 57 S Q = zGo d MX9_load (.iconst 1) (zv (.int 1)) 58 S Q := zW_step (I := .iconst 1) rfl S Q
theorem eX9_load_58 {d : Nat} {S : zS} {Q : zR → Prop} : zW d MX9_load 58 S Q = zGo d MX9_load (.goto 4) (zt 62) 61 S Q := zW_step (I := .goto 4) rfl S Q
theorem eX9_load_61 {d : Nat} {S : zS} {Q : zR → Prop} : zW d MX9_load 61 S Q = zGo d MX9_load (.iconst 0) (zv (.int 0)) 62 S Q := zW_step (I := .iconst 0) rfl S Q
theorem eX9_load_62 {d : Nat} {S : zS} {Q : zR → Prop} : zW d MX9_load 62 S Q = zGo d MX9_load (.putfield 57) (zf 2 9 4) 65 S Q := zW_step (I := .putfield 57) rfl S Q
theorem eX9_load_65 {d : Nat} {S : zS} {Q : zR → Prop} : zW d MX9_load 65 S Q = zGo d MX9_load (.aload 0) z0 66 S Q := zW_step (I := .aload_n 0) rfl S Q
theorem eX9_load_66 {d : Nat} {S : zS} {Q : zR → Prop} : zW d MX9_load 66 S Q = zGo d MX9_load (.dup) z0 67 S Q := zW_step (I := .dup) rfl S Q
theorem eX9_load_67 {d : Nat} {S : zS} {Q : zR → Prop} : zW d MX9_load 67 S Q = zGo d MX9_load (.getfield 29) (zf 0 9 5) 70 S Q := zW_step (I := .getfield 29) rfl S Q
theorem eX9_load_70 {d : Nat} {S : zS} {Q : zR → Prop} : zW d MX9_load 70 S Q = zGo d MX9_load (.iconst 1) (zv (.int 1)) 71 S Q := zW_step (I := .iconst 1) rfl S Q
theorem eX9_load_71 {d : Nat} {S : zS} {Q : zR → Prop} : zW d MX9_load 71 S Q = zGo d MX9_load (.iadd) z0 72 S Q := zW_step (I := .iadd) rfl S Q
theorem eX9_load_72 {d : Nat} {S : zS} {Q : zR → Prop} : zW d MX9_load 72 S Q = zGo d MX9_load (.putfield 29) (zf 0 9 5) 75 S Q := zW_step (I := .putfield 29) rfl S Q
theorem eX9_load_75 {d : Nat} {S : zS} {Q : zR → Prop} : zW d MX9_load 75 S Q = zGo d MX9_load (.return_) z0 76 S Q := zW_step (I := .return_) rfl S Q
theorem rX9_load : MX9_load.2.2.2.2.1 = none := rfl
theorem eX9_add_0 {d : Nat} {S : zS} {Q : zR → Prop} : zW d MX9_add 0 S Q = zGo d MX9_add (.aload 0) z0 1 S Q := zW_step (I := .aload_n 0) rfl S Q
theorem eX9_add_1 {d : Nat} {S : zS} {Q : zR → Prop} : zW d MX9_add 1 S Q = zGo d MX9_add (.getfield 21) (zf 0 9 3) 4 S Q := zW_step (I := .getfield 21) rfl S Q
theorem eX9_add_4 {d : Nat} {S : zS} {Q : zR → Prop} : zW d MX9_add 4 S Q = zGo d MX9_add (.bipush 7) (zv (.int 7)) 6 S Q := zW_step (I := .bipush 7) rfl S Q
theorem eX9_add_6 {d : Nat} {S : zS} {Q : zR → Prop} : zW d MX9_add 6 S Q = zGo d MX9_add (.if_icmp .ge 53) (zt 59) 9 S Q := zW_step (I := .if_icmp .ge 53) rfl S Q
theorem eX9_add_9 {d : Nat} {S : zS} {Q : zR → Prop} : zW d MX9_add 9 S Q = zGo d MX9_add (.aload 0) z0 10 S Q := zW_step (I := .aload_n 0) rfl S Q
theorem eX9_add_10 {d : Nat} {S : zS} {Q : zR → Prop} : zW d MX9_add 10 S Q = zGo d MX9_add (.getfield 9) (zf 3 9 0) 13 S Q := zW_step (I := .getfield 9) rfl S Q
theorem eX9_add_13 {d : Nat} {S : zS} {Q : zR → Prop} : zW d MX9_add 13 S Q = zGo d MX9_add (.aload 0) z0 14 S Q := zW_step (I := .aload_n 0) rfl S Q
theorem eX9_add_14 {d : Nat} {S : zS} {Q : zR → Prop} : zW d MX9_add 14 S Q = zGo d MX9_add (.getfield 21) (zf 0 9 3) 17 S Q := zW_step (I := .getfield 21) rfl S Q
theorem eX9_add_17 {d : Nat} {S : zS} {Q : zR → Prop} : zW d MX9_add 17 S Q = zGo d MX9_add (.iload 1) z0 18 S Q := zW_step (I := .iload_n 1) rfl S Q
theorem eX9_add_18 {d : Nat} {S : zS} {Q : zR → Prop} : zW d MX9_add 18 S Q = zGo d MX9_add (.iastore) z0 19 S Q := zW_step (I := .iastore) rfl S Q
theorem eX9_add_19 {d : Nat} {S : zS} {Q : zR → Prop} : zW d MX9_add 19 S Q = zGo d MX9_add (.aload 0) z0 20 S Q := zW_step (I := .aload_n 0) rfl S Q
theorem eX9_add_20 {d : Nat} {S : zS} {Q : zR → Prop} : zW d MX9_add 20 S Q = zGo d MX9_add (.getfield 15) (zf 3 9 1) 23 S Q := zW_step (I := .getfield 15) rfl S Q
theorem eX9_add_23 {d : Nat} {S : zS} {Q : zR → Prop} : zW d MX9_add 23 S Q = zGo d MX9_add (.aload 0) z0 24 S Q := zW_step (I := .aload_n 0) rfl S Q
theorem eX9_add_24 {d : Nat} {S : zS} {Q : zR → Prop} : zW d MX9_add 24 S Q = zGo d MX9_add (.getfield 21) (zf 0 9 3) 27 S Q := zW_step (I := .getfield 21) rfl S Q
theorem eX9_add_27 {d : Nat} {S : zS} {Q : zR → Prop} : zW d MX9_add 27 S Q = zGo d MX9_add (.iconst 0) (zv (.int 0)) 28 S Q := zW_step (I := .iconst 0) rfl S Q
theorem eX9_add_28 {d : Nat} {S : zS} {Q : zR → Prop} : zW d MX9_add 28 S Q = zGo d MX9_add (.iastore) z0 29 S Q := zW_step (I := .iastore) rfl S Q
theorem eX9_add_29 {d : Nat} {S : zS} {Q : zR → Prop} : zW d MX9_add 29 S Q = zGo d MX9_add (.aload 0) z0 30 S Q := zW_step (I := .aload_n 0) rfl S Q
theorem eX9_add_30 {d : Nat} {S : zS} {Q : zR → Prop} : zW d MX9_add 30 S Q = zGo d MX9_add (.getfield 18) (zf 3 9 2) 33 S Q := zW_step (I := .getfield 18) rfl S Q
theorem eX9_add_33 {d : Nat} {S : zS} {Q : zR → Prop} : zW d MX9_add 33 S Q = zGo d MX9_add (.aload 0) z0 34 S Q := zW_step (I := .aload_n 0) rfl S Q
theorem eX9_add_34 {d : Nat} {S : zS} {Q : zR → Prop} : zW d MX9_add 34 S Q = zGo d MX9_add (.getfield 21) (zf 0 9 3) 37 S Q := zW_step (I := .getfield 21) rfl S Q
theorem eX9_add_37 {d : Nat} {S : zS} {Q : zR → Prop} : zW d MX9_add 37 S Q = zGo d MX9_add (.iconst 0) (zv (.int 0)) 38 S Q := zW_step (I := .iconst 0) rfl S Q
theorem eX9_add_38 {d : Nat} {S : zS} {Q : zR → Prop} : zW d MX9_add 38 S Q = zGo d MX9_add (.iastore) z0 39 S Q := zW_step (I := .iastore) rfl S Q
theorem eX9_add_39 {d : Nat} {S : zS} {Q : zR → Prop} : zW d MX9_add 39 S Q = zGo d MX9_add (.aload 0) z0 40 S Q := zW_step (I := .aload_n 0) rfl S Q
theorem eX9_add_40 {d : Nat} {S : zS} {Q : zR → Prop} : zW d MX9_add 40 S Q = zGo d MX9_add (.dup) z0 41 S Q := zW_step (I := .dup) rfl S Q
theorem eX9_add_41 {d : Nat} {S : zS} {Q : zR → Prop} : zW d MX9_add 41 S Q = zGo d MX9_add (.getfield 21) (zf 0 9 3) 44 S Q := zW_step (I := .getfield 21) rfl S Q
theorem eX9_add_44 {d : Nat} {S : zS} {Q : zR → Prop} : zW d MX9_add 44 S Q = zGo d MX9_add (.iconst 1) (zv (.int 1)) 45 S Q := zW_step (I := .iconst 1) rfl S Q
theorem eX9_add_45 {d : Nat} {S : zS} {Q : zR → Prop} : zW d MX9_add 45 S Q = zGo d MX9_add (.iadd) z0 46 S Q := zW_step (I := .iadd) rfl S Q
theorem eX9_add_46 {d : Nat} {S : zS} {Q : zR → Prop} : zW d MX9_add 46 S Q = zGo d MX9_add (.putfield 21) (zf 0 9 3) 49 S Q := zW_step (I := .putfield 21) rfl S Q
theorem eX9_add_49 {d : Nat} {S : zS} {Q : zR → Prop} : zW d MX9_add 49 S Q = zGo d MX9_add (.aload 0) z0 50 S Q := zW_step (I := .aload_n 0) rfl S Q
theorem eX9_add_50 {d : Nat} {S : zS} {Q : zR → Prop} : zW d MX9_add 50 S Q = zGo d MX9_add (.dup) z0 51 S Q := zW_step (I := .dup) rfl S Q
theorem eX9_add_51 {d : Nat} {S : zS} {Q : zR → Prop} : zW d MX9_add 51 S Q = zGo d MX9_add (.getfield 29) (zf 0 9 5) 54 S Q := zW_step (I := .getfield 29) rfl S Q
theorem eX9_add_54 {d : Nat} {S : zS} {Q : zR → Prop} : zW d MX9_add 54 S Q = zGo d MX9_add (.iconst 1) (zv (.int 1)) 55 S Q := zW_step (I := .iconst 1) rfl S Q
theorem eX9_add_55 {d : Nat} {S : zS} {Q : zR → Prop} : zW d MX9_add 55 S Q = zGo d MX9_add (.iadd) z0 56 S Q := zW_step (I := .iadd) rfl S Q
theorem eX9_add_56 {d : Nat} {S : zS} {Q : zR → Prop} : zW d MX9_add 56 S Q = zGo d MX9_add (.putfield 29) (zf 0 9 5) 59 S Q := zW_step (I := .putfield 29) rfl S Q
theorem eX9_add_59 {d : Nat} {S : zS} {Q : zR → Prop} : zW d MX9_add 59 S Q = zGo d MX9_add (.return_) z0 60 S Q := zW_step (I := .return_) rfl S Q
theorem rX9_add : MX9_add.2.2.2.2.1 = none := rfl
def pk7 (f : Nat → Nat) : Nat → Nat
  | 0 => 0
  | k + 1 => pk7 f k + f k * 2 ^ (7 * k)
theorem pk7_lt {f : Nat → Nat} (hf : ∀ i, f i < 128) : ∀ k, pk7 f k < 2 ^ (7 * k) := by
  intro k
  induction k with
  | zero => exact (by decide : 0 < 2 ^ 0)
  | succ k ih =>
    have h1 : f k * 2 ^ (7 * k) ≤ 127 * 2 ^ (7 * k) := Nat.mul_le_mul_right _ (by have := hf k; omega)
    have h2 : 2 ^ (7 * (k + 1)) = 128 * 2 ^ (7 * k) := by rw [show 7 * (k + 1) = 7 + 7 * k by omega, Nat.pow_add]
    unfold pk7
    omega
theorem pk7_at {f : Nat → Nat} (hf : ∀ i, f i < 128) : ∀ k i, i < k → pk7 f k / 2 ^ (7 * i) % 128 = f i := by
  intro k
  induction k with
  | zero => intro i h; omega
  | succ k ih =>
    intro i hi
    unfold pk7
    by_cases e : i = k
    · subst e
      rw [Nat.add_mul_div_right _ _ (Nat.two_pow_pos _), Nat.div_eq_of_lt (pk7_lt hf i), Nat.zero_add, Nat.mod_eq_of_lt (hf i)]
    · have hlt : i < k := by omega
      have e2 : f k * 2 ^ (7 * k) = (f k * 2 ^ (7 * (k - 1 - i)) * 128) * 2 ^ (7 * i) := by
        rw [Nat.mul_assoc, Nat.mul_assoc, show (128 : Nat) = 2 ^ 7 from rfl, ← Nat.pow_add, ← Nat.pow_add]
        congr 2
        omega
      rw [e2, Nat.add_mul_div_right _ _ (Nat.two_pow_pos _), Nat.add_mul_mod_self_right]
      exact ih i hlt
theorem pk7_or {f : Nat → Nat} (hf : ∀ i, f i < 128) (k : Nat) : lN (pk7 f k) ||| lN (f k * 2 ^ (7 * k)) = lN (pk7 f (k + 1)) := by
  rw [Int64.or_comm, Nat.mul_comm, fb_or_sumL (f k) (pk7_lt hf k), show pk7 f (k + 1) = pk7 f k + f k * 2 ^ (7 * k) from rfl, Nat.mul_comm, Nat.add_comm]
theorem q_7k (k : Nat) : (7 : Int32) * nI k = nI (7 * k) := pk_mul 7 k
theorem q_3k (k : Nat) : (3 : Int32) * nI k = nI (3 * k) := pk_mul 3 k
theorem q_127 (x : Nat) : nI x &&& 127 = nI (x % 128) := fa_mask x 7
theorem nI_lt7 {o : Nat} (h : o < 7) : nI o < 7 := nI_lt (b := 7) h (by decide)
theorem nI_77 : ¬ nI 7 < 7 := by decide
theorem z_up_up {α : Type} (h : Nat → α) (a : Nat) (e e' : α) : z_up (z_up h a e) a e' = z_up h a e' := by
  funext k
  unfold z_up
  split <;> rfl
section TOLD4
variable {h : Nat → zE} {a b n : Nat} {rm mt nt : Nat → Nat} {fm : Bool} {vr : Int32} {d : Nat} {u : zU} {H : zH} {Q : zR → Prop}
theorem w_packed {f : Nat → Nat} (ha : a < 1000) (hf : h a = zI 0 7 (fun i => nI (f i))) (hl : ∀ i, f i < 128) : ∀ k o, 7 - o = k → o ≤ 7 → zW d MX9_packed 4 ([.ref a, .long (lN (pk7 f o)), .null, .int (nI o)], [], (h, u)) (fun q => q = (some (.long (lN (pk7 f 7))), (h, u))) := by
  intro k
  induction k with
  | zero =>
    intro o ho hle
    have e : o = 7 := by omega
    subst e
    rw [eX9_packed_4]
    simp only [eX9_packed_0, eX9_packed_1, eX9_packed_2, eX9_packed_3, eX9_packed_5, eX9_packed_7, eX9_packed_10, eX9_packed_11, eX9_packed_12, eX9_packed_13, eX9_packed_14, eX9_packed_15, eX9_packed_17, eX9_packed_18, eX9_packed_19, eX9_packed_20, eX9_packed_21, eX9_packed_22, eX9_packed_25, eX9_packed_28, eX9_packed_29, rX9_packed, zg_aload, zg_bipush, zg_goto, zg_i2l, zg_iaload, zg_icmp, zg_iconst, zg_iinc, zg_iload, zg_imul, zg_istore, zg_lconst, zg_lload, zg_lor, zg_lreturn, zg_lshl, zg_lstore, q10, q01, q00, ite_self, zLd_i, zLd_l, zLd_a, zInc_i, zGet_o, zGet2_s, zPut_o, zAld_i, zAll_j, zAst_i, zAsl_j, zLen_i, zLen_j, zRt_i, zRt_z, zRl2_l, zRv_n, List.getElem?_cons_zero, List.getElem?_cons_succ, List.length_cons, List.length_nil, z_set, z_set2, z_cut, List.set_cons_zero, List.set_cons_succ, Option.toList_some, Option.toList_none, List.cons_append, List.nil_append, zif, zW_ite, zfit_0, zfit_1, zfit_2, zfit_3, zisc_o, zRt_c, zRt_b, List.map_cons, List.map_nil, List.sum_cons, List.sum_nil, true_and, and_true, if_true, if_false, ite_true, ite_false, Nat.reduceLT, Nat.reduceLeDiff, Nat.reduceAdd, Nat.reduceEqDiff, eq_self, not_true_eq_false, not_false_eq_true, Nat.lt_irrefl, or_true, true_or, or_false, false_or, z_cell_lt, Value.category, nI_77]
  | succ k ih =>
    intro o ho hle
    have ho7 : o < 7 := by omega
    have fo := hl o
    rw [eX9_packed_4]
    simp only [eX9_packed_0, eX9_packed_1, eX9_packed_2, eX9_packed_3, eX9_packed_5, eX9_packed_7, eX9_packed_10, eX9_packed_11, eX9_packed_12, eX9_packed_13, eX9_packed_14, eX9_packed_15, eX9_packed_17, eX9_packed_18, eX9_packed_19, eX9_packed_20, eX9_packed_21, eX9_packed_22, eX9_packed_25, eX9_packed_28, eX9_packed_29, rX9_packed, zg_aload, zg_bipush, zg_goto, zg_i2l, zg_iaload, zg_icmp, zg_iconst, zg_iinc, zg_iload, zg_imul, zg_istore, zg_lconst, zg_lload, zg_lor, zg_lreturn, zg_lshl, zg_lstore, q10, q01, q00, ite_self, zLd_i, zLd_l, zLd_a, zInc_i, zGet_o, zGet2_s, zPut_o, zAld_i, zAll_j, zAst_i, zAsl_j, zLen_i, zLen_j, zRt_i, zRt_z, zRl2_l, zRv_n, List.getElem?_cons_zero, List.getElem?_cons_succ, List.length_cons, List.length_nil, z_set, z_set2, z_cut, List.set_cons_zero, List.set_cons_succ, Option.toList_some, Option.toList_none, List.cons_append, List.nil_append, zif, zW_ite, zfit_0, zfit_1, zfit_2, zfit_3, zisc_o, zRt_c, zRt_b, List.map_cons, List.map_nil, List.sum_cons, List.sum_nil, true_and, and_true, if_true, if_false, ite_true, ite_false, Nat.reduceLT, Nat.reduceLeDiff, Nat.reduceAdd, Nat.reduceEqDiff, eq_self, not_true_eq_false, not_false_eq_true, Nat.lt_irrefl, or_true, true_or, or_false, false_or, z_cell_lt, Value.category, hf, ha, nI_lt7 ho7, nI_7 ho7, nI_c ho7, q_7k, nI_l (show f o < 2 ^ 31 by omega), wb_shl _ (show 7 * o < 64 by omega), pk7_or hl, nI_1]
    exact ih (o + 1) (by omega) (by omega)
theorem c_packed {f : Nat → Nat} (ha : a < 1000) (hf : h a = zI 0 7 (fun i => nI (f i))) (hl : ∀ i, f i < 128) : zK (d + 1) 125 [.ref a] (h, u) Q = Q (some (.long (lN (pk7 f 7))), (h, u)) := by
  refine zK_of (k := 1) (by omega) ?_
  refine zK_in (M := MX9_packed) rfl (Nat.le_of_ble_eq_true rfl) ?_
  show zW 0 MX9_packed 0 ([.ref a, .null, .null, .null], [], (h, u)) _
  simp only [eX9_packed_0, eX9_packed_1, eX9_packed_2, eX9_packed_3, eX9_packed_5, eX9_packed_7, eX9_packed_10, eX9_packed_11, eX9_packed_12, eX9_packed_13, eX9_packed_14, eX9_packed_15, eX9_packed_17, eX9_packed_18, eX9_packed_19, eX9_packed_20, eX9_packed_21, eX9_packed_22, eX9_packed_25, eX9_packed_28, eX9_packed_29, rX9_packed, zg_aload, zg_bipush, zg_goto, zg_i2l, zg_iaload, zg_icmp, zg_iconst, zg_iinc, zg_iload, zg_imul, zg_istore, zg_lconst, zg_lload, zg_lor, zg_lreturn, zg_lshl, zg_lstore, q10, q01, q00, ite_self, zLd_i, zLd_l, zLd_a, zInc_i, zGet_o, zGet2_s, zPut_o, zAld_i, zAll_j, zAst_i, zAsl_j, zLen_i, zLen_j, zRt_i, zRt_z, zRl2_l, zRv_n, List.getElem?_cons_zero, List.getElem?_cons_succ, List.length_cons, List.length_nil, z_set, z_set2, z_cut, List.set_cons_zero, List.set_cons_succ, Option.toList_some, Option.toList_none, List.cons_append, List.nil_append, zif, zW_ite, zfit_0, zfit_1, zfit_2, zfit_3, zisc_o, zRt_c, zRt_b, List.map_cons, List.map_nil, List.sum_cons, List.sum_nil, true_and, and_true, if_true, if_false, ite_true, ite_false, Nat.reduceLT, Nat.reduceLeDiff, Nat.reduceAdd, Nat.reduceEqDiff, eq_self, not_true_eq_false, not_false_eq_true, Nat.lt_irrefl, or_true, true_or, or_false, false_or, z_cell_lt, Value.category]
  exact w_packed ha hf hl 7 0 (by omega) (by omega)
/-- the first o numbers out of a packed one, the others as they were -/
def unp (X : Nat) (f : Nat → Nat) (o : Nat) : Nat → Nat := fun i => if i < o then X / 2 ^ (7 * i) % 128 else f i
theorem unp_up (X : Nat) (f : Nat → Nat) (o : Nat) : z_up (unp X f o) o (X / 2 ^ (7 * o) % 128) = unp X f (o + 1) := by
  funext i
  unfold z_up unp
  by_cases c : i = o
  · subst c; simp
  · rw [if_neg c]
    by_cases c2 : i < o
    · rw [if_pos c2, if_pos (by omega)]
    · rw [if_neg c2, if_neg (by omega)]
theorem w_unpack {X : Nat} {f : Nat → Nat} (ha : a < 1000) (hX : X < 2 ^ 64) : ∀ k o, 7 - o = k → o ≤ 7 → zW d MX9_unpack 2 ([.long (lN X), .null, .ref a, .int (nI o)], [], (z_up h a (zI 0 7 (fun i => nI (unp X f o i))), u)) (fun q => q = (none, (z_up h a (zI 0 7 (fun i => nI (unp X f 7 i))), u))) := by
  intro k
  induction k with
  | zero =>
    intro o ho hle
    have e : o = 7 := by omega
    subst e
    rw [eX9_unpack_2]
    simp only [eX9_unpack_0, eX9_unpack_1, eX9_unpack_3, eX9_unpack_5, eX9_unpack_8, eX9_unpack_9, eX9_unpack_10, eX9_unpack_11, eX9_unpack_13, eX9_unpack_14, eX9_unpack_15, eX9_unpack_16, eX9_unpack_17, eX9_unpack_19, eX9_unpack_20, eX9_unpack_21, eX9_unpack_24, eX9_unpack_27, rX9_unpack, zg_aload, zg_bipush, zg_goto, zg_iand, zg_iastore, zg_icmp, zg_iconst, zg_iinc, zg_iload, zg_imul, zg_istore, zg_l2i, zg_lload, zg_lushr, zg_return, q10, q01, q00, ite_self, zLd_i, zLd_l, zLd_a, zInc_i, zGet_o, zGet2_s, zPut_o, zAld_i, zAll_j, zAst_i, zAsl_j, zLen_i, zLen_j, zRt_i, zRt_z, zRl2_l, zRv_n, List.getElem?_cons_zero, List.getElem?_cons_succ, List.length_cons, List.length_nil, z_set, z_set2, z_cut, List.set_cons_zero, List.set_cons_succ, Option.toList_some, Option.toList_none, List.cons_append, List.nil_append, zif, zW_ite, zfit_0, zfit_1, zfit_2, zfit_3, zisc_o, zRt_c, zRt_b, List.map_cons, List.map_nil, List.sum_cons, List.sum_nil, true_and, and_true, if_true, if_false, ite_true, ite_false, Nat.reduceLT, Nat.reduceLeDiff, Nat.reduceAdd, Nat.reduceEqDiff, eq_self, not_true_eq_false, not_false_eq_true, Nat.lt_irrefl, or_true, true_or, or_false, false_or, z_cell_lt, Value.category, nI_77]
  | succ k ih =>
    intro o ho hle
    have ho7 : o < 7 := by omega
    rw [eX9_unpack_2]
    simp only [eX9_unpack_0, eX9_unpack_1, eX9_unpack_3, eX9_unpack_5, eX9_unpack_8, eX9_unpack_9, eX9_unpack_10, eX9_unpack_11, eX9_unpack_13, eX9_unpack_14, eX9_unpack_15, eX9_unpack_16, eX9_unpack_17, eX9_unpack_19, eX9_unpack_20, eX9_unpack_21, eX9_unpack_24, eX9_unpack_27, rX9_unpack, zg_aload, zg_bipush, zg_goto, zg_iand, zg_iastore, zg_icmp, zg_iconst, zg_iinc, zg_iload, zg_imul, zg_istore, zg_l2i, zg_lload, zg_lushr, zg_return, q10, q01, q00, ite_self, zLd_i, zLd_l, zLd_a, zInc_i, zGet_o, zGet2_s, zPut_o, zAld_i, zAll_j, zAst_i, zAsl_j, zLen_i, zLen_j, zRt_i, zRt_z, zRl2_l, zRv_n, List.getElem?_cons_zero, List.getElem?_cons_succ, List.length_cons, List.length_nil, z_set, z_set2, z_cut, List.set_cons_zero, List.set_cons_succ, Option.toList_some, Option.toList_none, List.cons_append, List.nil_append, zif, zW_ite, zfit_0, zfit_1, zfit_2, zfit_3, zisc_o, zRt_c, zRt_b, List.map_cons, List.map_nil, List.sum_cons, List.sum_nil, true_and, and_true, if_true, if_false, ite_true, ite_false, Nat.reduceLT, Nat.reduceLeDiff, Nat.reduceAdd, Nat.reduceEqDiff, eq_self, not_true_eq_false, not_false_eq_true, Nat.lt_irrefl, or_true, true_or, or_false, false_or, z_cell_lt, Value.category, z_up_s, ha, nI_lt7 ho7, nI_7 ho7, nI_c ho7, q_7k, wb_shr hX (show 7 * o < 64 by omega), lN_i, q_127, q_upd, unp_up, z_up_up, nI_1]
    exact ih (o + 1) (by omega) (by omega)
theorem unp_0 (X : Nat) (f : Nat → Nat) : unp X f 0 = f := by
  funext i
  unfold unp
  rw [if_neg (by omega)]
theorem c_unpack {X : Nat} {f : Nat → Nat} (ha : a < 1000) (hX : X < 2 ^ 64) (hf : h a = zI 0 7 (fun i => nI (f i))) : zK (d + 1) 126 [.long (lN X), .ref a] (h, u) Q = Q (none, (z_up h a (zI 0 7 (fun i => nI (unp X f 7 i))), u)) := by
  refine zK_of (k := 1) (by omega) ?_
  refine zK_in (M := MX9_unpack) rfl (Nat.le_of_ble_eq_true rfl) ?_
  show zW 0 MX9_unpack 0 ([.long (lN X), .null, .ref a, .null], [], (h, u)) _
  simp only [eX9_unpack_0, eX9_unpack_1, eX9_unpack_3, eX9_unpack_5, eX9_unpack_8, eX9_unpack_9, eX9_unpack_10, eX9_unpack_11, eX9_unpack_13, eX9_unpack_14, eX9_unpack_15, eX9_unpack_16, eX9_unpack_17, eX9_unpack_19, eX9_unpack_20, eX9_unpack_21, eX9_unpack_24, eX9_unpack_27, rX9_unpack, zg_aload, zg_bipush, zg_goto, zg_iand, zg_iastore, zg_icmp, zg_iconst, zg_iinc, zg_iload, zg_imul, zg_istore, zg_l2i, zg_lload, zg_lushr, zg_return, q10, q01, q00, ite_self, zLd_i, zLd_l, zLd_a, zInc_i, zGet_o, zGet2_s, zPut_o, zAld_i, zAll_j, zAst_i, zAsl_j, zLen_i, zLen_j, zRt_i, zRt_z, zRl2_l, zRv_n, List.getElem?_cons_zero, List.getElem?_cons_succ, List.length_cons, List.length_nil, z_set, z_set2, z_cut, List.set_cons_zero, List.set_cons_succ, Option.toList_some, Option.toList_none, List.cons_append, List.nil_append, zif, zW_ite, zfit_0, zfit_1, zfit_2, zfit_3, zisc_o, zRt_c, zRt_b, List.map_cons, List.map_nil, List.sum_cons, List.sum_nil, true_and, and_true, if_true, if_false, ite_true, ite_false, Nat.reduceLT, Nat.reduceLeDiff, Nat.reduceAdd, Nat.reduceEqDiff, eq_self, not_true_eq_false, not_false_eq_true, Nat.lt_irrefl, or_true, true_or, or_false, false_or, z_cell_lt, Value.category]
  have w := w_unpack (h := h) (d := 0) (u := u) (f := f) ha hX 7 0 (by omega) (by omega)
  have e : z_up h a (zI 0 7 (fun i => nI (unp X f 0 i))) = h := by
    rw [unp_0, ← hf]
    funext k
    unfold z_up
    split
    · rename_i e; rw [e]
    · rfl
  rw [e] at w
  exact w
end TOLD4

