/-! how many bits of a long -/
theorem eJ13_bitCount_95d88_0 {d : Nat} {S : zS} {Q : zR → Prop} : zW d MJ13_bitCount_95d88 0 S Q = zGo d MJ13_bitCount_95d88 (.lload 0) z0 1 S Q := zW_step (I := .lload_n 0) rfl S Q
theorem eJ13_bitCount_95d88_1 {d : Nat} {S : zS} {Q : zR → Prop} : zW d MJ13_bitCount_95d88 1 S Q = zGo d MJ13_bitCount_95d88 (.lload 0) z0 2 S Q := zW_step (I := .lload_n 0) rfl S Q
theorem eJ13_bitCount_95d88_2 {d : Nat} {S : zS} {Q : zR → Prop} : zW d MJ13_bitCount_95d88 2 S Q = zGo d MJ13_bitCount_95d88 (.iconst 1) (zv (.int 1)) 3 S Q := zW_step (I := .iconst 1) rfl S Q
theorem eJ13_bitCount_95d88_3 {d : Nat} {S : zS} {Q : zR → Prop} : zW d MJ13_bitCount_95d88 3 S Q = zGo d MJ13_bitCount_95d88 (.lushr) z0 4 S Q := zW_step (I := .lushr) rfl S Q
theorem eJ13_bitCount_95d88_4 {d : Nat} {S : zS} {Q : zR → Prop} : zW d MJ13_bitCount_95d88 4 S Q = zGo d MJ13_bitCount_95d88 (.ldc2_w 314) (zv (.long 6148914691236517205)) 7 S Q := zW_step (I := .ldc2_w 314) rfl S Q
theorem eJ13_bitCount_95d88_7 {d : Nat} {S : zS} {Q : zR → Prop} : zW d MJ13_bitCount_95d88 7 S Q = zGo d MJ13_bitCount_95d88 (.land) z0 8 S Q := zW_step (I := .land) rfl S Q
theorem eJ13_bitCount_95d88_8 {d : Nat} {S : zS} {Q : zR → Prop} : zW d MJ13_bitCount_95d88 8 S Q = zGo d MJ13_bitCount_95d88 (.lsub) z0 9 S Q := zW_step (I := .lsub) rfl S Q
theorem eJ13_bitCount_95d88_9 {d : Nat} {S : zS} {Q : zR → Prop} : zW d MJ13_bitCount_95d88 9 S Q = zGo d MJ13_bitCount_95d88 (.lstore 0) z0 10 S Q := zW_step (I := .lstore_n 0) rfl S Q
theorem eJ13_bitCount_95d88_10 {d : Nat} {S : zS} {Q : zR → Prop} : zW d MJ13_bitCount_95d88 10 S Q = zGo d MJ13_bitCount_95d88 (.lload 0) z0 11 S Q := zW_step (I := .lload_n 0) rfl S Q
theorem eJ13_bitCount_95d88_11 {d : Nat} {S : zS} {Q : zR → Prop} : zW d MJ13_bitCount_95d88 11 S Q = zGo d MJ13_bitCount_95d88 (.ldc2_w 316) (zv (.long 3689348814741910323)) 14 S Q := zW_step (I := .ldc2_w 316) rfl S Q
theorem eJ13_bitCount_95d88_14 {d : Nat} {S : zS} {Q : zR → Prop} : zW d MJ13_bitCount_95d88 14 S Q = zGo d MJ13_bitCount_95d88 (.land) z0 15 S Q := zW_step (I := .land) rfl S Q
theorem eJ13_bitCount_95d88_15 {d : Nat} {S : zS} {Q : zR → Prop} : zW d MJ13_bitCount_95d88 15 S Q = zGo d MJ13_bitCount_95d88 (.lload 0) z0 16 S Q := zW_step (I := .lload_n 0) rfl S Q
theorem eJ13_bitCount_95d88_16 {d : Nat} {S : zS} {Q : zR → Prop} : zW d MJ13_bitCount_95d88 16 S Q = zGo d MJ13_bitCount_95d88 (.iconst 2) (zv (.int 2)) 17 S Q := zW_step (I := .iconst 2) rfl S Q
theorem eJ13_bitCount_95d88_17 {d : Nat} {S : zS} {Q : zR → Prop} : zW d MJ13_bitCount_95d88 17 S Q = zGo d MJ13_bitCount_95d88 (.lushr) z0 18 S Q := zW_step (I := .lushr) rfl S Q
theorem eJ13_bitCount_95d88_18 {d : Nat} {S : zS} {Q : zR → Prop} : zW d MJ13_bitCount_95d88 18 S Q = zGo d MJ13_bitCount_95d88 (.ldc2_w 316) (zv (.long 3689348814741910323)) 21 S Q := zW_step (I := .ldc2_w 316) rfl S Q
theorem eJ13_bitCount_95d88_21 {d : Nat} {S : zS} {Q : zR → Prop} : zW d MJ13_bitCount_95d88 21 S Q = zGo d MJ13_bitCount_95d88 (.land) z0 22 S Q := zW_step (I := .land) rfl S Q
theorem eJ13_bitCount_95d88_22 {d : Nat} {S : zS} {Q : zR → Prop} : zW d MJ13_bitCount_95d88 22 S Q = zGo d MJ13_bitCount_95d88 (.ladd) z0 23 S Q := zW_step (I := .ladd) rfl S Q
theorem eJ13_bitCount_95d88_23 {d : Nat} {S : zS} {Q : zR → Prop} : zW d MJ13_bitCount_95d88 23 S Q = zGo d MJ13_bitCount_95d88 (.lstore 0) z0 24 S Q := zW_step (I := .lstore_n 0) rfl S Q
theorem eJ13_bitCount_95d88_24 {d : Nat} {S : zS} {Q : zR → Prop} : zW d MJ13_bitCount_95d88 24 S Q = zGo d MJ13_bitCount_95d88 (.lload 0) z0 25 S Q := zW_step (I := .lload_n 0) rfl S Q
theorem eJ13_bitCount_95d88_25 {d : Nat} {S : zS} {Q : zR → Prop} : zW d MJ13_bitCount_95d88 25 S Q = zGo d MJ13_bitCount_95d88 (.lload 0) z0 26 S Q := zW_step (I := .lload_n 0) rfl S Q
theorem eJ13_bitCount_95d88_26 {d : Nat} {S : zS} {Q : zR → Prop} : zW d MJ13_bitCount_95d88 26 S Q = zGo d MJ13_bitCount_95d88 (.iconst 4) (zv (.int 4)) 27 S Q := zW_step (I := .iconst 4) rfl S Q
theorem eJ13_bitCount_95d88_27 {d : Nat} {S : zS} {Q : zR → Prop} : zW d MJ13_bitCount_95d88 27 S Q = zGo d MJ13_bitCount_95d88 (.lushr) z0 28 S Q := zW_step (I := .lushr) rfl S Q
theorem eJ13_bitCount_95d88_28 {d : Nat} {S : zS} {Q : zR → Prop} : zW d MJ13_bitCount_95d88 28 S Q = zGo d MJ13_bitCount_95d88 (.ladd) z0 29 S Q := zW_step (I := .ladd) rfl S Q
theorem eJ13_bitCount_95d88_29 {d : Nat} {S : zS} {Q : zR → Prop} : zW d MJ13_bitCount_95d88 29 S Q = zGo d MJ13_bitCount_95d88 (.ldc2_w 318) (zv (.long 1085102592571150095)) 32 S Q := zW_step (I := .ldc2_w 318) rfl S Q
theorem eJ13_bitCount_95d88_32 {d : Nat} {S : zS} {Q : zR → Prop} : zW d MJ13_bitCount_95d88 32 S Q = zGo d MJ13_bitCount_95d88 (.land) z0 33 S Q := zW_step (I := .land) rfl S Q
theorem eJ13_bitCount_95d88_33 {d : Nat} {S : zS} {Q : zR → Prop} : zW d MJ13_bitCount_95d88 33 S Q = zGo d MJ13_bitCount_95d88 (.lstore 0) z0 34 S Q := zW_step (I := .lstore_n 0) rfl S Q
theorem eJ13_bitCount_95d88_34 {d : Nat} {S : zS} {Q : zR → Prop} : zW d MJ13_bitCount_95d88 34 S Q = zGo d MJ13_bitCount_95d88 (.lload 0) z0 35 S Q := zW_step (I := .lload_n 0) rfl S Q
theorem eJ13_bitCount_95d88_35 {d : Nat} {S : zS} {Q : zR → Prop} : zW d MJ13_bitCount_95d88 35 S Q = zGo d MJ13_bitCount_95d88 (.lload 0) z0 36 S Q := zW_step (I := .lload_n 0) rfl S Q
theorem eJ13_bitCount_95d88_36 {d : Nat} {S : zS} {Q : zR → Prop} : zW d MJ13_bitCount_95d88 36 S Q = zGo d MJ13_bitCount_95d88 (.bipush 8) (zv (.int 8)) 38 S Q := zW_step (I := .bipush 8) rfl S Q
theorem eJ13_bitCount_95d88_38 {d : Nat} {S : zS} {Q : zR → Prop} : zW d MJ13_bitCount_95d88 38 S Q = zGo d MJ13_bitCount_95d88 (.lushr) z0 39 S Q := zW_step (I := .lushr) rfl S Q
theorem eJ13_bitCount_95d88_39 {d : Nat} {S : zS} {Q : zR → Prop} : zW d MJ13_bitCount_95d88 39 S Q = zGo d MJ13_bitCount_95d88 (.ladd) z0 40 S Q := zW_step (I := .ladd) rfl S Q
theorem eJ13_bitCount_95d88_40 {d : Nat} {S : zS} {Q : zR → Prop} : zW d MJ13_bitCount_95d88 40 S Q = zGo d MJ13_bitCount_95d88 (.lstore 0) z0 41 S Q := zW_step (I := .lstore_n 0) rfl S Q
theorem eJ13_bitCount_95d88_41 {d : Nat} {S : zS} {Q : zR → Prop} : zW d MJ13_bitCount_95d88 41 S Q = zGo d MJ13_bitCount_95d88 (.lload 0) z0 42 S Q := zW_step (I := .lload_n 0) rfl S Q
theorem eJ13_bitCount_95d88_42 {d : Nat} {S : zS} {Q : zR → Prop} : zW d MJ13_bitCount_95d88 42 S Q = zGo d MJ13_bitCount_95d88 (.lload 0) z0 43 S Q := zW_step (I := .lload_n 0) rfl S Q
theorem eJ13_bitCount_95d88_43 {d : Nat} {S : zS} {Q : zR → Prop} : zW d MJ13_bitCount_95d88 43 S Q = zGo d MJ13_bitCount_95d88 (.bipush 16) (zv (.int 16)) 45 S Q := zW_step (I := .bipush 16) rfl S Q
theorem eJ13_bitCount_95d88_45 {d : Nat} {S : zS} {Q : zR → Prop} : zW d MJ13_bitCount_95d88 45 S Q = zGo d MJ13_bitCount_95d88 (.lushr) z0 46 S Q := zW_step (I := .lushr) rfl S Q
theorem eJ13_bitCount_95d88_46 {d : Nat} {S : zS} {Q : zR → Prop} : zW d MJ13_bitCount_95d88 46 S Q = zGo d MJ13_bitCount_95d88 (.ladd) z0 47 S Q := zW_step (I := .ladd) rfl S Q
theorem eJ13_bitCount_95d88_47 {d : Nat} {S : zS} {Q : zR → Prop} : zW d MJ13_bitCount_95d88 47 S Q = zGo d MJ13_bitCount_95d88 (.lstore 0) z0 48 S Q := zW_step (I := .lstore_n 0) rfl S Q
theorem eJ13_bitCount_95d88_48 {d : Nat} {S : zS} {Q : zR → Prop} : zW d MJ13_bitCount_95d88 48 S Q = zGo d MJ13_bitCount_95d88 (.lload 0) z0 49 S Q := zW_step (I := .lload_n 0) rfl S Q
theorem eJ13_bitCount_95d88_49 {d : Nat} {S : zS} {Q : zR → Prop} : zW d MJ13_bitCount_95d88 49 S Q = zGo d MJ13_bitCount_95d88 (.lload 0) z0 50 S Q := zW_step (I := .lload_n 0) rfl S Q
theorem eJ13_bitCount_95d88_50 {d : Nat} {S : zS} {Q : zR → Prop} : zW d MJ13_bitCount_95d88 50 S Q = zGo d MJ13_bitCount_95d88 (.bipush 32) (zv (.int 32)) 52 S Q := zW_step (I := .bipush 32) rfl S Q
theorem eJ13_bitCount_95d88_52 {d : Nat} {S : zS} {Q : zR → Prop} : zW d MJ13_bitCount_95d88 52 S Q = zGo d MJ13_bitCount_95d88 (.lushr) z0 53 S Q := zW_step (I := .lushr) rfl S Q
theorem eJ13_bitCount_95d88_53 {d : Nat} {S : zS} {Q : zR → Prop} : zW d MJ13_bitCount_95d88 53 S Q = zGo d MJ13_bitCount_95d88 (.ladd) z0 54 S Q := zW_step (I := .ladd) rfl S Q
theorem eJ13_bitCount_95d88_54 {d : Nat} {S : zS} {Q : zR → Prop} : zW d MJ13_bitCount_95d88 54 S Q = zGo d MJ13_bitCount_95d88 (.lstore 0) z0 55 S Q := zW_step (I := .lstore_n 0) rfl S Q
theorem eJ13_bitCount_95d88_55 {d : Nat} {S : zS} {Q : zR → Prop} : zW d MJ13_bitCount_95d88 55 S Q = zGo d MJ13_bitCount_95d88 (.lload 0) z0 56 S Q := zW_step (I := .lload_n 0) rfl S Q
theorem eJ13_bitCount_95d88_56 {d : Nat} {S : zS} {Q : zR → Prop} : zW d MJ13_bitCount_95d88 56 S Q = zGo d MJ13_bitCount_95d88 (.l2i) z0 57 S Q := zW_step (I := .l2i) rfl S Q
theorem eJ13_bitCount_95d88_57 {d : Nat} {S : zS} {Q : zR → Prop} : zW d MJ13_bitCount_95d88 57 S Q = zGo d MJ13_bitCount_95d88 (.bipush 127) (zv (.int 127)) 59 S Q := zW_step (I := .bipush 127) rfl S Q
theorem eJ13_bitCount_95d88_59 {d : Nat} {S : zS} {Q : zR → Prop} : zW d MJ13_bitCount_95d88 59 S Q = zGo d MJ13_bitCount_95d88 (.iand) z0 60 S Q := zW_step (I := .iand) rfl S Q
theorem eJ13_bitCount_95d88_60 {d : Nat} {S : zS} {Q : zR → Prop} : zW d MJ13_bitCount_95d88 60 S Q = zGo d MJ13_bitCount_95d88 (.ireturn) z0 61 S Q := zW_step (I := .ireturn) rfl S Q
theorem rJ13_bitCount_95d88 : MJ13_bitCount_95d88.2.2.2.2.1 = some .int := rfl
theorem eX5_pairsChanged_0 {d : Nat} {S : zS} {Q : zR → Prop} : zW d MX5_pairsChanged 0 S Q = zGo d MX5_pairsChanged (.aload 0) z0 1 S Q := zW_step (I := .aload_n 0) rfl S Q
theorem eX5_pairsChanged_1 {d : Nat} {S : zS} {Q : zR → Prop} : zW d MX5_pairsChanged 1 S Q = zGo d MX5_pairsChanged (.getfield 15) (zf 3 5 1) 4 S Q := zW_step (I := .getfield 15) rfl S Q
theorem eX5_pairsChanged_4 {d : Nat} {S : zS} {Q : zR → Prop} : zW d MX5_pairsChanged 4 S Q = zGo d MX5_pairsChanged (.iconst 0) (zv (.int 0)) 5 S Q := zW_step (I := .iconst 0) rfl S Q
theorem eX5_pairsChanged_5 {d : Nat} {S : zS} {Q : zR → Prop} : zW d MX5_pairsChanged 5 S Q = zGo d MX5_pairsChanged (.laload) z0 6 S Q := zW_step (I := .laload) rfl S Q
theorem eX5_pairsChanged_6 {d : Nat} {S : zS} {Q : zR → Prop} : zW d MX5_pairsChanged 6 S Q = zGo d MX5_pairsChanged (.aload 1) z0 7 S Q := zW_step (I := .aload_n 1) rfl S Q
theorem eX5_pairsChanged_7 {d : Nat} {S : zS} {Q : zR → Prop} : zW d MX5_pairsChanged 7 S Q = zGo d MX5_pairsChanged (.getfield 40) (zf 3 9 1) 10 S Q := zW_step (I := .getfield 40) rfl S Q
theorem eX5_pairsChanged_10 {d : Nat} {S : zS} {Q : zR → Prop} : zW d MX5_pairsChanged 10 S Q = zGo d MX5_pairsChanged (.invokestatic 44) (zc 125 1 0) 13 S Q := zW_step (I := .invokestatic 44) rfl S Q
theorem eX5_pairsChanged_13 {d : Nat} {S : zS} {Q : zR → Prop} : zW d MX5_pairsChanged 13 S Q = zGo d MX5_pairsChanged (.lxor) z0 14 S Q := zW_step (I := .lxor) rfl S Q
theorem eX5_pairsChanged_14 {d : Nat} {S : zS} {Q : zR → Prop} : zW d MX5_pairsChanged 14 S Q = zGo d MX5_pairsChanged (.aload 0) z0 15 S Q := zW_step (I := .aload_n 0) rfl S Q
theorem eX5_pairsChanged_15 {d : Nat} {S : zS} {Q : zR → Prop} : zW d MX5_pairsChanged 15 S Q = zGo d MX5_pairsChanged (.getfield 15) (zf 3 5 1) 18 S Q := zW_step (I := .getfield 15) rfl S Q
theorem eX5_pairsChanged_18 {d : Nat} {S : zS} {Q : zR → Prop} : zW d MX5_pairsChanged 18 S Q = zGo d MX5_pairsChanged (.iconst 1) (zv (.int 1)) 19 S Q := zW_step (I := .iconst 1) rfl S Q
theorem eX5_pairsChanged_19 {d : Nat} {S : zS} {Q : zR → Prop} : zW d MX5_pairsChanged 19 S Q = zGo d MX5_pairsChanged (.laload) z0 20 S Q := zW_step (I := .laload) rfl S Q
theorem eX5_pairsChanged_20 {d : Nat} {S : zS} {Q : zR → Prop} : zW d MX5_pairsChanged 20 S Q = zGo d MX5_pairsChanged (.aload 1) z0 21 S Q := zW_step (I := .aload_n 1) rfl S Q
theorem eX5_pairsChanged_21 {d : Nat} {S : zS} {Q : zR → Prop} : zW d MX5_pairsChanged 21 S Q = zGo d MX5_pairsChanged (.getfield 48) (zf 3 9 2) 24 S Q := zW_step (I := .getfield 48) rfl S Q
theorem eX5_pairsChanged_24 {d : Nat} {S : zS} {Q : zR → Prop} : zW d MX5_pairsChanged 24 S Q = zGo d MX5_pairsChanged (.invokestatic 44) (zc 125 1 0) 27 S Q := zW_step (I := .invokestatic 44) rfl S Q
theorem eX5_pairsChanged_27 {d : Nat} {S : zS} {Q : zR → Prop} : zW d MX5_pairsChanged 27 S Q = zGo d MX5_pairsChanged (.lxor) z0 28 S Q := zW_step (I := .lxor) rfl S Q
theorem eX5_pairsChanged_28 {d : Nat} {S : zS} {Q : zR → Prop} : zW d MX5_pairsChanged 28 S Q = zGo d MX5_pairsChanged (.lor) z0 29 S Q := zW_step (I := .lor) rfl S Q
theorem eX5_pairsChanged_29 {d : Nat} {S : zS} {Q : zR → Prop} : zW d MX5_pairsChanged 29 S Q = zGo d MX5_pairsChanged (.lstore 2) z0 30 S Q := zW_step (I := .lstore_n 2) rfl S Q
theorem eX5_pairsChanged_30 {d : Nat} {S : zS} {Q : zR → Prop} : zW d MX5_pairsChanged 30 S Q = zGo d MX5_pairsChanged (.lload 2) z0 31 S Q := zW_step (I := .lload_n 2) rfl S Q
theorem eX5_pairsChanged_31 {d : Nat} {S : zS} {Q : zR → Prop} : zW d MX5_pairsChanged 31 S Q = zGo d MX5_pairsChanged (.invokestatic 51) (zc 293 1 0) 34 S Q := zW_step (I := .invokestatic 51) rfl S Q
theorem eX5_pairsChanged_34 {d : Nat} {S : zS} {Q : zR → Prop} : zW d MX5_pairsChanged 34 S Q = zGo d MX5_pairsChanged (.iconst 2) (zv (.int 2)) 35 S Q := zW_step (I := .iconst 2) rfl S Q
theorem eX5_pairsChanged_35 {d : Nat} {S : zS} {Q : zR → Prop} : zW d MX5_pairsChanged 35 S Q = zGo d MX5_pairsChanged (.idiv) z0 36 S Q := zW_step (I := .idiv) rfl S Q
theorem eX5_pairsChanged_36 {d : Nat} {S : zS} {Q : zR → Prop} : zW d MX5_pairsChanged 36 S Q = zGo d MX5_pairsChanged (.ireturn) z0 37 S Q := zW_step (I := .ireturn) rfl S Q
theorem rX5_pairsChanged : MX5_pairsChanged.2.2.2.2.1 = some .int := rfl
section BITS
def Mk (m : Nat) : Nat → Nat
  | 0 => 0
  | k + 1 => m + 256 * Mk m k
def Gb (f : Nat → Nat) : Nat → Nat → Nat
  | 0, _ => 0
  | k + 1, x => f (x % 256) + 256 * Gb f k (x / 256)
theorem tb_256 {b y i : Nat} (hb : b < 256) : (b + 256 * y).testBit i = if i < 8 then b.testBit i else y.testBit (i - 8) := by
  rw [Nat.add_comm, show 256 * y = 2 ^ 8 * y from rfl, Nat.testBit_two_pow_mul_add _ (show b < 2 ^ 8 from hb)]
theorem and_256 {b m y M : Nat} (hb : b < 256) (hm : m < 256) : (b + 256 * y) &&& (m + 256 * M) = (b &&& m) + 256 * (y &&& M) := by
  apply Nat.eq_of_testBit_eq
  intro i
  rw [Nat.testBit_and, tb_256 hb, tb_256 hm, tb_256 (Nat.lt_of_le_of_lt Nat.and_le_left hb)]
  split
  · rw [Nat.testBit_and]
  · rw [Nat.testBit_and]
def bf1 (b : Nat) : Nat := b - (b / 2 &&& 85)
def bf2 (b : Nat) : Nat := (b &&& 51) + (b / 4 &&& 51)
def bf3 (b : Nat) : Nat := (b + b / 16) &&& 15
theorem q55 : ∀ b, b < 256 → ∀ c, c < 2 → ((b / 2 + 128 * c) &&& 85) = (b / 2 &&& 85) ∧ (b / 2 &&& 85) ≤ b := by decide +kernel
theorem q33 : ∀ b, b < 256 → ∀ c, c < 4 → ((b / 4 + 64 * c) &&& 51) = (b / 4 &&& 51) := by decide +kernel
theorem q0f : ∀ b, b < 256 → b % 16 ≤ 4 → b / 16 ≤ 4 → ∀ c, c < 5 → ((b + b / 16 + 16 * c) &&& 15) = ((b + b / 16) &&& 15) := by decide +kernel
theorem bp1 : ∀ k x, x < 256 ^ k → x - (x / 2 &&& Mk 85 k) = Gb bf1 k x ∧ (x / 2 &&& Mk 85 k) ≤ x := by
  intro k
  induction k with
  | zero => intro x hx; have : x = 0 := by simpa using hx
            subst this; exact ⟨rfl, by decide⟩
  | succ k ih =>
    intro x hx
    have hy : x / 256 < 256 ^ k := by rw [Nat.div_lt_iff_lt_mul (by decide), ← Nat.pow_succ]; exact hx
    obtain ⟨i1, i2⟩ := ih _ hy
    have hb : x % 256 < 256 := Nat.mod_lt _ (by decide)
    obtain ⟨q1, q2⟩ := q55 _ hb (x / 256 % 2) (Nat.mod_lt _ (by decide))
    have e1 : x / 2 = (x % 256 / 2 + 128 * (x / 256 % 2)) + 256 * (x / 256 / 2) := by omega
    have e2 : x / 2 &&& Mk 85 (k + 1) = (x % 256 / 2 &&& 85) + 256 * (x / 256 / 2 &&& Mk 85 k) := by
      rw [e1, show Mk 85 (k + 1) = 85 + 256 * Mk 85 k from rfl, and_256 (by omega) (by decide), q1]
    rw [e2, show Gb bf1 (k + 1) x = bf1 (x % 256) + 256 * Gb bf1 k (x / 256) from rfl, ← i1]
    unfold bf1
    generalize (x / 256 / 2 &&& Mk 85 k) = p at *
    generalize (x % 256 / 2 &&& 85) = r at *
    omega
theorem bp2 : ∀ k x, x < 256 ^ k → (x &&& Mk 51 k) + (x / 4 &&& Mk 51 k) = Gb bf2 k x := by
  intro k
  induction k with
  | zero => intro x hx; have : x = 0 := by simpa using hx
            subst this; rfl
  | succ k ih =>
    intro x hx
    have hy : x / 256 < 256 ^ k := by rw [Nat.div_lt_iff_lt_mul (by decide), ← Nat.pow_succ]; exact hx
    have i1 := ih _ hy
    have hb : x % 256 < 256 := Nat.mod_lt _ (by decide)
    have q1 := q33 _ hb (x / 256 % 4) (Nat.mod_lt _ (by decide))
    have e1 : x / 4 = (x % 256 / 4 + 64 * (x / 256 % 4)) + 256 * (x / 256 / 4) := by omega
    have e2 : x / 4 &&& Mk 51 (k + 1) = (x % 256 / 4 &&& 51) + 256 * (x / 256 / 4 &&& Mk 51 k) := by
      rw [e1, show Mk 51 (k + 1) = 51 + 256 * Mk 51 k from rfl, and_256 (by omega) (by decide), q1]
    have e3 : x &&& Mk 51 (k + 1) = (x % 256 &&& 51) + 256 * (x / 256 &&& Mk 51 k) := by
      conv => lhs; rw [show x = x % 256 + 256 * (x / 256) by omega]
      rw [show Mk 51 (k + 1) = 51 + 256 * Mk 51 k from rfl, and_256 hb (by decide)]
    rw [e2, e3, show Gb bf2 (k + 1) x = bf2 (x % 256) + 256 * Gb bf2 k (x / 256) from rfl, ← i1]
    unfold bf2
    generalize (x / 256 / 4 &&& Mk 51 k) = p1 at *
    generalize (x / 256 &&& Mk 51 k) = p2 at *
    generalize (x % 256 / 4 &&& 51) = p3 at *
    generalize (x % 256 &&& 51) = p4 at *
    omega
def nibs : Nat → Nat → Prop
  | 0, x => x = 0
  | k + 1, x => x % 256 % 16 ≤ 4 ∧ x % 256 / 16 ≤ 4 ∧ nibs k (x / 256)
theorem nibs_lo : ∀ k x, nibs k x → x % 16 ≤ 4 := by
  intro k x h
  cases k with
  | zero => rw [show x = 0 from h]; decide
  | succ k => have := h.1; omega
theorem bp3 : ∀ k x, nibs k x → (x + x / 16) &&& Mk 15 k = Gb bf3 k x := by
  intro k
  induction k with
  | zero => intro x hx; rw [show x = 0 from hx]; rfl
  | succ k ih =>
    intro x hx
    obtain ⟨a1, a2, a3⟩ := hx
    have hb : x % 256 < 256 := Nat.mod_lt _ (by decide)
    have hz := nibs_lo k _ a3
    have q1 := q0f _ hb a1 a2 (x / 256 % 16) (by omega)
    have e1 : x + x / 16 = (x % 256 + x % 256 / 16 + 16 * (x / 256 % 16)) + 256 * (x / 256 + x / 256 / 16) := by omega
    rw [e1, show Mk 15 (k + 1) = 15 + 256 * Mk 15 k from rfl, and_256 (by omega) (by decide), q1, ih _ a3]
    rfl
theorem Gb_c {f g : Nat → Nat} (hf : ∀ b, b < 256 → f b < 256) : ∀ k x, Gb g k (Gb f k x) = Gb (fun b => g (f b)) k x := by
  intro k
  induction k with
  | zero => intro x; rfl
  | succ k ih =>
    intro x
    have hb := hf (x % 256) (Nat.mod_lt _ (by decide))
    show g ((f (x % 256) + 256 * Gb f k (x / 256)) % 256) + 256 * Gb g k ((f (x % 256) + 256 * Gb f k (x / 256)) / 256) = _
    rw [show (f (x % 256) + 256 * Gb f k (x / 256)) % 256 = f (x % 256) by omega, show (f (x % 256) + 256 * Gb f k (x / 256)) / 256 = Gb f k (x / 256) by omega, ih]
    rfl
theorem Gb_nib {f : Nat → Nat} (hf : ∀ b, b < 256 → f b < 256 ∧ f b % 16 ≤ 4 ∧ f b / 16 ≤ 4) : ∀ k x, nibs k (Gb f k x) := by
  intro k
  induction k with
  | zero => intro x; rfl
  | succ k ih =>
    intro x
    have hb := hf (x % 256) (Nat.mod_lt _ (by decide))
    show nibs (k + 1) (f (x % 256) + 256 * Gb f k (x / 256))
    refine ⟨?_, ?_, ?_⟩
    · rw [show (f (x % 256) + 256 * Gb f k (x / 256)) % 256 = f (x % 256) by omega]; exact hb.2.1
    · rw [show (f (x % 256) + 256 * Gb f k (x / 256)) % 256 = f (x % 256) by omega]; exact hb.2.2
    · rw [show (f (x % 256) + 256 * Gb f k (x / 256)) / 256 = Gb f k (x / 256) by omega]; exact ih _
theorem Gb_lt {f : Nat → Nat} (hf : ∀ b, b < 256 → f b < 256) : ∀ k x, Gb f k x < 256 ^ k := by
  intro k
  induction k with
  | zero => intro x; exact (by decide : 0 < 1)
  | succ k ih =>
    intro x
    have hb := hf (x % 256) (Nat.mod_lt _ (by decide))
    have := ih (x / 256)
    show f (x % 256) + 256 * Gb f k (x / 256) < 256 ^ k * 256
    omega
theorem f12 : ∀ b, b < 256 → bf1 b < 256 ∧ bf2 (bf1 b) < 256 ∧ bf2 (bf1 b) % 16 ≤ 4 ∧ bf2 (bf1 b) / 16 ≤ 4 ∧ bf3 (bf2 (bf1 b)) ≤ 8 := by decide +kernel
def pc8 (b : Nat) : Nat := bf3 (bf2 (bf1 b))
/-- the bits of eight bytes -/
def pcN (x : Nat) : Nat := pc8 (x % 256) + pc8 (x / 256 % 256) + pc8 (x / 256 / 256 % 256) + pc8 (x / 256 / 256 / 256 % 256) + pc8 (x / 256 / 256 / 256 / 256 % 256) + pc8 (x / 256 / 256 / 256 / 256 / 256 % 256) + pc8 (x / 256 / 256 / 256 / 256 / 256 / 256 % 256) + pc8 (x / 256 / 256 / 256 / 256 / 256 / 256 / 256 % 256)
theorem pc8_le (b : Nat) : pc8 (b % 256) ≤ 8 := (f12 _ (Nat.mod_lt _ (by decide))).2.2.2.2
theorem dvk {A B k : Nat} (h : A < k) : (A + k * B) / k = B := by
  rw [Nat.add_mul_div_left _ _ (Nat.lt_of_le_of_lt (Nat.zero_le _) h), Nat.div_eq_of_lt h, Nat.zero_add]
theorem sum8 {a b c d e f g i x : Nat} (ha : a ≤ 8) (hb : b ≤ 8) (hc : c ≤ 8) (hd : d ≤ 8) (he : e ≤ 8) (hf : f ≤ 8) (hg : g ≤ 8) (hi : i ≤ 8) (hx : x = a + 256 * (b + 256 * (c + 256 * (d + 256 * (e + 256 * (f + 256 * (g + 256 * (i + 256 * 0)))))))) : ((x + x / 256) + (x + x / 256) / 65536 + ((x + x / 256) + (x + x / 256) / 65536) / 4294967296) % 128 = a + b + c + d + e + f + g + i := by
  have e1 : x / 256 = b + 256 * (c + 256 * (d + 256 * (e + 256 * (f + 256 * (g + 256 * (i + 256 * 0)))))) := by
    rw [hx]
    exact dvk (by omega)
  have e2 : x + x / 256 = ((a + b) + 256 * (b + c)) + 65536 * ((c + d) + 256 * ((d + e) + 256 * ((e + f) + 256 * ((f + g) + 256 * ((g + i) + 256 * i))))) := by
    rw [e1, hx]
    clear hx e1 ha hb hc hd he hf hg hi
    omega
  have e3 : (x + x / 256) / 65536 = (c + d) + 256 * ((d + e) + 256 * ((e + f) + 256 * ((f + g) + 256 * ((g + i) + 256 * i)))) := by
    rw [e2]
    exact dvk (by clear hx e1 e2; omega)
  have e4 : (x + x / 256) + (x + x / 256) / 65536 = ((a + b + c + d) + 256 * (b + c + d + e) + 65536 * (c + d + e + f) + 16777216 * (d + e + f + g)) + 4294967296 * ((e + f + g + i) + 256 * (f + g + i) + 65536 * (g + i) + 16777216 * i) := by
    rw [e3, e2]
    clear hx e1 e2 e3 ha hb hc hd he hf hg hi
    omega
  have e5 : ((x + x / 256) + (x + x / 256) / 65536) / 4294967296 = (e + f + g + i) + 256 * (f + g + i) + 65536 * (g + i) + 16777216 * i := by
    rw [e4]
    exact dvk (by clear hx e1 e2 e3 e4; omega)
  have e6 : ((x + x / 256) + (x + x / 256) / 65536 + ((x + x / 256) + (x + x / 256) / 65536) / 4294967296) = (a + b + c + d + e + f + g + i) + 128 * (2 * (b + c + d + e) + 512 * (c + d + e + f) + 131072 * (d + e + f + g) + 33554432 * ((e + f + g + i) + 256 * (f + g + i) + 65536 * (g + i) + 16777216 * i) + 2 * (f + g + i) + 512 * (g + i) + 131072 * i) := by
    rw [e5, e4]
    clear hx e1 e2 e3 e4 e5 ha hb hc hd he hf hg hi
    omega
  rw [e6, Nat.add_mul_mod_self_left, Nat.mod_eq_of_lt (by clear hx e1 e2 e3 e4 e5 e6; omega)]
variable {h : Nat → zE} {d : Nat} {u : zU} {H : zH} {Q : zR → Prop}
theorem lN_and (a b : Nat) : lN a &&& lN b = lN (a &&& b) := by
  unfold lN
  apply Int64.toBitVec_inj.mp
  simp [Int64.toBitVec_ofNat']
theorem lN_or (a b : Nat) : lN a ||| lN b = lN (a ||| b) := by
  unfold lN
  apply Int64.toBitVec_inj.mp
  simp [Int64.toBitVec_ofNat']
theorem lN_xor (a b : Nat) : lN a ^^^ lN b = lN (a ^^^ b) := by
  unfold lN
  apply Int64.toBitVec_inj.mp
  simp [Int64.toBitVec_ofNat']
theorem Gb8 (f : Nat → Nat) (x : Nat) : Gb f 8 x = f (x % 256) + 256 * (f (x / 256 % 256) + 256 * (f (x / 256 / 256 % 256) + 256 * (f (x / 256 / 256 / 256 % 256) + 256 * (f (x / 256 / 256 / 256 / 256 % 256) + 256 * (f (x / 256 / 256 / 256 / 256 / 256 % 256) + 256 * (f (x / 256 / 256 / 256 / 256 / 256 / 256 % 256) + 256 * (f (x / 256 / 256 / 256 / 256 / 256 / 256 / 256 % 256) + 256 * 0))))))) := rfl
theorem bits_ok {v : Nat} (hv : v < 9223372036854775808) : ∃ x1 x2 x3, x1 = v - (v / 2 &&& 6148914691236517205) ∧ (v / 2 &&& 6148914691236517205) ≤ v ∧ x1 < 9223372036854775808 ∧ x2 = (x1 &&& 3689348814741910323) + (x1 / 4 &&& 3689348814741910323) ∧ x2 < 9223372036854775808 ∧ x3 = ((x2 + x2 / 16) &&& 1085102592571150095) ∧ x3 < 1085102592571150096 ∧ ((x3 + x3 / 256) + (x3 + x3 / 256) / 65536 + ((x3 + x3 / 256) + (x3 + x3 / 256) / 65536) / 4294967296) % 128 = pcN v := by
  have h8 : v < 256 ^ 8 := Nat.lt_trans hv (by decide)
  obtain ⟨a1, a2⟩ := bp1 8 v h8
  rw [show Mk 85 8 = 6148914691236517205 from rfl] at a1 a2
  have l1 : v - (v / 2 &&& 6148914691236517205) < 9223372036854775808 := Nat.lt_of_le_of_lt (Nat.sub_le _ _) hv
  have g1 : Gb bf1 8 v < 256 ^ 8 := Gb_lt (fun b hb => (f12 b hb).1) 8 v
  have b1 := bp2 8 _ g1
  rw [show Mk 51 8 = 3689348814741910323 from rfl, Gb_c (fun b hb => (f12 b hb).1)] at b1
  have n1 : nibs 8 (Gb (fun b => bf2 (bf1 b)) 8 v) := Gb_nib (fun b hb => ⟨(f12 b hb).2.1, (f12 b hb).2.2.1, (f12 b hb).2.2.2.1⟩) 8 v
  have c1 := bp3 8 _ n1
  rw [show Mk 15 8 = 1085102592571150095 from rfl, Gb_c (fun b hb => (f12 b hb).2.1)] at c1
  refine ⟨_, _, _, rfl, a2, l1, rfl, ?_, rfl, ?_, ?_⟩
  · have p1 := Nat.and_le_right (n := v - (v / 2 &&& 6148914691236517205)) (m := 3689348814741910323)
    have p2 := Nat.and_le_right (n := (v - (v / 2 &&& 6148914691236517205)) / 4) (m := 3689348814741910323)
    generalize (v - (v / 2 &&& 6148914691236517205) &&& 3689348814741910323) = y1 at *
    generalize ((v - (v / 2 &&& 6148914691236517205)) / 4 &&& 3689348814741910323) = y2 at *
    clear b1 c1 n1 g1 a1 a2 l1
    omega
  · exact Nat.lt_succ_of_le Nat.and_le_right
  · rw [a1, b1, c1]
    refine sum8 (pc8_le _) (pc8_le _) (pc8_le _) (pc8_le _) (pc8_le _) (pc8_le _) (pc8_le _) (pc8_le _) ?_
    exact Gb8 _ _
theorem c_bcL {v : Nat} (hv : v < 9223372036854775808) : zK (d + 1) 293 [.long (lN v)] H Q = Q (some (.int (nI (pcN v))), H) := by
  obtain ⟨h, u⟩ := H
  obtain ⟨x1, x2, x3, e1, e2, e3, e4, e5, e6, e7, e8⟩ := bits_ok hv
  have s1 : ((lN v).toUInt64 >>> ((1 : Int32).toInt64.toUInt64 &&& Int64.toUInt64 63)).toInt64 = lN (v / 2) := wb_shr (k := 1) (by omega) (by decide)
  have a1 : lN (v / 2) &&& 6148914691236517205 = lN (v / 2 &&& 6148914691236517205) := lN_and _ _
  have b1 : lN v - lN (v / 2 &&& 6148914691236517205) = lN x1 := by rw [lN_sub e2, e1]
  have s2 : ((lN x1).toUInt64 >>> ((2 : Int32).toInt64.toUInt64 &&& Int64.toUInt64 63)).toInt64 = lN (x1 / 4) := wb_shr (k := 2) (by omega) (by decide)
  have a2 : lN x1 &&& 3689348814741910323 = lN (x1 &&& 3689348814741910323) := lN_and _ _
  have a3 : lN (x1 / 4) &&& 3689348814741910323 = lN (x1 / 4 &&& 3689348814741910323) := lN_and _ _
  have b2 : lN (x1 &&& 3689348814741910323) + lN (x1 / 4 &&& 3689348814741910323) = lN x2 := by rw [lN_add, e4]
  have s4 : ((lN x2).toUInt64 >>> ((4 : Int32).toInt64.toUInt64 &&& Int64.toUInt64 63)).toInt64 = lN (x2 / 16) := wb_shr (k := 4) (by omega) (by decide)
  have b3 : lN x2 + lN (x2 / 16) = lN (x2 + x2 / 16) := lN_add _ _
  have a4 : lN (x2 + x2 / 16) &&& 1085102592571150095 = lN x3 := by rw [e6]; exact lN_and _ _
  have s8 : ((lN x3).toUInt64 >>> ((8 : Int32).toInt64.toUInt64 &&& Int64.toUInt64 63)).toInt64 = lN (x3 / 256) := wb_shr (k := 8) (by omega) (by decide)
  have b4 : lN x3 + lN (x3 / 256) = lN (x3 + x3 / 256) := lN_add _ _
  have s16 : ((lN (x3 + x3 / 256)).toUInt64 >>> ((16 : Int32).toInt64.toUInt64 &&& Int64.toUInt64 63)).toInt64 = lN ((x3 + x3 / 256) / 65536) := wb_shr (k := 16) (by omega) (by decide)
  have b5 : lN (x3 + x3 / 256) + lN ((x3 + x3 / 256) / 65536) = lN ((x3 + x3 / 256) + (x3 + x3 / 256) / 65536) := lN_add _ _
  have s32 : ((lN ((x3 + x3 / 256) + (x3 + x3 / 256) / 65536)).toUInt64 >>> ((32 : Int32).toInt64.toUInt64 &&& Int64.toUInt64 63)).toInt64 = lN (((x3 + x3 / 256) + (x3 + x3 / 256) / 65536) / 4294967296) := wb_shr (k := 32) (by omega) (by decide)
  have b6 : lN ((x3 + x3 / 256) + (x3 + x3 / 256) / 65536) + lN (((x3 + x3 / 256) + (x3 + x3 / 256) / 65536) / 4294967296) = lN (((x3 + x3 / 256) + (x3 + x3 / 256) / 65536) + ((x3 + x3 / 256) + (x3 + x3 / 256) / 65536) / 4294967296) := lN_add _ _
  have f1 : nI (((x3 + x3 / 256) + (x3 + x3 / 256) / 65536) + ((x3 + x3 / 256) + (x3 + x3 / 256) / 65536) / 4294967296) &&& 127 = nI (pcN v) := by
    rw [← e8, show (127 : Int32) = nI 127 from rfl, q_and, show (127 : Nat) = 2 ^ 7 - 1 from rfl, Nat.and_two_pow_sub_one_eq_mod]
  refine zK_of (k := 1) (by omega) ?_
  refine zK_in (M := MJ13_bitCount_95d88) rfl (Nat.le_of_ble_eq_true rfl) ?_
  show zW 0 MJ13_bitCount_95d88 0 ([.long (lN v), .null], [], (h, u)) _
  simp only [eJ13_bitCount_95d88_0, eJ13_bitCount_95d88_1, eJ13_bitCount_95d88_2, eJ13_bitCount_95d88_3, eJ13_bitCount_95d88_4, eJ13_bitCount_95d88_7, eJ13_bitCount_95d88_8, eJ13_bitCount_95d88_9, eJ13_bitCount_95d88_10, eJ13_bitCount_95d88_11, eJ13_bitCount_95d88_14, eJ13_bitCount_95d88_15, eJ13_bitCount_95d88_16, eJ13_bitCount_95d88_17, eJ13_bitCount_95d88_18, eJ13_bitCount_95d88_21, eJ13_bitCount_95d88_22, eJ13_bitCount_95d88_23, eJ13_bitCount_95d88_24, eJ13_bitCount_95d88_25, eJ13_bitCount_95d88_26, eJ13_bitCount_95d88_27, eJ13_bitCount_95d88_28, eJ13_bitCount_95d88_29, eJ13_bitCount_95d88_32, eJ13_bitCount_95d88_33, eJ13_bitCount_95d88_34, eJ13_bitCount_95d88_35, eJ13_bitCount_95d88_36, eJ13_bitCount_95d88_38, eJ13_bitCount_95d88_39, eJ13_bitCount_95d88_40, eJ13_bitCount_95d88_41, eJ13_bitCount_95d88_42, eJ13_bitCount_95d88_43, eJ13_bitCount_95d88_45, eJ13_bitCount_95d88_46, eJ13_bitCount_95d88_47, eJ13_bitCount_95d88_48, eJ13_bitCount_95d88_49, eJ13_bitCount_95d88_50, eJ13_bitCount_95d88_52, eJ13_bitCount_95d88_53, eJ13_bitCount_95d88_54, eJ13_bitCount_95d88_55, eJ13_bitCount_95d88_56, eJ13_bitCount_95d88_57, eJ13_bitCount_95d88_59, eJ13_bitCount_95d88_60, rJ13_bitCount_95d88, zg_bipush, zg_iand, zg_iconst, zg_ireturn, zg_l2i, zg_ladd, zg_land, zg_ldc2_w, zg_lload, zg_lstore, zg_lsub, zg_lushr, q10, q01, q00, ite_self, zLd_i, zLd_l, zLd_a, zInc_i, zGet_o, zGet2_s, zPut_o, zAld_i, zAll_j, zAst_i, zAsl_j, zLen_i, zLen_j, zRt_i, zRt_z, zRl2_l, zRv_n, List.getElem?_cons_zero, List.getElem?_cons_succ, List.length_cons, List.length_nil, z_set, z_set2, z_cut, List.set_cons_zero, List.set_cons_succ, Option.toList_some, Option.toList_none, List.cons_append, List.nil_append, zif, zW_ite, zfit_0, zfit_1, zfit_2, zfit_3, zisc_o, zRt_c, zRt_b, List.map_cons, List.map_nil, List.sum_cons, List.sum_nil, true_and, and_true, if_true, if_false, ite_true, ite_false, Nat.reduceLT, Nat.reduceLeDiff, Nat.reduceAdd, Nat.reduceEqDiff, eq_self, not_true_eq_false, not_false_eq_true, Nat.lt_irrefl, or_true, true_or, or_false, false_or, z_cell_lt, Value.category, s1, a1, b1, s2, a2, a3, b2, s4, b3, a4, s8, b4, s16, b5, s32, b6, lN_i, f1]
end BITS

