
def xrow (ldp : Nat → Nat) (dp kx : Nat) : Nat := hs kx % 2 ^ dp % 2 ^ (ldp (hs kx % 2 ^ dp))
theorem m2 {dp x : Nat} (h : dp ≤ 8) : x % 2 ^ dp < 256 := Nat.lt_of_lt_of_le (Nat.mod_lt _ (Nat.two_pow_pos _)) (p2_le h)
theorem p8 {dp : Nat} (h : dp ≤ 8) : 2 ^ dp ≤ 256 := p2_le h
theorem p7 {dp : Nat} (h : dp < 8) : 2 ^ dp ≤ 128 := p2_le (c := 7) (by omega)
theorem xrow_lt {ldp : Nat → Nat} {dp kx : Nat} (h : dp ≤ 8) : xrow ldp dp kx < 256 := Nat.lt_of_le_of_lt (Nat.mod_le _ _) (m2 h)
def bdy (ldp : Nat → Nat) (sl : Nat) : Nat := (sl % 2 ^ ldp sl) ^^^ 2 ^ (ldp sl - 1)
theorem bdy_lt {ldp : Nat → Nat} {sl : Nat} (h : ldp sl ≤ 8) (h0 : 0 < ldp sl) : bdy ldp sl < 256 :=
  Nat.xor_lt_two_pow (n := 8) (m2 h) (Nat.pow_lt_pow_right (by decide) (by omega))
theorem nI_s1 (x : Int32) (a : Nat) : x + nI a + nI 1 = x + nI (a + 1) := by rw [Int32.add_assoc, nI_add]
theorem nI_z (x : Int32) : x + nI 0 = x := by rw [nI_0]; exact Int32.add_zero x

theorem sd_step {ldp ldp1 : Nat → Nat} {i bits row dd q : Nat} (h : i % 2 ^ bits = row) (hq : ∀ q, ldp1 q = if q < i ∧ q % 2 ^ bits = row then dd else ldp q) : va_up ldp1 i dd q = if q < i + 1 ∧ q % 2 ^ bits = row then dd else ldp q := by
  by_cases z : q = i
  · subst z; rw [up_s, if_pos ⟨by omega, h⟩]
  · rw [up_n _ _ z, hq q]
    by_cases z2 : q < i ∧ q % 2 ^ bits = row
    · rw [if_pos z2, if_pos ⟨by omega, z2.2⟩]
    · rw [if_neg z2, if_neg (fun z3 => z2 ⟨by omega, z3.2⟩)]
theorem sd_no {ldp : Nat → Nat} {i bits row dd q : Nat} (h : i % 2 ^ bits ≠ row) : (if q < i ∧ q % 2 ^ bits = row then dd else ldp q) = if q < i + 1 ∧ q % 2 ^ bits = row then dd else ldp q := by
  by_cases z : q = i
  · subst z; rw [if_neg (fun z3 => h z3.2), if_neg (fun z3 => h z3.2)]
  · by_cases z2 : q < i ∧ q % 2 ^ bits = row
    · rw [if_pos z2, if_pos ⟨by omega, z2.2⟩]
    · rw [if_neg z2, if_neg (fun z3 => z2 ⟨by omega, z3.2⟩)]

theorem dX0_countSlots_0 : decode cX0_countSlots 0 = .ok (.iconst 1, 1) := by decide +kernel
theorem dX0_countSlots_1 : decode cX0_countSlots 1 = .ok (.aload_n 0, 1) := by decide +kernel
theorem dX0_countSlots_2 : decode cX0_countSlots 2 = .ok (.getfield 15, 3) := by decide +kernel
theorem dX0_countSlots_5 : decode cX0_countSlots 5 = .ok (.ishl, 1) := by decide +kernel
theorem dX0_countSlots_6 : decode cX0_countSlots 6 = .ok (.ireturn, 1) := by decide +kernel
theorem dX0_depthAt_0 : decode cX0_depthAt 0 = .ok (.iload_n 1, 1) := by decide +kernel
theorem dX0_depthAt_1 : decode cX0_depthAt 1 = .ok (.invokestatic 52, 3) := by decide +kernel
theorem dX0_depthAt_4 : decode cX0_depthAt 4 = .ok (.ifCond .eq 12, 3) := by decide +kernel
theorem dX0_depthAt_7 : decode cX0_depthAt 7 = .ok (.aload_n 0, 1) := by decide +kernel
theorem dX0_depthAt_8 : decode cX0_depthAt 8 = .ok (.getfield 9, 3) := by decide +kernel
theorem dX0_depthAt_11 : decode cX0_depthAt 11 = .ok (.iload_n 1, 1) := by decide +kernel
theorem dX0_depthAt_12 : decode cX0_depthAt 12 = .ok (.iaload, 1) := by decide +kernel
theorem dX0_depthAt_13 : decode cX0_depthAt 13 = .ok (.goto 4, 3) := by decide +kernel
theorem dX0_depthAt_16 : decode cX0_depthAt 16 = .ok (.iconst 0, 1) := by decide +kernel
theorem dX0_depthAt_17 : decode cX0_depthAt 17 = .ok (.ireturn, 1) := by decide +kernel
theorem dX0_slotFor_0 : decode cX0_slotFor 0 = .ok (.iload_n 1, 1) := by decide +kernel
theorem dX0_slotFor_1 : decode cX0_slotFor 1 = .ok (.invokestatic 56, 3) := by decide +kernel
theorem dX0_slotFor_4 : decode cX0_slotFor 4 = .ok (.aload_n 0, 1) := by decide +kernel
theorem dX0_slotFor_5 : decode cX0_slotFor 5 = .ok (.getfield 15, 3) := by decide +kernel
theorem dX0_slotFor_8 : decode cX0_slotFor 8 = .ok (.invokestatic 59, 3) := by decide +kernel
theorem dX0_slotFor_11 : decode cX0_slotFor 11 = .ok (.ireturn, 1) := by decide +kernel
theorem dX0_rowAt_0 : decode cX0_rowAt 0 = .ok (.iload_n 1, 1) := by decide +kernel
theorem dX0_rowAt_1 : decode cX0_rowAt 1 = .ok (.aload_n 0, 1) := by decide +kernel
theorem dX0_rowAt_2 : decode cX0_rowAt 2 = .ok (.iload_n 1, 1) := by decide +kernel
theorem dX0_rowAt_3 : decode cX0_rowAt 3 = .ok (.invokevirtual 63, 3) := by decide +kernel
theorem dX0_rowAt_6 : decode cX0_rowAt 6 = .ok (.invokestatic 59, 3) := by decide +kernel
theorem dX0_rowAt_9 : decode cX0_rowAt 9 = .ok (.ireturn, 1) := by decide +kernel
theorem dX0_rowFor_0 : decode cX0_rowFor 0 = .ok (.aload_n 0, 1) := by decide +kernel
theorem dX0_rowFor_1 : decode cX0_rowFor 1 = .ok (.aload_n 0, 1) := by decide +kernel
theorem dX0_rowFor_2 : decode cX0_rowFor 2 = .ok (.iload_n 1, 1) := by decide +kernel
theorem dX0_rowFor_3 : decode cX0_rowFor 3 = .ok (.invokevirtual 66, 3) := by decide +kernel
theorem dX0_rowFor_6 : decode cX0_rowFor 6 = .ok (.invokevirtual 48, 3) := by decide +kernel
theorem dX0_rowFor_9 : decode cX0_rowFor 9 = .ok (.ireturn, 1) := by decide +kernel
theorem dX0_find_0 : decode cX0_find 0 = .ok (.aload_n 0, 1) := by decide +kernel
theorem dX0_find_1 : decode cX0_find 1 = .ok (.getfield 40, 3) := by decide +kernel
theorem dX0_find_4 : decode cX0_find 4 = .ok (.aload_n 0, 1) := by decide +kernel
theorem dX0_find_5 : decode cX0_find 5 = .ok (.iload_n 1, 1) := by decide +kernel
theorem dX0_find_6 : decode cX0_find 6 = .ok (.invokevirtual 69, 3) := by decide +kernel
theorem dX0_find_9 : decode cX0_find 9 = .ok (.iload_n 1, 1) := by decide +kernel
theorem dX0_find_10 : decode cX0_find 10 = .ok (.invokevirtual 72, 3) := by decide +kernel
theorem dX0_find_13 : decode cX0_find 13 = .ok (.ireturn, 1) := by decide +kernel
theorem dX0_buddyAt_0 : decode cX0_buddyAt 0 = .ok (.aload_n 0, 1) := by decide +kernel
theorem dX0_buddyAt_1 : decode cX0_buddyAt 1 = .ok (.iload_n 1, 1) := by decide +kernel
theorem dX0_buddyAt_2 : decode cX0_buddyAt 2 = .ok (.invokevirtual 63, 3) := by decide +kernel
theorem dX0_buddyAt_5 : decode cX0_buddyAt 5 = .ok (.istore_n 2, 1) := by decide +kernel
theorem dX0_buddyAt_6 : decode cX0_buddyAt 6 = .ok (.iload_n 2, 1) := by decide +kernel
theorem dX0_buddyAt_7 : decode cX0_buddyAt 7 = .ok (.ifCond .gt 5, 3) := by decide +kernel
theorem dX0_buddyAt_10 : decode cX0_buddyAt 10 = .ok (.iconst (-1), 1) := by decide +kernel
theorem dX0_buddyAt_11 : decode cX0_buddyAt 11 = .ok (.ireturn, 1) := by decide +kernel
theorem dX0_buddyAt_12 : decode cX0_buddyAt 12 = .ok (.iload_n 1, 1) := by decide +kernel
theorem dX0_buddyAt_13 : decode cX0_buddyAt 13 = .ok (.iload_n 2, 1) := by decide +kernel
theorem dX0_buddyAt_14 : decode cX0_buddyAt 14 = .ok (.invokestatic 59, 3) := by decide +kernel
theorem dX0_buddyAt_17 : decode cX0_buddyAt 17 = .ok (.iconst 1, 1) := by decide +kernel
theorem dX0_buddyAt_18 : decode cX0_buddyAt 18 = .ok (.iload_n 2, 1) := by decide +kernel
theorem dX0_buddyAt_19 : decode cX0_buddyAt 19 = .ok (.iconst 1, 1) := by decide +kernel
theorem dX0_buddyAt_20 : decode cX0_buddyAt 20 = .ok (.isub, 1) := by decide +kernel
theorem dX0_buddyAt_21 : decode cX0_buddyAt 21 = .ok (.ishl, 1) := by decide +kernel
theorem dX0_buddyAt_22 : decode cX0_buddyAt 22 = .ok (.ixor, 1) := by decide +kernel
theorem dX0_buddyAt_23 : decode cX0_buddyAt 23 = .ok (.istore_n 3, 1) := by decide +kernel
theorem dX0_buddyAt_24 : decode cX0_buddyAt 24 = .ok (.aload_n 0, 1) := by decide +kernel
theorem dX0_buddyAt_25 : decode cX0_buddyAt 25 = .ok (.iload_n 3, 1) := by decide +kernel
theorem dX0_buddyAt_26 : decode cX0_buddyAt 26 = .ok (.invokevirtual 63, 3) := by decide +kernel
theorem dX0_buddyAt_29 : decode cX0_buddyAt 29 = .ok (.iload_n 2, 1) := by decide +kernel
theorem dX0_buddyAt_30 : decode cX0_buddyAt 30 = .ok (.if_icmp .ne 7, 3) := by decide +kernel
theorem dX0_buddyAt_33 : decode cX0_buddyAt 33 = .ok (.iload_n 3, 1) := by decide +kernel
theorem dX0_buddyAt_34 : decode cX0_buddyAt 34 = .ok (.goto 4, 3) := by decide +kernel
theorem dX0_buddyAt_37 : decode cX0_buddyAt 37 = .ok (.iconst (-1), 1) := by decide +kernel
theorem dX0_buddyAt_38 : decode cX0_buddyAt 38 = .ok (.ireturn, 1) := by decide +kernel
theorem dX0_setDepth_0 : decode cX0_setDepth 0 = .ok (.iload_n 1, 1) := by decide +kernel
theorem dX0_setDepth_1 : decode cX0_setDepth 1 = .ok (.invokestatic 52, 3) := by decide +kernel
theorem dX0_setDepth_4 : decode cX0_setDepth 4 = .ok (.ifCond .eq 10, 3) := by decide +kernel
theorem dX0_setDepth_7 : decode cX0_setDepth 7 = .ok (.aload_n 0, 1) := by decide +kernel
theorem dX0_setDepth_8 : decode cX0_setDepth 8 = .ok (.getfield 9, 3) := by decide +kernel
theorem dX0_setDepth_11 : decode cX0_setDepth 11 = .ok (.iload_n 1, 1) := by decide +kernel
theorem dX0_setDepth_12 : decode cX0_setDepth 12 = .ok (.iload_n 2, 1) := by decide +kernel
theorem dX0_setDepth_13 : decode cX0_setDepth 13 = .ok (.iastore, 1) := by decide +kernel
theorem dX0_setDepth_14 : decode cX0_setDepth 14 = .ok (.return_, 1) := by decide +kernel
theorem dX0_setDepths_0 : decode cX0_setDepths 0 = .ok (.aload_n 0, 1) := by decide +kernel
theorem dX0_setDepths_1 : decode cX0_setDepths 1 = .ok (.invokevirtual 44, 3) := by decide +kernel
theorem dX0_setDepths_4 : decode cX0_setDepths 4 = .ok (.istore 4, 2) := by decide +kernel
theorem dX0_setDepths_6 : decode cX0_setDepths 6 = .ok (.iload_n 1, 1) := by decide +kernel
theorem dX0_setDepths_7 : decode cX0_setDepths 7 = .ok (.istore 5, 2) := by decide +kernel
theorem dX0_setDepths_9 : decode cX0_setDepths 9 = .ok (.iload 5, 2) := by decide +kernel
theorem dX0_setDepths_11 : decode cX0_setDepths 11 = .ok (.iload 4, 2) := by decide +kernel
theorem dX0_setDepths_13 : decode cX0_setDepths 13 = .ok (.if_icmp .ge 26, 3) := by decide +kernel
theorem dX0_setDepths_16 : decode cX0_setDepths 16 = .ok (.iload 5, 2) := by decide +kernel
theorem dX0_setDepths_18 : decode cX0_setDepths 18 = .ok (.iload_n 2, 1) := by decide +kernel
theorem dX0_setDepths_19 : decode cX0_setDepths 19 = .ok (.invokestatic 59, 3) := by decide +kernel
theorem dX0_setDepths_22 : decode cX0_setDepths 22 = .ok (.iload_n 1, 1) := by decide +kernel
theorem dX0_setDepths_23 : decode cX0_setDepths 23 = .ok (.if_icmp .ne 10, 3) := by decide +kernel
theorem dX0_setDepths_26 : decode cX0_setDepths 26 = .ok (.aload_n 0, 1) := by decide +kernel
theorem dX0_setDepths_27 : decode cX0_setDepths 27 = .ok (.iload 5, 2) := by decide +kernel
theorem dX0_setDepths_29 : decode cX0_setDepths 29 = .ok (.iload_n 3, 1) := by decide +kernel
theorem dX0_setDepths_30 : decode cX0_setDepths 30 = .ok (.invokevirtual 105, 3) := by decide +kernel
theorem dX0_setDepths_33 : decode cX0_setDepths 33 = .ok (.iinc 5 1, 3) := by decide +kernel
theorem dX0_setDepths_36 : decode cX0_setDepths 36 = .ok (.goto (-27), 3) := by decide +kernel
theorem dX0_setDepths_39 : decode cX0_setDepths 39 = .ok (.return_, 1) := by decide +kernel
theorem dX0_doubleDirectory_0 : decode cX0_doubleDirectory 0 = .ok (.aload_n 0, 1) := by decide +kernel
theorem dX0_doubleDirectory_1 : decode cX0_doubleDirectory 1 = .ok (.invokevirtual 44, 3) := by decide +kernel
theorem dX0_doubleDirectory_4 : decode cX0_doubleDirectory 4 = .ok (.istore_n 1, 1) := by decide +kernel
theorem dX0_doubleDirectory_5 : decode cX0_doubleDirectory 5 = .ok (.iconst 0, 1) := by decide +kernel
theorem dX0_doubleDirectory_6 : decode cX0_doubleDirectory 6 = .ok (.istore_n 2, 1) := by decide +kernel
theorem dX0_doubleDirectory_7 : decode cX0_doubleDirectory 7 = .ok (.iload_n 2, 1) := by decide +kernel
theorem dX0_doubleDirectory_8 : decode cX0_doubleDirectory 8 = .ok (.iload_n 1, 1) := by decide +kernel
theorem dX0_doubleDirectory_9 : decode cX0_doubleDirectory 9 = .ok (.if_icmp .ge 21, 3) := by decide +kernel
theorem dX0_doubleDirectory_12 : decode cX0_doubleDirectory 12 = .ok (.aload_n 0, 1) := by decide +kernel
theorem dX0_doubleDirectory_13 : decode cX0_doubleDirectory 13 = .ok (.iload_n 2, 1) := by decide +kernel
theorem dX0_doubleDirectory_14 : decode cX0_doubleDirectory 14 = .ok (.iload_n 1, 1) := by decide +kernel
theorem dX0_doubleDirectory_15 : decode cX0_doubleDirectory 15 = .ok (.iadd, 1) := by decide +kernel
theorem dX0_doubleDirectory_16 : decode cX0_doubleDirectory 16 = .ok (.aload_n 0, 1) := by decide +kernel
theorem dX0_doubleDirectory_17 : decode cX0_doubleDirectory 17 = .ok (.iload_n 2, 1) := by decide +kernel
theorem dX0_doubleDirectory_18 : decode cX0_doubleDirectory 18 = .ok (.invokevirtual 63, 3) := by decide +kernel
theorem dX0_doubleDirectory_21 : decode cX0_doubleDirectory 21 = .ok (.invokevirtual 105, 3) := by decide +kernel
theorem dX0_doubleDirectory_24 : decode cX0_doubleDirectory 24 = .ok (.iinc 2 1, 3) := by decide +kernel
theorem dX0_doubleDirectory_27 : decode cX0_doubleDirectory 27 = .ok (.goto (-20), 3) := by decide +kernel
theorem dX0_doubleDirectory_30 : decode cX0_doubleDirectory 30 = .ok (.aload_n 0, 1) := by decide +kernel
theorem dX0_doubleDirectory_31 : decode cX0_doubleDirectory 31 = .ok (.dup, 1) := by decide +kernel
theorem dX0_doubleDirectory_32 : decode cX0_doubleDirectory 32 = .ok (.getfield 15, 3) := by decide +kernel
theorem dX0_doubleDirectory_35 : decode cX0_doubleDirectory 35 = .ok (.iconst 1, 1) := by decide +kernel
theorem dX0_doubleDirectory_36 : decode cX0_doubleDirectory 36 = .ok (.iadd, 1) := by decide +kernel
theorem dX0_doubleDirectory_37 : decode cX0_doubleDirectory 37 = .ok (.putfield 15, 3) := by decide +kernel
theorem dX0_doubleDirectory_40 : decode cX0_doubleDirectory 40 = .ok (.aload_n 0, 1) := by decide +kernel
theorem dX0_doubleDirectory_41 : decode cX0_doubleDirectory 41 = .ok (.dup, 1) := by decide +kernel
theorem dX0_doubleDirectory_42 : decode cX0_doubleDirectory 42 = .ok (.getfield 19, 3) := by decide +kernel
theorem dX0_doubleDirectory_45 : decode cX0_doubleDirectory 45 = .ok (.iconst 1, 1) := by decide +kernel
theorem dX0_doubleDirectory_46 : decode cX0_doubleDirectory 46 = .ok (.iadd, 1) := by decide +kernel
theorem dX0_doubleDirectory_47 : decode cX0_doubleDirectory 47 = .ok (.putfield 19, 3) := by decide +kernel
theorem dX0_doubleDirectory_50 : decode cX0_doubleDirectory 50 = .ok (.return_, 1) := by decide +kernel
theorem dX0_hasDepth_0 : decode cX0_hasDepth 0 = .ok (.aload_n 0, 1) := by decide +kernel
theorem dX0_hasDepth_1 : decode cX0_hasDepth 1 = .ok (.invokevirtual 44, 3) := by decide +kernel
theorem dX0_hasDepth_4 : decode cX0_hasDepth 4 = .ok (.istore_n 2, 1) := by decide +kernel
theorem dX0_hasDepth_5 : decode cX0_hasDepth 5 = .ok (.iconst 0, 1) := by decide +kernel
theorem dX0_hasDepth_6 : decode cX0_hasDepth 6 = .ok (.istore_n 3, 1) := by decide +kernel
theorem dX0_hasDepth_7 : decode cX0_hasDepth 7 = .ok (.iload_n 3, 1) := by decide +kernel
theorem dX0_hasDepth_8 : decode cX0_hasDepth 8 = .ok (.iload_n 2, 1) := by decide +kernel
theorem dX0_hasDepth_9 : decode cX0_hasDepth 9 = .ok (.if_icmp .ge 20, 3) := by decide +kernel
theorem dX0_hasDepth_12 : decode cX0_hasDepth 12 = .ok (.aload_n 0, 1) := by decide +kernel
theorem dX0_hasDepth_13 : decode cX0_hasDepth 13 = .ok (.iload_n 3, 1) := by decide +kernel
theorem dX0_hasDepth_14 : decode cX0_hasDepth 14 = .ok (.invokevirtual 63, 3) := by decide +kernel
theorem dX0_hasDepth_17 : decode cX0_hasDepth 17 = .ok (.iload_n 1, 1) := by decide +kernel
theorem dX0_hasDepth_18 : decode cX0_hasDepth 18 = .ok (.if_icmp .ne 5, 3) := by decide +kernel
theorem dX0_hasDepth_21 : decode cX0_hasDepth 21 = .ok (.iconst 1, 1) := by decide +kernel
theorem dX0_hasDepth_22 : decode cX0_hasDepth 22 = .ok (.ireturn, 1) := by decide +kernel
theorem dX0_hasDepth_23 : decode cX0_hasDepth 23 = .ok (.iinc 3 1, 3) := by decide +kernel
theorem dX0_hasDepth_26 : decode cX0_hasDepth 26 = .ok (.goto (-19), 3) := by decide +kernel
theorem dX0_hasDepth_29 : decode cX0_hasDepth 29 = .ok (.iconst 0, 1) := by decide +kernel
theorem dX0_hasDepth_30 : decode cX0_hasDepth 30 = .ok (.ireturn, 1) := by decide +kernel
theorem dX0_halveWhilePossible_0 : decode cX0_halveWhilePossible 0 = .ok (.aload_n 0, 1) := by decide +kernel
theorem dX0_halveWhilePossible_1 : decode cX0_halveWhilePossible 1 = .ok (.getfield 15, 3) := by decide +kernel
theorem dX0_halveWhilePossible_4 : decode cX0_halveWhilePossible 4 = .ok (.istore_n 1, 1) := by decide +kernel
theorem dX0_halveWhilePossible_5 : decode cX0_halveWhilePossible 5 = .ok (.iload_n 1, 1) := by decide +kernel
theorem dX0_halveWhilePossible_6 : decode cX0_halveWhilePossible 6 = .ok (.ifCond .le 34, 3) := by decide +kernel
theorem dX0_halveWhilePossible_9 : decode cX0_halveWhilePossible 9 = .ok (.aload_n 0, 1) := by decide +kernel
theorem dX0_halveWhilePossible_10 : decode cX0_halveWhilePossible 10 = .ok (.iload_n 1, 1) := by decide +kernel
theorem dX0_halveWhilePossible_11 : decode cX0_halveWhilePossible 11 = .ok (.invokevirtual 128, 3) := by decide +kernel
theorem dX0_halveWhilePossible_14 : decode cX0_halveWhilePossible 14 = .ok (.ifCond .ne 26, 3) := by decide +kernel
theorem dX0_halveWhilePossible_17 : decode cX0_halveWhilePossible 17 = .ok (.aload_n 0, 1) := by decide +kernel
theorem dX0_halveWhilePossible_18 : decode cX0_halveWhilePossible 18 = .ok (.iload_n 1, 1) := by decide +kernel
theorem dX0_halveWhilePossible_19 : decode cX0_halveWhilePossible 19 = .ok (.iconst 1, 1) := by decide +kernel
theorem dX0_halveWhilePossible_20 : decode cX0_halveWhilePossible 20 = .ok (.isub, 1) := by decide +kernel
theorem dX0_halveWhilePossible_21 : decode cX0_halveWhilePossible 21 = .ok (.putfield 15, 3) := by decide +kernel
theorem dX0_halveWhilePossible_24 : decode cX0_halveWhilePossible 24 = .ok (.aload_n 0, 1) := by decide +kernel
theorem dX0_halveWhilePossible_25 : decode cX0_halveWhilePossible 25 = .ok (.dup, 1) := by decide +kernel
theorem dX0_halveWhilePossible_26 : decode cX0_halveWhilePossible 26 = .ok (.getfield 22, 3) := by decide +kernel
theorem dX0_halveWhilePossible_29 : decode cX0_halveWhilePossible 29 = .ok (.iconst 1, 1) := by decide +kernel
theorem dX0_halveWhilePossible_30 : decode cX0_halveWhilePossible 30 = .ok (.iadd, 1) := by decide +kernel
theorem dX0_halveWhilePossible_31 : decode cX0_halveWhilePossible 31 = .ok (.putfield 22, 3) := by decide +kernel
theorem dX0_halveWhilePossible_34 : decode cX0_halveWhilePossible 34 = .ok (.iinc 1 (-1), 3) := by decide +kernel
theorem dX0_halveWhilePossible_37 : decode cX0_halveWhilePossible 37 = .ok (.goto (-32), 3) := by decide +kernel
theorem dX0_halveWhilePossible_40 : decode cX0_halveWhilePossible 40 = .ok (.return_, 1) := by decide +kernel
theorem dX0_canMerge_0 : decode cX0_canMerge 0 = .ok (.aload_n 0, 1) := by decide +kernel
theorem dX0_canMerge_1 : decode cX0_canMerge 1 = .ok (.iload_n 1, 1) := by decide +kernel
theorem dX0_canMerge_2 : decode cX0_canMerge 2 = .ok (.invokevirtual 122, 3) := by decide +kernel
theorem dX0_canMerge_5 : decode cX0_canMerge 5 = .ok (.istore_n 2, 1) := by decide +kernel
theorem dX0_canMerge_6 : decode cX0_canMerge 6 = .ok (.iload_n 2, 1) := by decide +kernel
theorem dX0_canMerge_7 : decode cX0_canMerge 7 = .ok (.iconst (-1), 1) := by decide +kernel
theorem dX0_canMerge_8 : decode cX0_canMerge 8 = .ok (.if_icmp .eq 34, 3) := by decide +kernel
theorem dX0_canMerge_11 : decode cX0_canMerge 11 = .ok (.aload_n 0, 1) := by decide +kernel
theorem dX0_canMerge_12 : decode cX0_canMerge 12 = .ok (.getfield 40, 3) := by decide +kernel
theorem dX0_canMerge_15 : decode cX0_canMerge 15 = .ok (.iload_n 1, 1) := by decide +kernel
theorem dX0_canMerge_16 : decode cX0_canMerge 16 = .ok (.invokevirtual 80, 3) := by decide +kernel
theorem dX0_canMerge_19 : decode cX0_canMerge 19 = .ok (.aload_n 0, 1) := by decide +kernel
theorem dX0_canMerge_20 : decode cX0_canMerge 20 = .ok (.getfield 40, 3) := by decide +kernel
theorem dX0_canMerge_23 : decode cX0_canMerge 23 = .ok (.iload_n 2, 1) := by decide +kernel
theorem dX0_canMerge_24 : decode cX0_canMerge 24 = .ok (.invokevirtual 80, 3) := by decide +kernel
theorem dX0_canMerge_27 : decode cX0_canMerge 27 = .ok (.iadd, 1) := by decide +kernel
theorem dX0_canMerge_28 : decode cX0_canMerge 28 = .ok (.aload_n 0, 1) := by decide +kernel
theorem dX0_canMerge_29 : decode cX0_canMerge 29 = .ok (.getfield 31, 3) := by decide +kernel
theorem dX0_canMerge_32 : decode cX0_canMerge 32 = .ok (.getfield 83, 3) := by decide +kernel
theorem dX0_canMerge_35 : decode cX0_canMerge 35 = .ok (.if_icmp .gt 7, 3) := by decide +kernel
theorem dX0_canMerge_38 : decode cX0_canMerge 38 = .ok (.iconst 1, 1) := by decide +kernel
theorem dX0_canMerge_39 : decode cX0_canMerge 39 = .ok (.goto 4, 3) := by decide +kernel
theorem dX0_canMerge_42 : decode cX0_canMerge 42 = .ok (.iconst 0, 1) := by decide +kernel
theorem dX0_canMerge_43 : decode cX0_canMerge 43 = .ok (.ireturn, 1) := by decide +kernel
set_option maxHeartbeats 4000000 in
set_option maxRecDepth 100000 in
theorem c_X0_countSlots (l : Launch) (D : va_G) (cy : ClassId) (a : Nat → Nat) (key : Nat → Nat) (val : Nat → Nat) (ord : Nat → Nat) (tk : Nat) (cp : Nat) (efi : Nat → Nat) (ela : Nat → Nat) (eco : Nat → Nat) (ene : Nat → Nat) (ldp : Nat → Nat) (dp : Nat) (dbl : Int32) (hlv : Int32) (spl : Int32) (mrg : Int32) (lfi : Nat → Nat) (lla : Nat → Nat) (lco : Nat → Nat) (lne : Nat → Nat) (lev : Nat) (ptr : Nat) (llo : Nat) (lhi : Nat) (lsp : Int32)  (hdp : dp ≤ 8)  : tq_F l yX0_countSlots cX0_countSlots 1 (some .int) 0 0 D cy (wC cy a key val ord tk cp efi ela eco ene ldp dp dbl hlv spl mrg lfi lla lco lne lev ptr llo lhi lsp) [.ref (a 2)] (fun r => r = (nI (2 ^ dp))) := by
  refine tq_F.mk (by decide) (Nat.le_of_ble_eq_true rfl) ?_
  intro p e s m args below meth c C hP hK ls hl
  obtain ⟨hx, hb, hml, hown, hrt, hlk, hT⟩ := id C
  have hl : lv_has ls 1 [(0, .ref (a 2))] := hl
  refine lv_iconst (v := nI 1) hx hb dX0_countSlots_0 (by decide) ?_
  refine lv_aload_n hx hb dX0_countSlots_1 rfl (lv_at hl 0 rfl) ?_
  refine tq_get (C0 := RX0) (T := TX0) (N := 8) (ci := 0) (k := 3) C gX0 inX0 rfl (by decide) rfl fl_X0_15 hK hP 2 rfl rfl dX0_countSlots_2 ?_
  refine tq_ishl C (by omega) (by have := p8 hdp; omega) dX0_countSlots_5 ?_
  refine tq_top (y := nI (2 ^ dp)) (by rw [Nat.one_mul]) ?_
  exact tq_fret (v := (nI (2 ^ dp))) C rfl (rfl) dX0_countSlots_6
set_option maxHeartbeats 4000000 in
set_option maxRecDepth 100000 in
theorem c_X0_depthAt (l : Launch) (D : va_G) (cy : ClassId) (a : Nat → Nat) (key : Nat → Nat) (val : Nat → Nat) (ord : Nat → Nat) (tk : Nat) (cp : Nat) (efi : Nat → Nat) (ela : Nat → Nat) (eco : Nat → Nat) (ene : Nat → Nat) (ldp : Nat → Nat) (dp : Nat) (dbl : Int32) (hlv : Int32) (spl : Int32) (mrg : Int32) (lfi : Nat → Nat) (lla : Nat → Nat) (lco : Nat → Nat) (lne : Nat → Nat) (lev : Nat) (ptr : Nat) (llo : Nat) (lhi : Nat) (lsp : Int32) (sl : Nat) (hsl : sl < 256) : tq_F l yX0_depthAt cX0_depthAt 2 (some .int) 1 20 D cy (wC cy a key val ord tk cp efi ela eco ene ldp dp dbl hlv spl mrg lfi lla lco lne lev ptr llo lhi lsp) [.ref (a 2), .int (nI (sl))] (fun r => r = (nI (ldp sl))) := by
  refine tq_F.mk (by decide) (Nat.le_of_ble_eq_true rfl) ?_
  intro p e s m args below meth c C hP hK ls hl
  obtain ⟨hx, hb, hml, hown, hrt, hlk, hT⟩ := id C
  have hl : lv_has ls 2 [(0, .ref (a 2)), (1, .int (nI (sl)))] := hl
  refine lv_iload_n hx hb dX0_depthAt_0 rfl (lv_at hl 1 rfl) ?_
  refine tq_callF (va_runSN C.fix (As := [.int (nI (sl))]) (rest := []) (c_X4_isRow l D cy sl hsl) (tq_cN (n := 1) C mn_X0_52 sm_X4_isRow ini_X4 cd_X4_isRow ⟨by decide, by decide, by decide +kernel⟩ ⟨Nat.le_of_ble_eq_true rfl, Nat.le_of_ble_eq_true rfl⟩) ⟨tq_Pf.blind, tq_preF C hK (hP.sub [] rfl)⟩ rfl rfl hl.1 rfl (lv_room (Nat.le_of_ble_eq_true rfl)) dX0_depthAt_1 ⟨Nat.le_of_ble_eq_true rfl, Nat.le_of_ble_eq_true rfl⟩) (fun r1 hr1 => ?_)
  obtain rfl := hr1
  refine lv_if_eq (tgt := 16) hx hb dX0_depthAt_4 (by decide) (fun h9 => absurd h9 (by decide)) (fun _ => ?_)
  refine lv_aload_n hx hb dX0_depthAt_7 rfl (lv_at hl 0 rfl) ?_
  refine tq_get (C0 := RX0) (T := TX0) (N := 8) (ci := 0) (k := 2) C gX0 inX0 rfl (by decide) rfl fl_X0_9 hK hP 2 rfl rfl dX0_depthAt_8 ?_
  refine lv_iload_n hx hb dX0_depthAt_11 rfl (lv_at hl 1 rfl) ?_
  refine tq_iald (n := 256) (i := sl) (f := ldp) C hK hP 8 0 rfl rfl (by omega) (Nat.le_of_ble_eq_true rfl) dX0_depthAt_12 ?_
  refine lv_goto (tgt := 17) hx hb dX0_depthAt_13 (by decide) ?_
  exact tq_fret (v := (nI (ldp sl))) C rfl (rfl) dX0_depthAt_17
set_option maxHeartbeats 4000000 in
set_option maxRecDepth 100000 in
theorem c_X0_slotFor (l : Launch) (D : va_G) (cy : ClassId) (a : Nat → Nat) (key : Nat → Nat) (val : Nat → Nat) (ord : Nat → Nat) (tk : Nat) (cp : Nat) (efi : Nat → Nat) (ela : Nat → Nat) (eco : Nat → Nat) (ene : Nat → Nat) (ldp : Nat → Nat) (dp : Nat) (dbl : Int32) (hlv : Int32) (spl : Int32) (mrg : Int32) (lfi : Nat → Nat) (lla : Nat → Nat) (lco : Nat → Nat) (lne : Nat → Nat) (lev : Nat) (ptr : Nat) (llo : Nat) (lhi : Nat) (lsp : Int32) (kx : Nat) (hdp : dp ≤ 8) (hkx : kx < 65536) : tq_F l yX0_slotFor cX0_slotFor 2 (some .int) 2 41 D cy (wC cy a key val ord tk cp efi ela eco ene ldp dp dbl hlv spl mrg lfi lla lco lne lev ptr llo lhi lsp) [.ref (a 2), .int (nI (kx))] (fun r => r = (nI (hs kx % 2 ^ dp))) := by
  refine tq_F.mk (by decide) (Nat.le_of_ble_eq_true rfl) ?_
  intro p e s m args below meth c C hP hK ls hl
  obtain ⟨hx, hb, hml, hown, hrt, hlk, hT⟩ := id C
  have hl : lv_has ls 2 [(0, .ref (a 2)), (1, .int (nI (kx)))] := hl
  refine lv_iload_n hx hb dX0_slotFor_0 rfl (lv_at hl 1 rfl) ?_
  refine tq_callF (va_runSN C.fix (As := [.int (nI (kx))]) (rest := []) (c_X4_hash l D cy kx hkx) (tq_cN (n := 1) C mn_X0_56 sm_X4_hash ini_X4 cd_X4_hash ⟨by decide, by decide, by decide +kernel⟩ ⟨Nat.le_of_ble_eq_true rfl, Nat.le_of_ble_eq_true rfl⟩) ⟨tq_Pf.blind, tq_preF C hK (hP.sub [] rfl)⟩ rfl rfl hl.1 rfl (lv_room (Nat.le_of_ble_eq_true rfl)) dX0_slotFor_1 ⟨Nat.le_of_ble_eq_true rfl, Nat.le_of_ble_eq_true rfl⟩) (fun r1 hr1 => ?_)
  obtain rfl := hr1
  refine lv_aload_n hx hb dX0_slotFor_4 rfl (lv_at hl 0 rfl) ?_
  refine tq_get (C0 := RX0) (T := TX0) (N := 8) (ci := 0) (k := 3) C gX0 inX0 rfl (by decide) rfl fl_X0_15 hK hP 2 rfl rfl dX0_slotFor_5 ?_
  refine tq_callF (va_runSN C.fix (As := [.int (nI (hs kx)), .int (nI (dp))]) (rest := []) (c_X4_lowBits l D cy (hs kx) dp (by have := hs_lt kx; omega) (by omega)) (tq_cN (n := 2) C mn_X0_59 sm_X4_lowBits ini_X4 cd_X4_lowBits ⟨by decide, by decide, by decide +kernel⟩ ⟨Nat.le_of_ble_eq_true rfl, Nat.le_of_ble_eq_true rfl⟩) ⟨tq_Pf.blind, tq_preF C hK (hP.sub [] rfl)⟩ rfl rfl hl.1 rfl (lv_room (Nat.le_of_ble_eq_true rfl)) dX0_slotFor_8 ⟨Nat.le_of_ble_eq_true rfl, Nat.le_of_ble_eq_true rfl⟩) (fun r8 hr8 => ?_)
  obtain rfl := hr8
  exact tq_fret (v := (nI ((hs kx) % 2 ^ dp))) C rfl (rfl) dX0_slotFor_11
set_option maxHeartbeats 4000000 in
set_option maxRecDepth 100000 in
theorem c_X0_rowAt (l : Launch) (D : va_G) (cy : ClassId) (a : Nat → Nat) (key : Nat → Nat) (val : Nat → Nat) (ord : Nat → Nat) (tk : Nat) (cp : Nat) (efi : Nat → Nat) (ela : Nat → Nat) (eco : Nat → Nat) (ene : Nat → Nat) (ldp : Nat → Nat) (dp : Nat) (dbl : Int32) (hlv : Int32) (spl : Int32) (mrg : Int32) (lfi : Nat → Nat) (lla : Nat → Nat) (lco : Nat → Nat) (lne : Nat → Nat) (lev : Nat) (ptr : Nat) (llo : Nat) (lhi : Nat) (lsp : Int32) (sl : Nat) (hld : ∀ q, q < 256 → ldp q ≤ 8) (hsl : sl < 256) : tq_F l yX0_rowAt cX0_rowAt 2 (some .int) 2 41 D cy (wC cy a key val ord tk cp efi ela eco ene ldp dp dbl hlv spl mrg lfi lla lco lne lev ptr llo lhi lsp) [.ref (a 2), .int (nI (sl))] (fun r => r = (nI (sl % 2 ^ ldp sl))) := by
  refine tq_F.mk (by decide) (Nat.le_of_ble_eq_true rfl) ?_
  intro p e s m args below meth c C hP hK ls hl
  obtain ⟨hx, hb, hml, hown, hrt, hlk, hT⟩ := id C
  have hl : lv_has ls 2 [(0, .ref (a 2)), (1, .int (nI (sl)))] := hl
  refine lv_iload_n hx hb dX0_rowAt_0 rfl (lv_at hl 1 rfl) ?_
  refine lv_aload_n hx hb dX0_rowAt_1 rfl (lv_at hl 0 rfl) ?_
  refine lv_iload_n hx hb dX0_rowAt_2 rfl (lv_at hl 1 rfl) ?_
  refine tq_callF (va_runV C.fix (As := [.int (nI (sl))]) (rest := [.int (nI (sl))]) (c_X0_depthAt l D cy a key val ord tk cp efi ela eco ene ldp dp dbl hlv spl mrg lfi lla lco lne lev ptr llo lhi lsp sl hsl) (tq_cV (n := 1) C ml_X0_63 im_X0_depthAt se_X0_depthAt ini_X0 cd_X0_depthAt ⟨by decide, by decide, by decide +kernel⟩ ⟨Nat.le_of_ble_eq_true rfl, Nat.le_of_ble_eq_true rfl⟩) ⟨tq_Pf.blind, va_recv hK hP (ci := 0) (q0 := 2) rfl rfl, tq_preF C hK hP⟩ rfl rfl hl.1 rfl (lv_room (Nat.le_of_ble_eq_true rfl)) dX0_rowAt_3 ⟨Nat.le_of_ble_eq_true rfl, Nat.le_of_ble_eq_true rfl⟩) (fun r3 hr3 => ?_)
  obtain rfl := hr3
  refine tq_callF (va_runSN C.fix (As := [.int (nI (sl)), .int (nI (ldp sl))]) (rest := []) (c_X4_lowBits l D cy sl (ldp sl) (by omega) (by have := hld sl hsl; omega)) (tq_cN (n := 2) C mn_X0_59 sm_X4_lowBits ini_X4 cd_X4_lowBits ⟨by decide, by decide, by decide +kernel⟩ ⟨Nat.le_of_ble_eq_true rfl, Nat.le_of_ble_eq_true rfl⟩) ⟨tq_Pf.blind, tq_preF C hK (hP.sub [] rfl)⟩ rfl rfl hl.1 rfl (lv_room (Nat.le_of_ble_eq_true rfl)) dX0_rowAt_6 ⟨Nat.le_of_ble_eq_true rfl, Nat.le_of_ble_eq_true rfl⟩) (fun r6 hr6 => ?_)
  obtain rfl := hr6
  exact tq_fret (v := (nI (sl % 2 ^ (ldp sl)))) C rfl (rfl) dX0_rowAt_9
set_option maxHeartbeats 4000000 in
set_option maxRecDepth 100000 in
theorem c_X0_rowFor (l : Launch) (D : va_G) (cy : ClassId) (a : Nat → Nat) (key : Nat → Nat) (val : Nat → Nat) (ord : Nat → Nat) (tk : Nat) (cp : Nat) (efi : Nat → Nat) (ela : Nat → Nat) (eco : Nat → Nat) (ene : Nat → Nat) (ldp : Nat → Nat) (dp : Nat) (dbl : Int32) (hlv : Int32) (spl : Int32) (mrg : Int32) (lfi : Nat → Nat) (lla : Nat → Nat) (lco : Nat → Nat) (lne : Nat → Nat) (lev : Nat) (ptr : Nat) (llo : Nat) (lhi : Nat) (lsp : Int32) (kx : Nat) (hdp : dp ≤ 8) (hld : ∀ q, q < 256 → ldp q ≤ 8) (hkx : kx < 65536) : tq_F l yX0_rowFor cX0_rowFor 2 (some .int) 3 62 D cy (wC cy a key val ord tk cp efi ela eco ene ldp dp dbl hlv spl mrg lfi lla lco lne lev ptr llo lhi lsp) [.ref (a 2), .int (nI (kx))] (fun r => r = (nI (xrow ldp dp kx))) := by
  refine tq_F.mk (by decide) (Nat.le_of_ble_eq_true rfl) ?_
  intro p e s m args below meth c C hP hK ls hl
  obtain ⟨hx, hb, hml, hown, hrt, hlk, hT⟩ := id C
  have hl : lv_has ls 2 [(0, .ref (a 2)), (1, .int (nI (kx)))] := hl
  refine lv_aload_n hx hb dX0_rowFor_0 rfl (lv_at hl 0 rfl) ?_
  refine lv_aload_n hx hb dX0_rowFor_1 rfl (lv_at hl 0 rfl) ?_
  refine lv_iload_n hx hb dX0_rowFor_2 rfl (lv_at hl 1 rfl) ?_
  refine tq_callF (va_runV C.fix (As := [.int (nI (kx))]) (rest := [.ref (a 2)]) (c_X0_slotFor l D cy a key val ord tk cp efi ela eco ene ldp dp dbl hlv spl mrg lfi lla lco lne lev ptr llo lhi lsp kx hdp hkx) (tq_cV (n := 1) C ml_X0_66 im_X0_slotFor se_X0_slotFor ini_X0 cd_X0_slotFor ⟨by decide, by decide, by decide +kernel⟩ ⟨Nat.le_of_ble_eq_true rfl, Nat.le_of_ble_eq_true rfl⟩) ⟨tq_Pf.blind, va_recv hK hP (ci := 0) (q0 := 2) rfl rfl, tq_preF C hK hP⟩ rfl rfl hl.1 rfl (lv_room (Nat.le_of_ble_eq_true rfl)) dX0_rowFor_3 ⟨Nat.le_of_ble_eq_true rfl, Nat.le_of_ble_eq_true rfl⟩) (fun r3 hr3 => ?_)
  obtain rfl := hr3
  refine tq_callF (va_runV C.fix (As := [.int (nI (hs kx % 2 ^ dp))]) (rest := []) (c_X0_rowAt l D cy a key val ord tk cp efi ela eco ene ldp dp dbl hlv spl mrg lfi lla lco lne lev ptr llo lhi lsp (hs kx % 2 ^ dp) hld (m2 hdp)) (tq_cV (n := 1) C ml_X0_48 im_X0_rowAt se_X0_rowAt ini_X0 cd_X0_rowAt ⟨by decide, by decide, by decide +kernel⟩ ⟨Nat.le_of_ble_eq_true rfl, Nat.le_of_ble_eq_true rfl⟩) ⟨tq_Pf.blind, va_recv hK hP (ci := 0) (q0 := 2) rfl rfl, tq_preF C hK hP⟩ rfl rfl hl.1 rfl (lv_room (Nat.le_of_ble_eq_true rfl)) dX0_rowFor_6 ⟨Nat.le_of_ble_eq_true rfl, Nat.le_of_ble_eq_true rfl⟩) (fun r6 hr6 => ?_)
  obtain rfl := hr6
  exact tq_fret (v := (nI ((hs kx % 2 ^ dp) % 2 ^ ldp (hs kx % 2 ^ dp)))) C rfl (rfl) dX0_rowFor_9
set_option maxHeartbeats 4000000 in
set_option maxRecDepth 100000 in
theorem c_X0_find (l : Launch) (D : va_G) (cy : ClassId) (a : Nat → Nat) (key : Nat → Nat) (val : Nat → Nat) (ord : Nat → Nat) (tk : Nat) (cp : Nat) (efi : Nat → Nat) (ela : Nat → Nat) (eco : Nat → Nat) (ene : Nat → Nat) (ldp : Nat → Nat) (dp : Nat) (dbl : Int32) (hlv : Int32) (spl : Int32) (mrg : Int32) (lfi : Nat → Nat) (lla : Nat → Nat) (lco : Nat → Nat) (lne : Nat → Nat) (lev : Nat) (ptr : Nat) (llo : Nat) (lhi : Nat) (lsp : Int32) (kx : Nat) (hdp : dp ≤ 8) (hld : ∀ q, q < 256 → ldp q ≤ 8) (rows : Nat → List Nat) (hRR : RR efi ela eco ene rows) (hkey : ∀ e, 1 ≤ e → e ≤ 120 → key e < 65536) (hkx : kx < 65536) : tq_F l yX0_find cX0_find 2 (some .int) 4 89 D cy (wC cy a key val ord tk cp efi ela eco ene ldp dp dbl hlv spl mrg lfi lla lco lne lev ptr llo lhi lsp) [.ref (a 2), .int (nI (kx))] (fun r => (∃ en, en ∈ rows (xrow ldp dp kx) ∧ key en = kx ∧ r = nI en) ∨ ((∀ en, en ∈ rows (xrow ldp dp kx) → key en ≠ kx) ∧ r = nI 0)) := by
  refine tq_F.mk (by decide) (Nat.le_of_ble_eq_true rfl) ?_
  intro p e s m args below meth c C hP hK ls hl
  obtain ⟨hx, hb, hml, hown, hrt, hlk, hT⟩ := id C
  have hl : lv_has ls 2 [(0, .ref (a 2)), (1, .int (nI (kx)))] := hl
  refine lv_aload_n hx hb dX0_find_0 rfl (lv_at hl 0 rfl) ?_
  refine tq_get (C0 := RX0) (T := TX0) (N := 8) (ci := 0) (k := 1) C gX0 inX0 rfl (by decide) rfl fl_X0_40 hK hP 2 rfl rfl dX0_find_1 ?_
  refine lv_aload_n hx hb dX0_find_4 rfl (lv_at hl 0 rfl) ?_
  refine lv_iload_n hx hb dX0_find_5 rfl (lv_at hl 1 rfl) ?_
  refine tq_callF (va_runV C.fix (As := [.int (nI (kx))]) (rest := [.ref (a 7)]) (c_X0_rowFor l D cy a key val ord tk cp efi ela eco ene ldp dp dbl hlv spl mrg lfi lla lco lne lev ptr llo lhi lsp kx hdp hld hkx) (tq_cV (n := 1) C ml_X0_69 im_X0_rowFor se_X0_rowFor ini_X0 cd_X0_rowFor ⟨by decide, by decide, by decide +kernel⟩ ⟨Nat.le_of_ble_eq_true rfl, Nat.le_of_ble_eq_true rfl⟩) ⟨tq_Pf.blind, va_recv hK hP (ci := 0) (q0 := 2) rfl rfl, tq_preF C hK hP⟩ rfl rfl hl.1 rfl (lv_room (Nat.le_of_ble_eq_true rfl)) dX0_find_6 ⟨Nat.le_of_ble_eq_true rfl, Nat.le_of_ble_eq_true rfl⟩) (fun r6 hr6 => ?_)
  obtain rfl := hr6
  refine lv_iload_n hx hb dX0_find_9 rfl (lv_at hl 1 rfl) ?_
  refine tq_callF (va_runV C.fix (As := [.int (nI (xrow ldp dp kx)), .int (nI (kx))]) (rest := []) (c_X2_find l D cy (a 7) (a 10) (a 11) (a 12) (a 13) (a 1) (a 4) (a 5) (a 6) efi ela eco ene key tk cp (xrow ldp dp kx) kx rows hRR hkey (xrow_lt hdp) hkx) (tq_cV (n := 2) C ml_X0_72 im_X2_find se_X2_find ini_X2 cd_X2_find ⟨by decide, by decide, by decide +kernel⟩ ⟨Nat.le_of_ble_eq_true rfl, Nat.le_of_ble_eq_true rfl⟩) ⟨tq_Pf.blind, va_recv hK hP (ci := 2) (q0 := 7) rfl rfl, tq_preF C hK (hP.sub [7, 10, 11, 12, 13, 1, 4] rfl)⟩ rfl rfl hl.1 rfl (lv_room (Nat.le_of_ble_eq_true rfl)) dX0_find_10 ⟨Nat.le_of_ble_eq_true rfl, Nat.le_of_ble_eq_true rfl⟩) (fun r10 hr10 => ?_)
  exact tq_fret (v := (r10)) C rfl (hr10) dX0_find_13
set_option maxHeartbeats 4000000 in
set_option maxRecDepth 100000 in
theorem c_X0_buddyAt (l : Launch) (D : va_G) (cy : ClassId) (a : Nat → Nat) (key : Nat → Nat) (val : Nat → Nat) (ord : Nat → Nat) (tk : Nat) (cp : Nat) (efi : Nat → Nat) (ela : Nat → Nat) (eco : Nat → Nat) (ene : Nat → Nat) (ldp : Nat → Nat) (dp : Nat) (dbl : Int32) (hlv : Int32) (spl : Int32) (mrg : Int32) (lfi : Nat → Nat) (lla : Nat → Nat) (lco : Nat → Nat) (lne : Nat → Nat) (lev : Nat) (ptr : Nat) (llo : Nat) (lhi : Nat) (lsp : Int32) (sl : Nat) (hld : ∀ q, q < 256 → ldp q ≤ 8) (hsl : sl < 256) : tq_F l yX0_buddyAt cX0_buddyAt 4 (some .int) 2 41 D cy (wC cy a key val ord tk cp efi ela eco ene ldp dp dbl hlv spl mrg lfi lla lco lne lev ptr llo lhi lsp) [.ref (a 2), .int (nI (sl))] (fun r => (ldp sl = 0 ∧ r = -1) ∨ (0 < ldp sl ∧ ldp (bdy ldp sl) = ldp sl ∧ r = nI (bdy ldp sl)) ∨ (0 < ldp sl ∧ ldp (bdy ldp sl) ≠ ldp sl ∧ r = -1)) := by
  refine tq_F.mk (by decide) (Nat.le_of_ble_eq_true rfl) ?_
  intro p e s m args below meth c C hP hK ls hl
  obtain ⟨hx, hb, hml, hown, hrt, hlk, hT⟩ := id C
  have hl : lv_has ls 4 [(0, .ref (a 2)), (1, .int (nI (sl)))] := hl
  have hl9 := hld sl hsl
  refine lv_aload_n hx hb dX0_buddyAt_0 rfl (lv_at hl 0 rfl) ?_
  refine lv_iload_n hx hb dX0_buddyAt_1 rfl (lv_at hl 1 rfl) ?_
  refine tq_callF (va_runV C.fix (As := [.int (nI (sl))]) (rest := []) (c_X0_depthAt l D cy a key val ord tk cp efi ela eco ene ldp dp dbl hlv spl mrg lfi lla lco lne lev ptr llo lhi lsp sl hsl) (tq_cV (n := 1) C ml_X0_63 im_X0_depthAt se_X0_depthAt ini_X0 cd_X0_depthAt ⟨by decide, by decide, by decide +kernel⟩ ⟨Nat.le_of_ble_eq_true rfl, Nat.le_of_ble_eq_true rfl⟩) ⟨tq_Pf.blind, va_recv hK hP (ci := 0) (q0 := 2) rfl rfl, tq_preF C hK hP⟩ rfl rfl hl.1 rfl (lv_room (Nat.le_of_ble_eq_true rfl)) dX0_buddyAt_2 ⟨Nat.le_of_ble_eq_true rfl, Nat.le_of_ble_eq_true rfl⟩) (fun r2 hr2 => ?_)
  obtain rfl := hr2
  refine lv_istore_n (lv' := [(2, .int (nI (ldp sl))), (0, .ref (a 2)), (1, .int (nI (sl)))]) hx hb dX0_buddyAt_5 rfl hl (by decide) rfl (fun ls hl => ?_)
  refine lv_iload_n hx hb dX0_buddyAt_6 rfl (lv_at hl 0 rfl) ?_
  refine tq_if_gt (tgt := 12) C (by omega) dX0_buddyAt_7 (by decide) (fun h7 => ?_) (fun h7 => ?_)
  · refine lv_iload_n hx hb dX0_buddyAt_12 rfl (lv_at hl 2 rfl) ?_
    refine lv_iload_n hx hb dX0_buddyAt_13 rfl (lv_at hl 0 rfl) ?_
    refine tq_callF (va_runSN C.fix (As := [.int (nI (sl)), .int (nI (ldp sl))]) (rest := []) (c_X4_lowBits l D cy sl (ldp sl) (by omega) (by omega)) (tq_cN (n := 2) C mn_X0_59 sm_X4_lowBits ini_X4 cd_X4_lowBits ⟨by decide, by decide, by decide +kernel⟩ ⟨Nat.le_of_ble_eq_true rfl, Nat.le_of_ble_eq_true rfl⟩) ⟨tq_Pf.blind, tq_preF C hK (hP.sub [] rfl)⟩ rfl rfl hl.1 rfl (lv_room (Nat.le_of_ble_eq_true rfl)) dX0_buddyAt_14 ⟨Nat.le_of_ble_eq_true rfl, Nat.le_of_ble_eq_true rfl⟩) (fun r14 hr14 => ?_)
    obtain rfl := hr14
    refine lv_iconst (v := nI 1) hx hb dX0_buddyAt_17 (by decide) ?_
    refine lv_iload_n hx hb dX0_buddyAt_18 rfl (lv_at hl 0 rfl) ?_
    refine lv_iconst (v := nI 1) hx hb dX0_buddyAt_19 (by decide) ?_
    refine tq_isub C (by omega) dX0_buddyAt_20 ?_
    refine tq_ishl C (by omega) (by have := p7 (dp := ldp sl - 1) (by omega); omega) dX0_buddyAt_21 ?_
    refine tq_top (y := nI (2 ^ ((ldp sl) - 1))) (by rw [Nat.one_mul]) ?_
    refine tq_ixor C (by have := m2 (dp := ldp sl) (x := sl) hl9; omega) (by have := p7 (dp := ldp sl - 1) (by omega); omega) dX0_buddyAt_22 ?_
    have hb9 := bdy_lt hl9 h7
    have hb8 := hld _ hb9
    refine lv_istore_n (lv' := [(3, .int (nI (bdy ldp sl))), (2, .int (nI (ldp sl))), (0, .ref (a 2)), (1, .int (nI (sl)))]) hx hb dX0_buddyAt_23 rfl hl (by decide) rfl (fun ls hl => ?_)
    refine lv_aload_n hx hb dX0_buddyAt_24 rfl (lv_at hl 2 rfl) ?_
    refine lv_iload_n hx hb dX0_buddyAt_25 rfl (lv_at hl 0 rfl) ?_
    refine tq_callF (va_runV C.fix (As := [.int (nI (bdy ldp sl))]) (rest := []) (c_X0_depthAt l D cy a key val ord tk cp efi ela eco ene ldp dp dbl hlv spl mrg lfi lla lco lne lev ptr llo lhi lsp (bdy ldp sl) hb9) (tq_cV (n := 1) C ml_X0_63 im_X0_depthAt se_X0_depthAt ini_X0 cd_X0_depthAt ⟨by decide, by decide, by decide +kernel⟩ ⟨Nat.le_of_ble_eq_true rfl, Nat.le_of_ble_eq_true rfl⟩) ⟨tq_Pf.blind, va_recv hK hP (ci := 0) (q0 := 2) rfl rfl, tq_preF C hK hP⟩ rfl rfl hl.1 rfl (lv_room (Nat.le_of_ble_eq_true rfl)) dX0_buddyAt_26 ⟨Nat.le_of_ble_eq_true rfl, Nat.le_of_ble_eq_true rfl⟩) (fun r26 hr26 => ?_)
    obtain rfl := hr26
    refine lv_iload_n hx hb dX0_buddyAt_29 rfl (lv_at hl 1 rfl) ?_
    refine tq_icmp_ne (tgt := 37) C (by omega) (by omega) dX0_buddyAt_30 (by decide) (fun h30 => ?_) (fun h30 => ?_)
    · refine lv_iconst (v := (-1)) hx hb dX0_buddyAt_37 (by decide) ?_
      exact tq_fret (v := ((-1))) C rfl (Or.inr (Or.inr ⟨h7, h30, rfl⟩)) dX0_buddyAt_38
    · refine lv_iload_n hx hb dX0_buddyAt_33 rfl (lv_at hl 0 rfl) ?_
      refine lv_goto (tgt := 38) hx hb dX0_buddyAt_34 (by decide) ?_
      exact tq_fret (v := (nI (bdy ldp sl))) C rfl (Or.inr (Or.inl ⟨h7, h30, rfl⟩)) dX0_buddyAt_38
  · refine lv_iconst (v := (-1)) hx hb dX0_buddyAt_10 (by decide) ?_
    exact tq_fret (v := ((-1))) C rfl (Or.inl ⟨h7, rfl⟩) dX0_buddyAt_11
set_option maxHeartbeats 4000000 in
set_option maxRecDepth 100000 in
theorem c_X0_setDepth (l : Launch) (D : va_G) (cy : ClassId) (a : Nat → Nat) (key : Nat → Nat) (val : Nat → Nat) (ord : Nat → Nat) (tk : Nat) (cp : Nat) (efi : Nat → Nat) (ela : Nat → Nat) (eco : Nat → Nat) (ene : Nat → Nat) (ldp : Nat → Nat) (dp : Nat) (dbl : Int32) (hlv : Int32) (spl : Int32) (mrg : Int32) (lfi : Nat → Nat) (lla : Nat → Nat) (lco : Nat → Nat) (lne : Nat → Nat) (lev : Nat) (ptr : Nat) (llo : Nat) (lhi : Nat) (lsp : Int32) (sl : Nat) (dd : Nat) (hsl : sl < 256) : tq_V (S := Unit) l yX0_setDepth cX0_setDepth 3 1 20 0 0 D cy (wC cy a key val ord tk cp efi ela eco ene ldp dp dbl hlv spl mrg lfi lla lco lne lev ptr llo lhi lsp) [.ref (a 2), .int (nI (sl)), .int (nI (dd))] (fun _ => True) (fun u => (wC cy a key val ord tk cp efi ela eco ene (va_up ldp sl dd) dp dbl hlv spl mrg lfi lla lco lne lev ptr llo lhi lsp)) := by
  refine tq_V.mk (by decide) (Nat.le_of_ble_eq_true rfl) ?_
  intro p e s m args below meth c A C hin hP hK hD hS hA ls hl
  obtain ⟨hx, hb, hml, hown, hrt, hlk, hT⟩ := id C
  have hl : lv_has ls 3 [(0, .ref (a 2)), (1, .int (nI (sl))), (2, .int (nI (dd)))] := hl
  refine lv_iload_n hx hb dX0_setDepth_0 rfl (lv_at hl 1 rfl) ?_
  refine tq_callF (va_runSN C.fix (As := [.int (nI (sl))]) (rest := []) (c_X4_isRow l D cy sl hsl) (tq_cN (n := 1) C mn_X0_52 sm_X4_isRow ini_X4 cd_X4_isRow ⟨by decide, by decide, by decide +kernel⟩ ⟨Nat.le_of_ble_eq_true rfl, Nat.le_of_ble_eq_true rfl⟩) ⟨tq_Pf.blind, tq_preF C hK (hP.sub [] rfl)⟩ rfl rfl hl.1 rfl (lv_room (Nat.le_of_ble_eq_true rfl)) dX0_setDepth_1 ⟨Nat.le_of_ble_eq_true rfl, Nat.le_of_ble_eq_true rfl⟩) (fun r1 hr1 => ?_)
  obtain rfl := hr1
  refine lv_if_eq (tgt := 14) hx hb dX0_setDepth_4 (by decide) (fun h9 => absurd h9 (by decide)) (fun _ => ?_)
  refine lv_aload_n hx hb dX0_setDepth_7 rfl (lv_at hl 0 rfl) ?_
  refine tq_get (C0 := RX0) (T := TX0) (N := 8) (ci := 0) (k := 2) C gX0 inX0 rfl (by decide) rfl fl_X0_9 hK hP 2 rfl rfl dX0_setDepth_8 ?_
  refine lv_iload_n hx hb dX0_setDepth_11 rfl (lv_at hl 1 rfl) ?_
  refine lv_iload_n hx hb dX0_setDepth_12 rfl (lv_at hl 2 rfl) ?_
  refine tq_iast (n := 256) (i := sl) (v := dd) (f := ldp) C hK hP hD hS 8 0 rfl rfl (by omega) (Nat.le_of_ble_eq_true rfl) dX0_setDepth_13 (fun H locs hP hD hS => ?_)
  have hP : va_P D vwCl (wC cy a key val ord tk cp efi ela eco ene (va_up ldp sl dd) dp dbl hlv spl mrg lfi lla lco lne lev ptr llo lhi lsp) H := hP
  have hD : va_D A (wC cy a key val ord tk cp efi ela eco ene (va_up ldp sl dd) dp dbl hlv spl mrg lfi lla lco lne lev ptr llo lhi lsp) := hD
  exact tq_vret C () hP hD hS (trivial) (Nat.le_of_ble_eq_true rfl) (Nat.le_of_ble_eq_true rfl) dX0_setDepth_14
set_option maxHeartbeats 4000000 in
set_option maxRecDepth 100000 in
theorem c_X0_setDepths (l : Launch) (D : va_G) (cy : ClassId) (a : Nat → Nat) (key : Nat → Nat) (val : Nat → Nat) (ord : Nat → Nat) (tk : Nat) (cp : Nat) (efi : Nat → Nat) (ela : Nat → Nat) (eco : Nat → Nat) (ene : Nat → Nat) (ldp : Nat → Nat) (dp : Nat) (dbl : Int32) (hlv : Int32) (spl : Int32) (mrg : Int32) (lfi : Nat → Nat) (lla : Nat → Nat) (lco : Nat → Nat) (lne : Nat → Nat) (lev : Nat) (ptr : Nat) (llo : Nat) (lhi : Nat) (lsp : Int32) (row : Nat) (bits : Nat) (dd : Nat) (hdp : dp ≤ 8) (hrow : row < 2 ^ dp) (hbits : bits ≤ 8) : tq_V (S := (Nat → Nat)) l yX0_setDepths cX0_setDepths 6 2 42 0 0 D cy (wC cy a key val ord tk cp efi ela eco ene ldp dp dbl hlv spl mrg lfi lla lco lne lev ptr llo lhi lsp) [.ref (a 2), .int (nI (row)), .int (nI (bits)), .int (nI (dd))] (fun u => ∀ q, u q = if q < 2 ^ dp ∧ q % 2 ^ bits = row then dd else ldp q) (fun u => (wC cy a key val ord tk cp efi ela eco ene u dp dbl hlv spl mrg lfi lla lco lne lev ptr llo lhi lsp)) := by
  refine tq_V.mk (by decide) (Nat.le_of_ble_eq_true rfl) ?_
  intro p e s m args below meth c A C hin hP hK hD hS hA ls hl
  obtain ⟨hx, hb, hml, hown, hrt, hlk, hT⟩ := id C
  have hl : lv_has ls 6 [(0, .ref (a 2)), (1, .int (nI (row))), (2, .int (nI (bits))), (3, .int (nI (dd)))] := hl
  have hp8 := p8 hdp
  have hp9 := p2_pos dp
  refine lv_aload_n hx hb dX0_setDepths_0 rfl (lv_at hl 0 rfl) ?_
  refine tq_callF (va_runV C.fix (As := []) (rest := []) (c_X0_countSlots l D cy a key val ord tk cp efi ela eco ene ldp dp dbl hlv spl mrg lfi lla lco lne lev ptr llo lhi lsp hdp) (tq_cV (n := 0) C ml_X0_44 im_X0_countSlots se_X0_countSlots ini_X0 cd_X0_countSlots ⟨by decide, by decide, by decide +kernel⟩ ⟨Nat.le_of_ble_eq_true rfl, Nat.le_of_ble_eq_true rfl⟩) ⟨tq_Pf.blind, va_recv hK hP (ci := 0) (q0 := 2) rfl rfl, tq_preF C hK hP⟩ rfl rfl hl.1 rfl (lv_room (Nat.le_of_ble_eq_true rfl)) dX0_setDepths_1 ⟨Nat.le_of_ble_eq_true rfl, Nat.le_of_ble_eq_true rfl⟩) (fun r1 hr1 => ?_)
  obtain rfl := hr1
  refine lv_istore (lv' := [(4, .int (nI (2 ^ dp))), (0, .ref (a 2)), (1, .int (nI (row))), (2, .int (nI (bits))), (3, .int (nI (dd)))]) hx hb dX0_setDepths_4 hl (by decide) rfl (fun ls hl => ?_)
  refine lv_iload_n hx hb dX0_setDepths_6 rfl (lv_at hl 2 rfl) ?_
  refine lv_istore (lv' := [(5, .int (nI (row))), (4, .int (nI (2 ^ dp))), (0, .ref (a 2)), (1, .int (nI (row))), (2, .int (nI (bits))), (3, .int (nI (dd)))]) hx hb dX0_setDepths_7 hl (by decide) rfl (fun ls hl => ?_)
  suffices hlp9 : ∀ (n9 : Nat) (i : Nat) (ldp1 : Nat → Nat), 2 ^ dp - i < n9 → (i ≤ 2 ^ dp) → (∀ q, ldp1 q = if q < i ∧ q % 2 ^ bits = row then dd else ldp q) → ∀ (H : Heap) (locs : List Loc), va_P D vwCl (wC cy a key val ord tk cp efi ela eco ene ldp1 dp dbl hlv spl mrg lfi lla lco lne lev ptr llo lhi lsp) H → va_D A (wC cy a key val ord tk cp efi ela eco ene ldp1 dp dbl hlv spl mrg lfi lla lco lne lev ptr llo lhi lsp) → va_S A s.heap H locs → ∀ ls : Array Slot, lv_has ls 6 [(0, .ref (a 2)), (1, .int (nI (row))), (2, .int (nI (bits))), (3, .int (nI (dd))), (4, .int (nI (2 ^ dp))), (5, .int (nI (i)))] → W p l e ({ frames := 2, cells := 0, slots := 0, locals := 42 } : Room) s m args below meth c H locs 0 0 (MQ below (va_Qv (S := (Nat → Nat)) (fun u => ∀ q, u q = if q < 2 ^ dp ∧ q % 2 ^ bits = row then dd else ldp q) (tq_B D A (fun u => (wC cy a key val ord tk cp efi ela eco ene u dp dbl hlv spl mrg lfi lla lco lne lev ptr llo lhi lsp))) A) args s 0 0 A) (F0 m 9 ls []) from
    hlp9 (2 ^ dp + 1) row ldp (by omega) (by omega) (fun q => by rw [if_neg]; rintro ⟨h1, h2⟩; have := Nat.mod_le q (2 ^ bits); omega) _ _ hP hD hS _ (lv_sub hl [2, 3, 4, 5, 1, 0] rfl)
  intro n9
  induction n9 with
  | zero => intro i ldp1 hf; exact absurd hf (Nat.not_lt_zero _)
  | succ n9 ih9 =>
    intro i ldp1 hf9 hi hq H locs hP hD hS ls hl
    refine lv_iload hx hb dX0_setDepths_9 (lv_at hl 5 rfl) ?_
    refine lv_iload hx hb dX0_setDepths_11 (lv_at hl 4 rfl) ?_
    refine tq_icmp_ge (tgt := 39) C (by omega) (by omega) dX0_setDepths_13 (by decide) (fun h13 => ?_) (fun h13 => ?_)
    · exact tq_vret C (ldp1) hP hD hS (fun q => by rw [hq q, show i = 2 ^ dp from by omega]) (Nat.le_of_ble_eq_true rfl) (Nat.le_of_ble_eq_true rfl) dX0_setDepths_39
    · refine lv_iload hx hb dX0_setDepths_16 (lv_at hl 5 rfl) ?_
      refine lv_iload_n hx hb dX0_setDepths_18 rfl (lv_at hl 2 rfl) ?_
      refine tq_callF (va_runSN C.fix (As := [.int (nI (i)), .int (nI (bits))]) (rest := []) (c_X4_lowBits l D cy i bits (by omega) (by omega)) (tq_cN (n := 2) C mn_X0_59 sm_X4_lowBits ini_X4 cd_X4_lowBits ⟨by decide, by decide, by decide +kernel⟩ ⟨Nat.le_of_ble_eq_true rfl, Nat.le_of_ble_eq_true rfl⟩) ⟨tq_Pf.blind, tq_preF C hK (hP.sub [] rfl)⟩ rfl rfl hl.1 rfl (lv_room (Nat.le_of_ble_eq_true rfl)) dX0_setDepths_19 ⟨Nat.le_of_ble_eq_true rfl, Nat.le_of_ble_eq_true rfl⟩) (fun r19 hr19 => ?_)
      obtain rfl := hr19
      refine lv_iload_n hx hb dX0_setDepths_22 rfl (lv_at hl 1 rfl) ?_
      refine tq_icmp_ne (tgt := 33) C (Nat.lt_of_le_of_lt (Nat.mod_le _ _) (by omega)) (by omega) dX0_setDepths_23 (by decide) (fun h23 => ?_) (fun h23 => ?_)
      · refine lv_iinc (v := (nI (i + 1))) (lv' := [(5, .int (nI (i + 1))), (0, .ref (a 2)), (1, .int (nI (row))), (2, .int (nI (bits))), (3, .int (nI (dd))), (4, .int (nI (2 ^ dp)))]) hx hb dX0_setDepths_33 hl (k := 5) rfl (tq_inc1 _) (by decide) rfl (fun ls hl => ?_)
        refine lv_goto (tgt := 9) hx hb dX0_setDepths_36 (by decide) ?_
        exact ih9 (i + 1) ldp1 (by omega) (by omega) (fun q => by rw [hq q, sd_no h23]) _ _ hP hD hS _ (lv_sub hl [1, 2, 3, 4, 5, 0] rfl)
      · refine lv_aload_n hx hb dX0_setDepths_26 rfl (lv_at hl 0 rfl) ?_
        refine lv_iload hx hb dX0_setDepths_27 (lv_at hl 5 rfl) ?_
        refine lv_iload_n hx hb dX0_setDepths_29 rfl (lv_at hl 3 rfl) ?_
        refine tq_callV (W3 := fun u => (wC cy a key val ord tk cp efi ela eco ene (va_up ldp1 i dd) dp dbl hlv spl mrg lfi lla lco lne lev ptr llo lhi lsp)) (wr := []) (va_runV C.fix (As := [.int (nI (i)), .int (nI (dd))]) (rest := []) ((c_X0_setDepth l D cy a key val ord tk cp efi ela eco ene ldp1 dp dbl hlv spl mrg lfi lla lco lne lev ptr llo lhi lsp i dd (by omega)) H.size) (tq_cV (n := 2) C ml_X0_105 im_X0_setDepth se_X0_setDepth ini_X0 cd_X0_setDepth ⟨by decide, by decide, by decide +kernel⟩ ⟨Nat.le_of_ble_eq_true rfl, Nat.le_of_ble_eq_true rfl⟩) ⟨tq_Pc.blind, va_recv hK hP (ci := 0) (q0 := 2) rfl rfl, tq_preC C hK hP hD⟩ rfl rfl hl.1 rfl (lv_room (Nat.le_of_ble_eq_true rfl)) dX0_setDepths_30 ⟨Nat.le_of_ble_eq_true rfl, Nat.le_of_ble_eq_true rfl⟩) hP hD hS hA [0, 1, 2, 3, 4, 5, 6, 7, 8, 9, 10, 11, 12, 13, 14, 15, 16, 17] [] [0, 1, 2, 3, 4, 5, 6, 7, 8, 9, 10, 11, 12, 13, 14, 15, 16, 17] rfl rfl (by decide) (by decide) (by decide) (fun _ => rfl) (fun u30 H locs hr30 hP hD hS => ?_)
        have hP : va_P D vwCl (wC cy a key val ord tk cp efi ela eco ene (va_up ldp1 i dd) dp dbl hlv spl mrg lfi lla lco lne lev ptr llo lhi lsp) H := hP
        have hD : va_D A (wC cy a key val ord tk cp efi ela eco ene (va_up ldp1 i dd) dp dbl hlv spl mrg lfi lla lco lne lev ptr llo lhi lsp) := hD
        refine lv_iinc (v := (nI (i + 1))) (lv' := [(5, .int (nI (i + 1))), (0, .ref (a 2)), (1, .int (nI (row))), (2, .int (nI (bits))), (3, .int (nI (dd))), (4, .int (nI (2 ^ dp)))]) hx hb dX0_setDepths_33 hl (k := 5) rfl (tq_inc1 _) (by decide) rfl (fun ls hl => ?_)
        refine lv_goto (tgt := 9) hx hb dX0_setDepths_36 (by decide) ?_
        exact ih9 (i + 1) (va_up ldp1 i dd) (by omega) (by omega) (fun q => by rw [sd_step (h23) hq]) _ _ hP hD hS _ (lv_sub hl [1, 2, 3, 4, 5, 0] rfl)
set_option maxHeartbeats 4000000 in
set_option maxRecDepth 100000 in
theorem c_X0_doubleDirectory (l : Launch) (D : va_G) (cy : ClassId) (a : Nat → Nat) (key : Nat → Nat) (val : Nat → Nat) (ord : Nat → Nat) (tk : Nat) (cp : Nat) (efi : Nat → Nat) (ela : Nat → Nat) (eco : Nat → Nat) (ene : Nat → Nat) (ldp : Nat → Nat) (dp : Nat) (dbl : Int32) (hlv : Int32) (spl : Int32) (mrg : Int32) (lfi : Nat → Nat) (lla : Nat → Nat) (lco : Nat → Nat) (lne : Nat → Nat) (lev : Nat) (ptr : Nat) (llo : Nat) (lhi : Nat) (lsp : Int32)  (hdp : dp < 8) : tq_V (S := (Nat → Nat)) l yX0_doubleDirectory cX0_doubleDirectory 3 2 42 0 0 D cy (wC cy a key val ord tk cp efi ela eco ene ldp dp dbl hlv spl mrg lfi lla lco lne lev ptr llo lhi lsp) [.ref (a 2)] (fun u => ∀ q, u q = if 2 ^ dp ≤ q ∧ q < 2 ^ dp + 2 ^ dp then ldp (q - 2 ^ dp) else ldp q) (fun u => (wC cy a key val ord tk cp efi ela eco ene u (dp + 1) (dbl + nI 1) hlv spl mrg lfi lla lco lne lev ptr llo lhi lsp)) := by
  refine tq_V.mk (by decide) (Nat.le_of_ble_eq_true rfl) ?_
  intro p e s m args below meth c A C hin hP hK hD hS hA ls hl
  obtain ⟨hx, hb, hml, hown, hrt, hlk, hT⟩ := id C
  have hl : lv_has ls 3 [(0, .ref (a 2))] := hl
  have hp8 := p7 hdp
  have hp9 := p2_pos dp
  refine lv_aload_n hx hb dX0_doubleDirectory_0 rfl (lv_at hl 0 rfl) ?_
  refine tq_callF (va_runV C.fix (As := []) (rest := []) (c_X0_countSlots l D cy a key val ord tk cp efi ela eco ene ldp dp dbl hlv spl mrg lfi lla lco lne lev ptr llo lhi lsp (by omega)) (tq_cV (n := 0) C ml_X0_44 im_X0_countSlots se_X0_countSlots ini_X0 cd_X0_countSlots ⟨by decide, by decide, by decide +kernel⟩ ⟨Nat.le_of_ble_eq_true rfl, Nat.le_of_ble_eq_true rfl⟩) ⟨tq_Pf.blind, va_recv hK hP (ci := 0) (q0 := 2) rfl rfl, tq_preF C hK hP⟩ rfl rfl hl.1 rfl (lv_room (Nat.le_of_ble_eq_true rfl)) dX0_doubleDirectory_1 ⟨Nat.le_of_ble_eq_true rfl, Nat.le_of_ble_eq_true rfl⟩) (fun r1 hr1 => ?_)
  obtain rfl := hr1
  refine lv_istore_n (lv' := [(1, .int (nI (2 ^ dp))), (0, .ref (a 2))]) hx hb dX0_doubleDirectory_4 rfl hl (by decide) rfl (fun ls hl => ?_)
  refine lv_iconst (v := nI 0) hx hb dX0_doubleDirectory_5 (by decide) ?_
  refine lv_istore_n (lv' := [(2, .int (nI (0))), (1, .int (nI (2 ^ dp))), (0, .ref (a 2))]) hx hb dX0_doubleDirectory_6 rfl hl (by decide) rfl (fun ls hl => ?_)
  suffices hlp7 : ∀ (n7 : Nat) (i : Nat) (ldp1 : Nat → Nat), 2 ^ dp - i < n7 → (i ≤ 2 ^ dp) → (∀ q, ldp1 q = if 2 ^ dp ≤ q ∧ q < 2 ^ dp + i then ldp (q - 2 ^ dp) else ldp q) → ∀ (H : Heap) (locs : List Loc), va_P D vwCl (wC cy a key val ord tk cp efi ela eco ene ldp1 dp dbl hlv spl mrg lfi lla lco lne lev ptr llo lhi lsp) H → va_D A (wC cy a key val ord tk cp efi ela eco ene ldp1 dp dbl hlv spl mrg lfi lla lco lne lev ptr llo lhi lsp) → va_S A s.heap H locs → ∀ ls : Array Slot, lv_has ls 3 [(0, .ref (a 2)), (1, .int (nI (2 ^ dp))), (2, .int (nI (i)))] → W p l e ({ frames := 2, cells := 0, slots := 0, locals := 42 } : Room) s m args below meth c H locs 0 0 (MQ below (va_Qv (S := (Nat → Nat)) (fun u => ∀ q, u q = if 2 ^ dp ≤ q ∧ q < 2 ^ dp + 2 ^ dp then ldp (q - 2 ^ dp) else ldp q) (tq_B D A (fun u => (wC cy a key val ord tk cp efi ela eco ene u (dp + 1) (dbl + nI 1) hlv spl mrg lfi lla lco lne lev ptr llo lhi lsp))) A) args s 0 0 A) (F0 m 7 ls []) from
    hlp7 (2 ^ dp + 1) 0 ldp (by omega) (by omega) (fun q => by rw [if_neg (by omega)]) _ _ hP hD hS _ (lv_sub hl [2, 1, 0] rfl)
  intro n7
  induction n7 with
  | zero => intro i ldp1 hf; exact absurd hf (Nat.not_lt_zero _)
  | succ n7 ih7 =>
    intro i ldp1 hf7 hi hq H locs hP hD hS ls hl
    refine lv_iload_n hx hb dX0_doubleDirectory_7 rfl (lv_at hl 2 rfl) ?_
    refine lv_iload_n hx hb dX0_doubleDirectory_8 rfl (lv_at hl 1 rfl) ?_
    refine tq_icmp_ge (tgt := 30) C (by omega) (by omega) dX0_doubleDirectory_9 (by decide) (fun h9 => ?_) (fun h9 => ?_)
    · refine lv_aload_n hx hb dX0_doubleDirectory_30 rfl (lv_at hl 0 rfl) ?_
      refine lv_dup hx hb dX0_doubleDirectory_31 rfl ?_
      refine tq_get (C0 := RX0) (T := TX0) (N := 8) (ci := 0) (k := 3) C gX0 inX0 rfl (by decide) rfl fl_X0_15 hK hP 2 rfl rfl dX0_doubleDirectory_32 ?_
      refine lv_iconst (v := nI 1) hx hb dX0_doubleDirectory_35 (by decide) ?_
      refine tq_iadd C dX0_doubleDirectory_36 ?_
      refine tq_put (v := .int (nI (dp + 1))) (C0 := RX0) (T := TX0) (N := 8) (ci := 0) (k := 3) (ty := .int) C gX0 inX0 tyX0_ok nmX0 rfl (by decide) rfl fl_X0_15 rfl (by decide +kernel) hK hP hD hS 2 rfl rfl rfl (Nat.le_of_ble_eq_true rfl) dX0_doubleDirectory_37 (fun H locs hP hD hS => ?_)
      have hP : va_P D vwCl (wC cy a key val ord tk cp efi ela eco ene ldp1 (dp + 1) dbl hlv spl mrg lfi lla lco lne lev ptr llo lhi lsp) H := hP
      have hD : va_D A (wC cy a key val ord tk cp efi ela eco ene ldp1 (dp + 1) dbl hlv spl mrg lfi lla lco lne lev ptr llo lhi lsp) := hD
      refine lv_aload_n hx hb dX0_doubleDirectory_40 rfl (lv_at hl 0 rfl) ?_
      refine lv_dup hx hb dX0_doubleDirectory_41 rfl ?_
      refine tq_get (C0 := RX0) (T := TX0) (N := 8) (ci := 0) (k := 4) C gX0 inX0 rfl (by decide) rfl fl_X0_19 hK hP 2 rfl rfl dX0_doubleDirectory_42 ?_
      refine lv_iconst (v := nI 1) hx hb dX0_doubleDirectory_45 (by decide) ?_
      refine lv_iadd hx hb dX0_doubleDirectory_46 ?_
      refine tq_put (v := .int (dbl + nI 1)) (C0 := RX0) (T := TX0) (N := 8) (ci := 0) (k := 4) (ty := .int) C gX0 inX0 tyX0_ok nmX0 rfl (by decide) rfl fl_X0_19 rfl (by decide +kernel) hK hP hD hS 2 rfl rfl rfl (Nat.le_of_ble_eq_true rfl) dX0_doubleDirectory_47 (fun H locs hP hD hS => ?_)
      have hP : va_P D vwCl (wC cy a key val ord tk cp efi ela eco ene ldp1 (dp + 1) (dbl + nI 1) hlv spl mrg lfi lla lco lne lev ptr llo lhi lsp) H := hP
      have hD : va_D A (wC cy a key val ord tk cp efi ela eco ene ldp1 (dp + 1) (dbl + nI 1) hlv spl mrg lfi lla lco lne lev ptr llo lhi lsp) := hD
      exact tq_vret C (ldp1) hP hD hS (fun q => by rw [hq q, show i = 2 ^ dp from by omega]) (Nat.le_of_ble_eq_true rfl) (Nat.le_of_ble_eq_true rfl) dX0_doubleDirectory_50
    · refine lv_aload_n hx hb dX0_doubleDirectory_12 rfl (lv_at hl 0 rfl) ?_
      refine lv_iload_n hx hb dX0_doubleDirectory_13 rfl (lv_at hl 2 rfl) ?_
      refine lv_iload_n hx hb dX0_doubleDirectory_14 rfl (lv_at hl 1 rfl) ?_
      refine tq_iadd C dX0_doubleDirectory_15 ?_
      refine lv_aload_n hx hb dX0_doubleDirectory_16 rfl (lv_at hl 0 rfl) ?_
      refine lv_iload_n hx hb dX0_doubleDirectory_17 rfl (lv_at hl 2 rfl) ?_
      refine tq_callF (va_runV C.fix (As := [.int (nI (i))]) (rest := [.int (nI (i + (2 ^ dp))), .ref (a 2)]) (c_X0_depthAt l D cy a key val ord tk cp efi ela eco ene ldp1 dp dbl hlv spl mrg lfi lla lco lne lev ptr llo lhi lsp i (by omega)) (tq_cV (n := 1) C ml_X0_63 im_X0_depthAt se_X0_depthAt ini_X0 cd_X0_depthAt ⟨by decide, by decide, by decide +kernel⟩ ⟨Nat.le_of_ble_eq_true rfl, Nat.le_of_ble_eq_true rfl⟩) ⟨tq_Pf.blind, va_recv hK hP (ci := 0) (q0 := 2) rfl rfl, tq_preF C hK hP⟩ rfl rfl hl.1 rfl (lv_room (Nat.le_of_ble_eq_true rfl)) dX0_doubleDirectory_18 ⟨Nat.le_of_ble_eq_true rfl, Nat.le_of_ble_eq_true rfl⟩) (fun r18 hr18 => ?_)
      obtain rfl := hr18
      refine tq_callV (W3 := fun u => (wC cy a key val ord tk cp efi ela eco ene (va_up ldp1 (i + (2 ^ dp)) (ldp1 i)) dp dbl hlv spl mrg lfi lla lco lne lev ptr llo lhi lsp)) (wr := []) (va_runV C.fix (As := [.int (nI (i + (2 ^ dp))), .int (nI (ldp1 i))]) (rest := []) ((c_X0_setDepth l D cy a key val ord tk cp efi ela eco ene ldp1 dp dbl hlv spl mrg lfi lla lco lne lev ptr llo lhi lsp (i + (2 ^ dp)) (ldp1 i) (by omega)) H.size) (tq_cV (n := 2) C ml_X0_105 im_X0_setDepth se_X0_setDepth ini_X0 cd_X0_setDepth ⟨by decide, by decide, by decide +kernel⟩ ⟨Nat.le_of_ble_eq_true rfl, Nat.le_of_ble_eq_true rfl⟩) ⟨tq_Pc.blind, va_recv hK hP (ci := 0) (q0 := 2) rfl rfl, tq_preC C hK hP hD⟩ rfl rfl hl.1 rfl (lv_room (Nat.le_of_ble_eq_true rfl)) dX0_doubleDirectory_21 ⟨Nat.le_of_ble_eq_true rfl, Nat.le_of_ble_eq_true rfl⟩) hP hD hS hA [0, 1, 2, 3, 4, 5, 6, 7, 8, 9, 10, 11, 12, 13, 14, 15, 16, 17] [] [0, 1, 2, 3, 4, 5, 6, 7, 8, 9, 10, 11, 12, 13, 14, 15, 16, 17] rfl rfl (by decide) (by decide) (by decide) (fun _ => rfl) (fun u21 H locs hr21 hP hD hS => ?_)
      have hP : va_P D vwCl (wC cy a key val ord tk cp efi ela eco ene (va_up ldp1 (i + (2 ^ dp)) (ldp1 i)) dp dbl hlv spl mrg lfi lla lco lne lev ptr llo lhi lsp) H := hP
      have hD : va_D A (wC cy a key val ord tk cp efi ela eco ene (va_up ldp1 (i + (2 ^ dp)) (ldp1 i)) dp dbl hlv spl mrg lfi lla lco lne lev ptr llo lhi lsp) := hD
      refine lv_iinc (v := (nI (i + 1))) (lv' := [(2, .int (nI (i + 1))), (0, .ref (a 2)), (1, .int (nI (2 ^ dp)))]) hx hb dX0_doubleDirectory_24 hl (k := 2) rfl (tq_inc1 _) (by decide) rfl (fun ls hl => ?_)
      refine lv_goto (tgt := 7) hx hb dX0_doubleDirectory_27 (by decide) ?_
      exact ih7 (i + 1) (va_up ldp1 (i + (2 ^ dp)) (ldp1 i)) (by omega) (by omega) (fun q => (by
        by_cases z : q = i + 2 ^ dp
        · subst z; rw [up_s, hq i, if_neg (by omega), if_pos (by omega), Nat.add_sub_cancel]
        · rw [up_n _ _ z, hq q]; by_cases z2 : 2 ^ dp ≤ q ∧ q < 2 ^ dp + i
          · rw [if_pos z2, if_pos (by omega)]
          · rw [if_neg z2, if_neg (by omega)])) _ _ hP hD hS _ (lv_sub hl [1, 2, 0] rfl)
set_option maxHeartbeats 4000000 in
set_option maxRecDepth 100000 in
theorem c_X0_hasDepth (l : Launch) (D : va_G) (cy : ClassId) (a : Nat → Nat) (key : Nat → Nat) (val : Nat → Nat) (ord : Nat → Nat) (tk : Nat) (cp : Nat) (efi : Nat → Nat) (ela : Nat → Nat) (eco : Nat → Nat) (ene : Nat → Nat) (ldp : Nat → Nat) (dp : Nat) (dbl : Int32) (hlv : Int32) (spl : Int32) (mrg : Int32) (lfi : Nat → Nat) (lla : Nat → Nat) (lco : Nat → Nat) (lne : Nat → Nat) (lev : Nat) (ptr : Nat) (llo : Nat) (lhi : Nat) (lsp : Int32) (dd : Nat) (hdp : dp ≤ 8) (hld : ∀ q, q < 256 → ldp q ≤ 8) (hdd : dd ≤ 8) : tq_F l yX0_hasDepth cX0_hasDepth 4 (some .boolean) 2 41 D cy (wC cy a key val ord tk cp efi ela eco ene ldp dp dbl hlv spl mrg lfi lla lco lne lev ptr llo lhi lsp) [.ref (a 2), .int (nI (dd))] (fun r => ((∃ q, q < 2 ^ dp ∧ ldp q = dd) ∧ r = nI 1) ∨ (¬ (∃ q, q < 2 ^ dp ∧ ldp q = dd) ∧ r = nI 0)) := by
  refine tq_F.mk (by decide) (Nat.le_of_ble_eq_true rfl) ?_
  intro p e s m args below meth c C hP hK ls hl
  obtain ⟨hx, hb, hml, hown, hrt, hlk, hT⟩ := id C
  have hl : lv_has ls 4 [(0, .ref (a 2)), (1, .int (nI (dd)))] := hl
  have hp8 := p8 hdp
  have hp9 := p2_pos dp
  refine lv_aload_n hx hb dX0_hasDepth_0 rfl (lv_at hl 0 rfl) ?_
  refine tq_callF (va_runV C.fix (As := []) (rest := []) (c_X0_countSlots l D cy a key val ord tk cp efi ela eco ene ldp dp dbl hlv spl mrg lfi lla lco lne lev ptr llo lhi lsp hdp) (tq_cV (n := 0) C ml_X0_44 im_X0_countSlots se_X0_countSlots ini_X0 cd_X0_countSlots ⟨by decide, by decide, by decide +kernel⟩ ⟨Nat.le_of_ble_eq_true rfl, Nat.le_of_ble_eq_true rfl⟩) ⟨tq_Pf.blind, va_recv hK hP (ci := 0) (q0 := 2) rfl rfl, tq_preF C hK hP⟩ rfl rfl hl.1 rfl (lv_room (Nat.le_of_ble_eq_true rfl)) dX0_hasDepth_1 ⟨Nat.le_of_ble_eq_true rfl, Nat.le_of_ble_eq_true rfl⟩) (fun r1 hr1 => ?_)
  obtain rfl := hr1
  refine lv_istore_n (lv' := [(2, .int (nI (2 ^ dp))), (0, .ref (a 2)), (1, .int (nI (dd)))]) hx hb dX0_hasDepth_4 rfl hl (by decide) rfl (fun ls hl => ?_)
  refine lv_iconst (v := nI 0) hx hb dX0_hasDepth_5 (by decide) ?_
  refine lv_istore_n (lv' := [(3, .int (nI (0))), (2, .int (nI (2 ^ dp))), (0, .ref (a 2)), (1, .int (nI (dd)))]) hx hb dX0_hasDepth_6 rfl hl (by decide) rfl (fun ls hl => ?_)
  suffices hlp7 : ∀ (n7 : Nat) (i : Nat), 2 ^ dp - i < n7 → (i ≤ 2 ^ dp) → (∀ q, q < i → ldp q ≠ dd) → ∀ ls : Array Slot, lv_has ls 4 [(0, .ref (a 2)), (1, .int (nI (dd))), (2, .int (nI (2 ^ dp))), (3, .int (nI (i)))] → W p l e ({ frames := 2, cells := 0, slots := 0, locals := 41 } : Room) s m args below meth c s.heap [] 0 0 (MQ below (tq_Qf (fun r => ((∃ q, q < 2 ^ dp ∧ ldp q = dd) ∧ r = nI 1) ∨ (¬ (∃ q, q < 2 ^ dp ∧ ldp q = dd) ∧ r = nI 0))) args s 0 0 (fun _ => False)) (F0 m 7 ls []) from
    hlp7 (2 ^ dp + 1) 0 (by omega) (by omega) (fun q h => absurd h (Nat.not_lt_zero _)) _ (lv_sub hl [2, 3, 1, 0] rfl)
  intro n7
  induction n7 with
  | zero => intro i hf; exact absurd hf (Nat.not_lt_zero _)
  | succ n7 ih7 =>
    intro i hf7 hi hno ls hl
    refine lv_iload_n hx hb dX0_hasDepth_7 rfl (lv_at hl 3 rfl) ?_
    refine lv_iload_n hx hb dX0_hasDepth_8 rfl (lv_at hl 2 rfl) ?_
    refine tq_icmp_ge (tgt := 29) C (by omega) (by omega) dX0_hasDepth_9 (by decide) (fun h9 => ?_) (fun h9 => ?_)
    · refine lv_iconst (v := nI 0) hx hb dX0_hasDepth_29 (by decide) ?_
      exact tq_fret (v := (nI (0))) C (by decide) (Or.inr ⟨fun ⟨q, h, e9⟩ => hno q (by omega) e9, rfl⟩) dX0_hasDepth_30
    · refine lv_aload_n hx hb dX0_hasDepth_12 rfl (lv_at hl 0 rfl) ?_
      refine lv_iload_n hx hb dX0_hasDepth_13 rfl (lv_at hl 3 rfl) ?_
      refine tq_callF (va_runV C.fix (As := [.int (nI (i))]) (rest := []) (c_X0_depthAt l D cy a key val ord tk cp efi ela eco ene ldp dp dbl hlv spl mrg lfi lla lco lne lev ptr llo lhi lsp i (by omega)) (tq_cV (n := 1) C ml_X0_63 im_X0_depthAt se_X0_depthAt ini_X0 cd_X0_depthAt ⟨by decide, by decide, by decide +kernel⟩ ⟨Nat.le_of_ble_eq_true rfl, Nat.le_of_ble_eq_true rfl⟩) ⟨tq_Pf.blind, va_recv hK hP (ci := 0) (q0 := 2) rfl rfl, tq_preF C hK hP⟩ rfl rfl hl.1 rfl (lv_room (Nat.le_of_ble_eq_true rfl)) dX0_hasDepth_14 ⟨Nat.le_of_ble_eq_true rfl, Nat.le_of_ble_eq_true rfl⟩) (fun r14 hr14 => ?_)
      obtain rfl := hr14
      have hl9 := hld i (by omega)
      refine lv_iload_n hx hb dX0_hasDepth_17 rfl (lv_at hl 1 rfl) ?_
      refine tq_icmp_ne (tgt := 23) C (by omega) (by omega) dX0_hasDepth_18 (by decide) (fun h18 => ?_) (fun h18 => ?_)
      · refine lv_iinc (v := (nI (i + 1))) (lv' := [(3, .int (nI (i + 1))), (0, .ref (a 2)), (1, .int (nI (dd))), (2, .int (nI (2 ^ dp)))]) hx hb dX0_hasDepth_23 hl (k := 3) rfl (tq_inc1 _) (by decide) rfl (fun ls hl => ?_)
        refine lv_goto (tgt := 7) hx hb dX0_hasDepth_26 (by decide) ?_
        exact ih7 (i + 1) (by omega) (by omega) (fun q h => (Nat.lt_or_eq_of_le (Nat.le_of_lt_succ h)).elim (hno q) (fun z => z ▸ h18)) _ (lv_sub hl [1, 2, 3, 0] rfl)
      · refine lv_iconst (v := nI 1) hx hb dX0_hasDepth_21 (by decide) ?_
        exact tq_fret (v := (nI (1))) C (by decide) (Or.inl ⟨⟨i, h9, h18⟩, rfl⟩) dX0_hasDepth_22
set_option maxHeartbeats 4000000 in
set_option maxRecDepth 100000 in
theorem c_X0_halveWhilePossible (l : Launch) (D : va_G) (cy : ClassId) (a : Nat → Nat) (key : Nat → Nat) (val : Nat → Nat) (ord : Nat → Nat) (tk : Nat) (cp : Nat) (efi : Nat → Nat) (ela : Nat → Nat) (eco : Nat → Nat) (ene : Nat → Nat) (ldp : Nat → Nat) (dp : Nat) (dbl : Int32) (hlv : Int32) (spl : Int32) (mrg : Int32) (lfi : Nat → Nat) (lla : Nat → Nat) (lco : Nat → Nat) (lne : Nat → Nat) (lev : Nat) (ptr : Nat) (llo : Nat) (lhi : Nat) (lsp : Int32)  (hdp : dp ≤ 8) (hld : ∀ q, q < 256 → ldp q ≤ 8)  : tq_V (S := Nat × Int32) l yX0_halveWhilePossible cX0_halveWhilePossible 2 3 64 0 0 D cy (wC cy a key val ord tk cp efi ela eco ene ldp dp dbl hlv spl mrg lfi lla lco lne lev ptr llo lhi lsp) [.ref (a 2)] (fun u => u.1 ≤ dp ∧ (u.1 = 0 ∨ ∃ q, q < 2 ^ u.1 ∧ ldp q = u.1) ∧ (∀ j, u.1 < j → j ≤ dp → ¬ ∃ q, q < 2 ^ j ∧ ldp q = j) ∧ u.2 = hlv + nI (dp - u.1)) (fun u => (wC cy a key val ord tk cp efi ela eco ene ldp u.1 dbl u.2 spl mrg lfi lla lco lne lev ptr llo lhi lsp)) := by
  refine tq_V.mk (by decide) (Nat.le_of_ble_eq_true rfl) ?_
  intro p e s m args below meth c A C hin hP hK hD hS hA ls hl
  obtain ⟨hx, hb, hml, hown, hrt, hlk, hT⟩ := id C
  have hl : lv_has ls 2 [(0, .ref (a 2))] := hl
  refine lv_aload_n hx hb dX0_halveWhilePossible_0 rfl (lv_at hl 0 rfl) ?_
  refine tq_get (C0 := RX0) (T := TX0) (N := 8) (ci := 0) (k := 3) C gX0 inX0 rfl (by decide) rfl fl_X0_15 hK hP 2 rfl rfl dX0_halveWhilePossible_1 ?_
  refine lv_istore_n (lv' := [(1, .int (nI (dp))), (0, .ref (a 2))]) hx hb dX0_halveWhilePossible_4 rfl hl (by decide) rfl (fun ls hl => ?_)
  suffices hlp5 : ∀ (n5 : Nat) (g1 : Nat) (hlv1 : Int32), g1 < n5 → (g1 ≤ dp) → (∀ j, g1 < j → j ≤ dp → ¬ ∃ q, q < 2 ^ j ∧ ldp q = j) → (hlv1 = hlv + nI (dp - g1)) → ∀ (H : Heap) (locs : List Loc), va_P D vwCl (wC cy a key val ord tk cp efi ela eco ene ldp g1 dbl hlv1 spl mrg lfi lla lco lne lev ptr llo lhi lsp) H → va_D A (wC cy a key val ord tk cp efi ela eco ene ldp g1 dbl hlv1 spl mrg lfi lla lco lne lev ptr llo lhi lsp) → va_S A s.heap H locs → ∀ ls : Array Slot, lv_has ls 2 [(0, .ref (a 2)), (1, .int (nI (g1)))] → W p l e ({ frames := 3, cells := 0, slots := 0, locals := 64 } : Room) s m args below meth c H locs 0 0 (MQ below (va_Qv (S := Nat × Int32) (fun u => u.1 ≤ dp ∧ (u.1 = 0 ∨ ∃ q, q < 2 ^ u.1 ∧ ldp q = u.1) ∧ (∀ j, u.1 < j → j ≤ dp → ¬ ∃ q, q < 2 ^ j ∧ ldp q = j) ∧ u.2 = hlv + nI (dp - u.1)) (tq_B D A (fun u => (wC cy a key val ord tk cp efi ela eco ene ldp u.1 dbl u.2 spl mrg lfi lla lco lne lev ptr llo lhi lsp))) A) args s 0 0 A) (F0 m 5 ls []) from
    hlp5 (dp + 1) dp hlv (by omega) (by omega) (fun j h h9 => absurd h (by omega)) (by rw [Nat.sub_self, nI_z]) _ _ hP hD hS _ (lv_sub hl [1, 0] rfl)
  intro n5
  induction n5 with
  | zero => intro g1 hlv1 hf; exact absurd hf (Nat.not_lt_zero _)
  | succ n5 ih5 =>
    intro g1 hlv1 hf5 hg hno hh H locs hP hD hS ls hl
    refine lv_iload_n hx hb dX0_halveWhilePossible_5 rfl (lv_at hl 1 rfl) ?_
    refine tq_if_le (tgt := 40) C (by omega) dX0_halveWhilePossible_6 (by decide) (fun h6 => ?_) (fun h6 => ?_)
    · exact tq_vret C (g1, hlv1) hP hD hS (⟨hg, Or.inl h6, hno, hh⟩) (Nat.le_of_ble_eq_true rfl) (Nat.le_of_ble_eq_true rfl) dX0_halveWhilePossible_40
    · refine lv_aload_n hx hb dX0_halveWhilePossible_9 rfl (lv_at hl 0 rfl) ?_
      refine lv_iload_n hx hb dX0_halveWhilePossible_10 rfl (lv_at hl 1 rfl) ?_
      refine tq_callF (va_runV C.fix (As := [.int (nI (g1))]) (rest := []) (c_X0_hasDepth l D cy a key val ord tk cp efi ela eco ene ldp g1 dbl hlv1 spl mrg lfi lla lco lne lev ptr llo lhi lsp g1 (by omega) hld (by omega)) (tq_cV (n := 1) C ml_X0_128 im_X0_hasDepth se_X0_hasDepth ini_X0 cd_X0_hasDepth ⟨by decide, by decide, by decide +kernel⟩ ⟨Nat.le_of_ble_eq_true rfl, Nat.le_of_ble_eq_true rfl⟩) ⟨tq_Pf.blind, va_recv hK hP (ci := 0) (q0 := 2) rfl rfl, tq_preF C hK hP⟩ rfl rfl hl.1 rfl (lv_room (Nat.le_of_ble_eq_true rfl)) dX0_halveWhilePossible_11 ⟨Nat.le_of_ble_eq_true rfl, Nat.le_of_ble_eq_true rfl⟩) (fun r11 hr11 => ?_)
      rcases hr11 with ⟨hr11, rfl⟩ | ⟨hr11, rfl⟩
      · refine lv_if_ne (tgt := 40) hx hb dX0_halveWhilePossible_14 (by decide) (fun _ => ?_) (fun h9 => absurd h9 (by decide))
        exact tq_vret C (g1, hlv1) hP hD hS (⟨hg, Or.inr hr11, hno, hh⟩) (Nat.le_of_ble_eq_true rfl) (Nat.le_of_ble_eq_true rfl) dX0_halveWhilePossible_40
      · refine lv_if_ne (tgt := 40) hx hb dX0_halveWhilePossible_14 (by decide) (fun h9 => absurd (by decide : nI 0 = 0) h9) (fun _ => ?_)
        refine lv_aload_n hx hb dX0_halveWhilePossible_17 rfl (lv_at hl 0 rfl) ?_
        refine lv_iload_n hx hb dX0_halveWhilePossible_18 rfl (lv_at hl 1 rfl) ?_
        refine lv_iconst (v := nI 1) hx hb dX0_halveWhilePossible_19 (by decide) ?_
        refine tq_isub C (by omega) dX0_halveWhilePossible_20 ?_
        refine tq_put (v := .int (nI (g1 - 1))) (C0 := RX0) (T := TX0) (N := 8) (ci := 0) (k := 3) (ty := .int) C gX0 inX0 tyX0_ok nmX0 rfl (by decide) rfl fl_X0_15 rfl (by decide +kernel) hK hP hD hS 2 rfl rfl rfl (Nat.le_of_ble_eq_true rfl) dX0_halveWhilePossible_21 (fun H locs hP hD hS => ?_)
        have hP : va_P D vwCl (wC cy a key val ord tk cp efi ela eco ene ldp (g1 - 1) dbl hlv1 spl mrg lfi lla lco lne lev ptr llo lhi lsp) H := hP
        have hD : va_D A (wC cy a key val ord tk cp efi ela eco ene ldp (g1 - 1) dbl hlv1 spl mrg lfi lla lco lne lev ptr llo lhi lsp) := hD
        refine lv_aload_n hx hb dX0_halveWhilePossible_24 rfl (lv_at hl 0 rfl) ?_
        refine lv_dup hx hb dX0_halveWhilePossible_25 rfl ?_
        refine tq_get (C0 := RX0) (T := TX0) (N := 8) (ci := 0) (k := 5) C gX0 inX0 rfl (by decide) rfl fl_X0_22 hK hP 2 rfl rfl dX0_halveWhilePossible_26 ?_
        refine lv_iconst (v := nI 1) hx hb dX0_halveWhilePossible_29 (by decide) ?_
        refine lv_iadd hx hb dX0_halveWhilePossible_30 ?_
        refine tq_put (v := .int (hlv1 + nI 1)) (C0 := RX0) (T := TX0) (N := 8) (ci := 0) (k := 5) (ty := .int) C gX0 inX0 tyX0_ok nmX0 rfl (by decide) rfl fl_X0_22 rfl (by decide +kernel) hK hP hD hS 2 rfl rfl rfl (Nat.le_of_ble_eq_true rfl) dX0_halveWhilePossible_31 (fun H locs hP hD hS => ?_)
        have hP : va_P D vwCl (wC cy a key val ord tk cp efi ela eco ene ldp (g1 - 1) dbl (hlv1 + nI 1) spl mrg lfi lla lco lne lev ptr llo lhi lsp) H := hP
        have hD : va_D A (wC cy a key val ord tk cp efi ela eco ene ldp (g1 - 1) dbl (hlv1 + nI 1) spl mrg lfi lla lco lne lev ptr llo lhi lsp) := hD
        refine lv_iinc (v := (nI (g1 - 1))) (lv' := [(1, .int (nI (g1 - 1))), (0, .ref (a 2))]) hx hb dX0_halveWhilePossible_34 hl (k := 1) rfl (tq_dec (by omega)) (by decide) rfl (fun ls hl => ?_)
        refine lv_goto (tgt := 5) hx hb dX0_halveWhilePossible_37 (by decide) ?_
        exact ih5 (g1 - 1) (hlv1 + nI 1) (by omega) (by omega) (fun j h h9 => (Nat.lt_or_eq_of_le (show g1 ≤ j by omega)).elim (fun z => hno j z h9) (fun z => z ▸ hr11)) (by rw [hh, nI_s1, show dp - g1 + 1 = dp - (g1 - 1) from by omega]) _ _ hP hD hS _ (lv_sub hl [1, 0] rfl)
set_option maxHeartbeats 4000000 in
set_option maxRecDepth 100000 in
theorem c_X0_canMerge (l : Launch) (D : va_G) (cy : ClassId) (a : Nat → Nat) (key : Nat → Nat) (val : Nat → Nat) (ord : Nat → Nat) (tk : Nat) (cp : Nat) (efi : Nat → Nat) (ela : Nat → Nat) (eco : Nat → Nat) (ene : Nat → Nat) (ldp : Nat → Nat) (dp : Nat) (dbl : Int32) (hlv : Int32) (spl : Int32) (mrg : Int32) (lfi : Nat → Nat) (lla : Nat → Nat) (lco : Nat → Nat) (lne : Nat → Nat) (lev : Nat) (ptr : Nat) (llo : Nat) (lhi : Nat) (lsp : Int32) (row : Nat) (hld : ∀ q, q < 256 → ldp q ≤ 8) (hsl : row < 256) (hco : ∀ r, r < 256 → eco r ≤ 120) (hcp : cp ≤ 5) : tq_F l yX0_canMerge cX0_canMerge 3 (some .boolean) 3 64 D cy (wC cy a key val ord tk cp efi ela eco ene ldp dp dbl hlv spl mrg lfi lla lco lne lev ptr llo lhi lsp) [.ref (a 2), .int (nI (row))] (fun r => ((0 < ldp row ∧ ldp (bdy ldp row) = ldp row ∧ eco row + eco (bdy ldp row) ≤ cp) ∧ r = nI 1) ∨ (¬ (0 < ldp row ∧ ldp (bdy ldp row) = ldp row ∧ eco row + eco (bdy ldp row) ≤ cp) ∧ r = nI 0)) := by
  refine tq_F.mk (by decide) (Nat.le_of_ble_eq_true rfl) ?_
  intro p e s m args below meth c C hP hK ls hl
  obtain ⟨hx, hb, hml, hown, hrt, hlk, hT⟩ := id C
  have hl : lv_has ls 3 [(0, .ref (a 2)), (1, .int (nI (row)))] := hl
  refine lv_aload_n hx hb dX0_canMerge_0 rfl (lv_at hl 0 rfl) ?_
  refine lv_iload_n hx hb dX0_canMerge_1 rfl (lv_at hl 1 rfl) ?_
  refine tq_callF (va_runV C.fix (As := [.int (nI (row))]) (rest := []) (c_X0_buddyAt l D cy a key val ord tk cp efi ela eco ene ldp dp dbl hlv spl mrg lfi lla lco lne lev ptr llo lhi lsp row hld hsl) (tq_cV (n := 1) C ml_X0_122 im_X0_buddyAt se_X0_buddyAt ini_X0 cd_X0_buddyAt ⟨by decide, by decide, by decide +kernel⟩ ⟨Nat.le_of_ble_eq_true rfl, Nat.le_of_ble_eq_true rfl⟩) ⟨tq_Pf.blind, va_recv hK hP (ci := 0) (q0 := 2) rfl rfl, tq_preF C hK hP⟩ rfl rfl hl.1 rfl (lv_room (Nat.le_of_ble_eq_true rfl)) dX0_canMerge_2 ⟨Nat.le_of_ble_eq_true rfl, Nat.le_of_ble_eq_true rfl⟩) (fun r2 hr2 => ?_)
  rcases hr2 with ⟨hz, rfl⟩ | ⟨hz, hq, rfl⟩ | ⟨hz, hq, rfl⟩
  · refine lv_istore_n (lv' := [(2, .int (-1)), (0, .ref (a 2)), (1, .int (nI (row)))]) hx hb dX0_canMerge_5 rfl hl (by decide) rfl (fun ls hl => ?_)
    refine lv_iload_n hx hb dX0_canMerge_6 rfl (lv_at hl 0 rfl) ?_
    refine lv_iconst (v := (-1)) hx hb dX0_canMerge_7 (by decide) ?_
    refine lv_icmp_eq (tgt := 42) hx hb dX0_canMerge_8 (by decide) (fun h8 => ?_) (fun h8 => ?_)
    · refine lv_iconst (v := nI 0) hx hb dX0_canMerge_42 (by decide) ?_
      exact tq_fret (v := (nI (0))) C (by decide) (Or.inr ⟨fun h => by omega, rfl⟩) dX0_canMerge_43
    · exact absurd rfl h8
  · have hb9 := bdy_lt (hld row hsl) hz
    have hc8 := hco _ hb9
    have hc9 := hco _ hsl
    refine lv_istore_n (lv' := [(2, .int (nI (bdy ldp row))), (0, .ref (a 2)), (1, .int (nI (row)))]) hx hb dX0_canMerge_5 rfl hl (by decide) rfl (fun ls hl => ?_)
    refine lv_iload_n hx hb dX0_canMerge_6 rfl (lv_at hl 0 rfl) ?_
    refine lv_iconst (v := (-1)) hx hb dX0_canMerge_7 (by decide) ?_
    refine lv_icmp_eq (tgt := 42) hx hb dX0_canMerge_8 (by decide) (fun h8 => ?_) (fun h8 => ?_)
    · exact absurd h8 (tq_neg1 (by omega))
    · refine lv_aload_n hx hb dX0_canMerge_11 rfl (lv_at hl 1 rfl) ?_
      refine tq_get (C0 := RX0) (T := TX0) (N := 8) (ci := 0) (k := 1) C gX0 inX0 rfl (by decide) rfl fl_X0_40 hK hP 2 rfl rfl dX0_canMerge_12 ?_
      refine lv_iload_n hx hb dX0_canMerge_15 rfl (lv_at hl 2 rfl) ?_
      refine tq_callF (va_runV C.fix (As := [.int (nI (row))]) (rest := []) (c_X2_count l D cy (a 7) (a 10) (a 11) (a 12) (a 13) (a 1) (a 4) (a 5) (a 6) efi ela eco ene key tk cp row hsl) (tq_cV (n := 1) C ml_X0_80 im_X2_count se_X2_count ini_X2 cd_X2_count ⟨by decide, by decide, by decide +kernel⟩ ⟨Nat.le_of_ble_eq_true rfl, Nat.le_of_ble_eq_true rfl⟩) ⟨tq_Pf.blind, va_recv hK hP (ci := 2) (q0 := 7) rfl rfl, tq_preF C hK (hP.sub [7, 10, 11, 12, 13, 1, 4] rfl)⟩ rfl rfl hl.1 rfl (lv_room (Nat.le_of_ble_eq_true rfl)) dX0_canMerge_16 ⟨Nat.le_of_ble_eq_true rfl, Nat.le_of_ble_eq_true rfl⟩) (fun r16 hr16 => ?_)
      obtain rfl := hr16
      refine lv_aload_n hx hb dX0_canMerge_19 rfl (lv_at hl 1 rfl) ?_
      refine tq_get (C0 := RX0) (T := TX0) (N := 8) (ci := 0) (k := 1) C gX0 inX0 rfl (by decide) rfl fl_X0_40 hK hP 2 rfl rfl dX0_canMerge_20 ?_
      refine lv_iload_n hx hb dX0_canMerge_23 rfl (lv_at hl 0 rfl) ?_
      refine tq_callF (va_runV C.fix (As := [.int (nI (bdy ldp row))]) (rest := [.int (nI (eco row))]) (c_X2_count l D cy (a 7) (a 10) (a 11) (a 12) (a 13) (a 1) (a 4) (a 5) (a 6) efi ela eco ene key tk cp (bdy ldp row) hb9) (tq_cV (n := 1) C ml_X0_80 im_X2_count se_X2_count ini_X2 cd_X2_count ⟨by decide, by decide, by decide +kernel⟩ ⟨Nat.le_of_ble_eq_true rfl, Nat.le_of_ble_eq_true rfl⟩) ⟨tq_Pf.blind, va_recv hK hP (ci := 2) (q0 := 7) rfl rfl, tq_preF C hK (hP.sub [7, 10, 11, 12, 13, 1, 4] rfl)⟩ rfl rfl hl.1 rfl (lv_room (Nat.le_of_ble_eq_true rfl)) dX0_canMerge_24 ⟨Nat.le_of_ble_eq_true rfl, Nat.le_of_ble_eq_true rfl⟩) (fun r24 hr24 => ?_)
      obtain rfl := hr24
      refine tq_iadd C dX0_canMerge_27 ?_
      refine lv_aload_n hx hb dX0_canMerge_28 rfl (lv_at hl 1 rfl) ?_
      refine tq_get (C0 := RX0) (T := TX0) (N := 8) (ci := 0) (k := 0) C gX0 inX0 rfl (by decide) rfl fl_X0_31 hK hP 2 rfl rfl dX0_canMerge_29 ?_
      refine tq_getN (C0 := RX3) (T := TX3) (N := 5) (ci := 3) (k := 4) C gX3 inX3 rfl (by decide) rfl fn_X0_83 hK hP 1 rfl rfl dX0_canMerge_32 ?_
      refine tq_icmp_gt (tgt := 42) C (by omega) (by omega) dX0_canMerge_35 (by decide) (fun h35 => ?_) (fun h35 => ?_)
      · refine lv_iconst (v := nI 0) hx hb dX0_canMerge_42 (by decide) ?_
        exact tq_fret (v := (nI (0))) C (by decide) (Or.inr ⟨fun h => by omega, rfl⟩) dX0_canMerge_43
      · refine lv_iconst (v := nI 1) hx hb dX0_canMerge_38 (by decide) ?_
        refine lv_goto (tgt := 43) hx hb dX0_canMerge_39 (by decide) ?_
        exact tq_fret (v := (nI (1))) C (by decide) (Or.inl ⟨⟨hz, hq, h35⟩, rfl⟩) dX0_canMerge_43
  · refine lv_istore_n (lv' := [(2, .int (-1)), (0, .ref (a 2)), (1, .int (nI (row)))]) hx hb dX0_canMerge_5 rfl hl (by decide) rfl (fun ls hl => ?_)
    refine lv_iload_n hx hb dX0_canMerge_6 rfl (lv_at hl 0 rfl) ?_
    refine lv_iconst (v := (-1)) hx hb dX0_canMerge_7 (by decide) ?_
    refine lv_icmp_eq (tgt := 42) hx hb dX0_canMerge_8 (by decide) (fun h8 => ?_) (fun h8 => ?_)
    · refine lv_iconst (v := nI 0) hx hb dX0_canMerge_42 (by decide) ?_
      exact tq_fret (v := (nI (0))) C (by decide) (Or.inr ⟨fun h => hq h.2.1, rfl⟩) dX0_canMerge_43
    · exact absurd rfl h8
