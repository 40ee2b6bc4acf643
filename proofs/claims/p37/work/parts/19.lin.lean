theorem dX1_countBuckets_0 : decode cX1_countBuckets 0 = .ok (.iconst 1, 1) := by decide +kernel
theorem dX1_countBuckets_1 : decode cX1_countBuckets 1 = .ok (.aload_n 0, 1) := by decide +kernel
theorem dX1_countBuckets_2 : decode cX1_countBuckets 2 = .ok (.getfield 9, 3) := by decide +kernel
theorem dX1_countBuckets_5 : decode cX1_countBuckets 5 = .ok (.ishl, 1) := by decide +kernel
theorem dX1_countBuckets_6 : decode cX1_countBuckets 6 = .ok (.aload_n 0, 1) := by decide +kernel
theorem dX1_countBuckets_7 : decode cX1_countBuckets 7 = .ok (.getfield 15, 3) := by decide +kernel
theorem dX1_countBuckets_10 : decode cX1_countBuckets 10 = .ok (.iadd, 1) := by decide +kernel
theorem dX1_countBuckets_11 : decode cX1_countBuckets 11 = .ok (.ireturn, 1) := by decide +kernel
theorem dX1_rowFor_0 : decode cX1_rowFor 0 = .ok (.iload_n 1, 1) := by decide +kernel
theorem dX1_rowFor_1 : decode cX1_rowFor 1 = .ok (.invokestatic 40, 3) := by decide +kernel
theorem dX1_rowFor_4 : decode cX1_rowFor 4 = .ok (.aload_n 0, 1) := by decide +kernel
theorem dX1_rowFor_5 : decode cX1_rowFor 5 = .ok (.getfield 9, 3) := by decide +kernel
theorem dX1_rowFor_8 : decode cX1_rowFor 8 = .ok (.invokestatic 44, 3) := by decide +kernel
theorem dX1_rowFor_11 : decode cX1_rowFor 11 = .ok (.istore_n 2, 1) := by decide +kernel
theorem dX1_rowFor_12 : decode cX1_rowFor 12 = .ok (.iload_n 2, 1) := by decide +kernel
theorem dX1_rowFor_13 : decode cX1_rowFor 13 = .ok (.aload_n 0, 1) := by decide +kernel
theorem dX1_rowFor_14 : decode cX1_rowFor 14 = .ok (.getfield 15, 3) := by decide +kernel
theorem dX1_rowFor_17 : decode cX1_rowFor 17 = .ok (.if_icmp .lt 7, 3) := by decide +kernel
theorem dX1_rowFor_20 : decode cX1_rowFor 20 = .ok (.iload_n 2, 1) := by decide +kernel
theorem dX1_rowFor_21 : decode cX1_rowFor 21 = .ok (.goto 16, 3) := by decide +kernel
theorem dX1_rowFor_24 : decode cX1_rowFor 24 = .ok (.iload_n 1, 1) := by decide +kernel
theorem dX1_rowFor_25 : decode cX1_rowFor 25 = .ok (.invokestatic 40, 3) := by decide +kernel
theorem dX1_rowFor_28 : decode cX1_rowFor 28 = .ok (.aload_n 0, 1) := by decide +kernel
theorem dX1_rowFor_29 : decode cX1_rowFor 29 = .ok (.getfield 9, 3) := by decide +kernel
theorem dX1_rowFor_32 : decode cX1_rowFor 32 = .ok (.iconst 1, 1) := by decide +kernel
theorem dX1_rowFor_33 : decode cX1_rowFor 33 = .ok (.iadd, 1) := by decide +kernel
theorem dX1_rowFor_34 : decode cX1_rowFor 34 = .ok (.invokestatic 44, 3) := by decide +kernel
theorem dX1_rowFor_37 : decode cX1_rowFor 37 = .ok (.ireturn, 1) := by decide +kernel
theorem dX1_fullAt_0 : decode cX1_fullAt 0 = .ok (.iload_n 1, 1) := by decide +kernel
theorem dX1_fullAt_1 : decode cX1_fullAt 1 = .ok (.iload_n 2, 1) := by decide +kernel
theorem dX1_fullAt_2 : decode cX1_fullAt 2 = .ok (.imul, 1) := by decide +kernel
theorem dX1_fullAt_3 : decode cX1_fullAt 3 = .ok (.aload_n 0, 1) := by decide +kernel
theorem dX1_fullAt_4 : decode cX1_fullAt 4 = .ok (.getfield 27, 3) := by decide +kernel
theorem dX1_fullAt_7 : decode cX1_fullAt 7 = .ok (.getfield 85, 3) := by decide +kernel
theorem dX1_fullAt_10 : decode cX1_fullAt 10 = .ok (.imul, 1) := by decide +kernel
theorem dX1_fullAt_11 : decode cX1_fullAt 11 = .ok (.ireturn, 1) := by decide +kernel
theorem dX1_reset_0 : decode cX1_reset 0 = .ok (.aload_n 0, 1) := by decide +kernel
theorem dX1_reset_1 : decode cX1_reset 1 = .ok (.iconst 0, 1) := by decide +kernel
theorem dX1_reset_2 : decode cX1_reset 2 = .ok (.putfield 9, 3) := by decide +kernel
theorem dX1_reset_5 : decode cX1_reset 5 = .ok (.aload_n 0, 1) := by decide +kernel
theorem dX1_reset_6 : decode cX1_reset 6 = .ok (.iconst 0, 1) := by decide +kernel
theorem dX1_reset_7 : decode cX1_reset 7 = .ok (.putfield 15, 3) := by decide +kernel
theorem dX1_reset_10 : decode cX1_reset 10 = .ok (.aload_n 0, 1) := by decide +kernel
theorem dX1_reset_11 : decode cX1_reset 11 = .ok (.getfield 36, 3) := by decide +kernel
theorem dX1_reset_14 : decode cX1_reset 14 = .ok (.invokevirtual 82, 3) := by decide +kernel
theorem dX1_reset_17 : decode cX1_reset 17 = .ok (.return_, 1) := by decide +kernel
theorem dX1_splitNext_0 : decode cX1_splitNext 0 = .ok (.aload_n 0, 1) := by decide +kernel
theorem dX1_splitNext_1 : decode cX1_splitNext 1 = .ok (.getfield 36, 3) := by decide +kernel
theorem dX1_splitNext_4 : decode cX1_splitNext 4 = .ok (.aload_n 0, 1) := by decide +kernel
theorem dX1_splitNext_5 : decode cX1_splitNext 5 = .ok (.getfield 15, 3) := by decide +kernel
theorem dX1_splitNext_8 : decode cX1_splitNext 8 = .ok (.aload_n 0, 1) := by decide +kernel
theorem dX1_splitNext_9 : decode cX1_splitNext 9 = .ok (.getfield 15, 3) := by decide +kernel
theorem dX1_splitNext_12 : decode cX1_splitNext 12 = .ok (.aload_n 0, 1) := by decide +kernel
theorem dX1_splitNext_13 : decode cX1_splitNext 13 = .ok (.invokevirtual 63, 3) := by decide +kernel
theorem dX1_splitNext_16 : decode cX1_splitNext 16 = .ok (.aload_n 0, 1) := by decide +kernel
theorem dX1_splitNext_17 : decode cX1_splitNext 17 = .ok (.getfield 9, 3) := by decide +kernel
theorem dX1_splitNext_20 : decode cX1_splitNext 20 = .ok (.invokevirtual 88, 3) := by decide +kernel
theorem dX1_splitNext_23 : decode cX1_splitNext 23 = .ok (.aload_n 0, 1) := by decide +kernel
theorem dX1_splitNext_24 : decode cX1_splitNext 24 = .ok (.dup, 1) := by decide +kernel
theorem dX1_splitNext_25 : decode cX1_splitNext 25 = .ok (.getfield 15, 3) := by decide +kernel
theorem dX1_splitNext_28 : decode cX1_splitNext 28 = .ok (.iconst 1, 1) := by decide +kernel
theorem dX1_splitNext_29 : decode cX1_splitNext 29 = .ok (.iadd, 1) := by decide +kernel
theorem dX1_splitNext_30 : decode cX1_splitNext 30 = .ok (.putfield 15, 3) := by decide +kernel
theorem dX1_splitNext_33 : decode cX1_splitNext 33 = .ok (.aload_n 0, 1) := by decide +kernel
theorem dX1_splitNext_34 : decode cX1_splitNext 34 = .ok (.getfield 15, 3) := by decide +kernel
theorem dX1_splitNext_37 : decode cX1_splitNext 37 = .ok (.iconst 1, 1) := by decide +kernel
theorem dX1_splitNext_38 : decode cX1_splitNext 38 = .ok (.aload_n 0, 1) := by decide +kernel
theorem dX1_splitNext_39 : decode cX1_splitNext 39 = .ok (.getfield 9, 3) := by decide +kernel
theorem dX1_splitNext_42 : decode cX1_splitNext 42 = .ok (.ishl, 1) := by decide +kernel
theorem dX1_splitNext_43 : decode cX1_splitNext 43 = .ok (.if_icmp .ne 18, 3) := by decide +kernel
theorem dX1_splitNext_46 : decode cX1_splitNext 46 = .ok (.aload_n 0, 1) := by decide +kernel
theorem dX1_splitNext_47 : decode cX1_splitNext 47 = .ok (.dup, 1) := by decide +kernel
theorem dX1_splitNext_48 : decode cX1_splitNext 48 = .ok (.getfield 9, 3) := by decide +kernel
theorem dX1_splitNext_51 : decode cX1_splitNext 51 = .ok (.iconst 1, 1) := by decide +kernel
theorem dX1_splitNext_52 : decode cX1_splitNext 52 = .ok (.iadd, 1) := by decide +kernel
theorem dX1_splitNext_53 : decode cX1_splitNext 53 = .ok (.putfield 9, 3) := by decide +kernel
theorem dX1_splitNext_56 : decode cX1_splitNext 56 = .ok (.aload_n 0, 1) := by decide +kernel
theorem dX1_splitNext_57 : decode cX1_splitNext 57 = .ok (.iconst 0, 1) := by decide +kernel
theorem dX1_splitNext_58 : decode cX1_splitNext 58 = .ok (.putfield 15, 3) := by decide +kernel
theorem dX1_splitNext_61 : decode cX1_splitNext 61 = .ok (.aload_n 0, 1) := by decide +kernel
theorem dX1_splitNext_62 : decode cX1_splitNext 62 = .ok (.dup, 1) := by decide +kernel
theorem dX1_splitNext_63 : decode cX1_splitNext 63 = .ok (.getfield 24, 3) := by decide +kernel
theorem dX1_splitNext_66 : decode cX1_splitNext 66 = .ok (.iconst 1, 1) := by decide +kernel
theorem dX1_splitNext_67 : decode cX1_splitNext 67 = .ok (.iadd, 1) := by decide +kernel
theorem dX1_splitNext_68 : decode cX1_splitNext 68 = .ok (.putfield 24, 3) := by decide +kernel
theorem dX1_splitNext_71 : decode cX1_splitNext 71 = .ok (.return_, 1) := by decide +kernel
theorem dX1_takeBackSplit_0 : decode cX1_takeBackSplit 0 = .ok (.aload_n 0, 1) := by decide +kernel
theorem dX1_takeBackSplit_1 : decode cX1_takeBackSplit 1 = .ok (.getfield 15, 3) := by decide +kernel
theorem dX1_takeBackSplit_4 : decode cX1_takeBackSplit 4 = .ok (.ifCond .ne 23, 3) := by decide +kernel
theorem dX1_takeBackSplit_7 : decode cX1_takeBackSplit 7 = .ok (.aload_n 0, 1) := by decide +kernel
theorem dX1_takeBackSplit_8 : decode cX1_takeBackSplit 8 = .ok (.dup, 1) := by decide +kernel
theorem dX1_takeBackSplit_9 : decode cX1_takeBackSplit 9 = .ok (.getfield 9, 3) := by decide +kernel
theorem dX1_takeBackSplit_12 : decode cX1_takeBackSplit 12 = .ok (.iconst 1, 1) := by decide +kernel
theorem dX1_takeBackSplit_13 : decode cX1_takeBackSplit 13 = .ok (.isub, 1) := by decide +kernel
theorem dX1_takeBackSplit_14 : decode cX1_takeBackSplit 14 = .ok (.putfield 9, 3) := by decide +kernel
theorem dX1_takeBackSplit_17 : decode cX1_takeBackSplit 17 = .ok (.aload_n 0, 1) := by decide +kernel
theorem dX1_takeBackSplit_18 : decode cX1_takeBackSplit 18 = .ok (.iconst 1, 1) := by decide +kernel
theorem dX1_takeBackSplit_19 : decode cX1_takeBackSplit 19 = .ok (.aload_n 0, 1) := by decide +kernel
theorem dX1_takeBackSplit_20 : decode cX1_takeBackSplit 20 = .ok (.getfield 9, 3) := by decide +kernel
theorem dX1_takeBackSplit_23 : decode cX1_takeBackSplit 23 = .ok (.ishl, 1) := by decide +kernel
theorem dX1_takeBackSplit_24 : decode cX1_takeBackSplit 24 = .ok (.putfield 15, 3) := by decide +kernel
theorem dX1_takeBackSplit_27 : decode cX1_takeBackSplit 27 = .ok (.aload_n 0, 1) := by decide +kernel
theorem dX1_takeBackSplit_28 : decode cX1_takeBackSplit 28 = .ok (.dup, 1) := by decide +kernel
theorem dX1_takeBackSplit_29 : decode cX1_takeBackSplit 29 = .ok (.getfield 15, 3) := by decide +kernel
theorem dX1_takeBackSplit_32 : decode cX1_takeBackSplit 32 = .ok (.iconst 1, 1) := by decide +kernel
theorem dX1_takeBackSplit_33 : decode cX1_takeBackSplit 33 = .ok (.isub, 1) := by decide +kernel
theorem dX1_takeBackSplit_34 : decode cX1_takeBackSplit 34 = .ok (.putfield 15, 3) := by decide +kernel
theorem dX1_takeBackSplit_37 : decode cX1_takeBackSplit 37 = .ok (.aload_n 0, 1) := by decide +kernel
theorem dX1_takeBackSplit_38 : decode cX1_takeBackSplit 38 = .ok (.getfield 36, 3) := by decide +kernel
theorem dX1_takeBackSplit_41 : decode cX1_takeBackSplit 41 = .ok (.aload_n 0, 1) := by decide +kernel
theorem dX1_takeBackSplit_42 : decode cX1_takeBackSplit 42 = .ok (.invokevirtual 63, 3) := by decide +kernel
theorem dX1_takeBackSplit_45 : decode cX1_takeBackSplit 45 = .ok (.aload_n 0, 1) := by decide +kernel
theorem dX1_takeBackSplit_46 : decode cX1_takeBackSplit 46 = .ok (.getfield 15, 3) := by decide +kernel
theorem dX1_takeBackSplit_49 : decode cX1_takeBackSplit 49 = .ok (.invokevirtual 92, 3) := by decide +kernel
theorem dX1_takeBackSplit_52 : decode cX1_takeBackSplit 52 = .ok (.aload_n 0, 1) := by decide +kernel
theorem dX1_takeBackSplit_53 : decode cX1_takeBackSplit 53 = .ok (.dup, 1) := by decide +kernel
theorem dX1_takeBackSplit_54 : decode cX1_takeBackSplit 54 = .ok (.getfield 24, 3) := by decide +kernel
theorem dX1_takeBackSplit_57 : decode cX1_takeBackSplit 57 = .ok (.iconst 1, 1) := by decide +kernel
theorem dX1_takeBackSplit_58 : decode cX1_takeBackSplit 58 = .ok (.isub, 1) := by decide +kernel
theorem dX1_takeBackSplit_59 : decode cX1_takeBackSplit 59 = .ok (.putfield 24, 3) := by decide +kernel
theorem dX1_takeBackSplit_62 : decode cX1_takeBackSplit 62 = .ok (.return_, 1) := by decide +kernel
theorem dX1_insert_0 : decode cX1_insert 0 = .ok (.aload_n 0, 1) := by decide +kernel
theorem dX1_insert_1 : decode cX1_insert 1 = .ok (.getfield 36, 3) := by decide +kernel
theorem dX1_insert_4 : decode cX1_insert 4 = .ok (.aload_n 0, 1) := by decide +kernel
theorem dX1_insert_5 : decode cX1_insert 5 = .ok (.aload_n 0, 1) := by decide +kernel
theorem dX1_insert_6 : decode cX1_insert 6 = .ok (.getfield 27, 3) := by decide +kernel
theorem dX1_insert_9 : decode cX1_insert 9 = .ok (.iload_n 1, 1) := by decide +kernel
theorem dX1_insert_10 : decode cX1_insert 10 = .ok (.invokevirtual 54, 3) := by decide +kernel
theorem dX1_insert_13 : decode cX1_insert 13 = .ok (.invokevirtual 48, 3) := by decide +kernel
theorem dX1_insert_16 : decode cX1_insert 16 = .ok (.iload_n 1, 1) := by decide +kernel
theorem dX1_insert_17 : decode cX1_insert 17 = .ok (.invokevirtual 59, 3) := by decide +kernel
theorem dX1_insert_20 : decode cX1_insert 20 = .ok (.aload_n 0, 1) := by decide +kernel
theorem dX1_insert_21 : decode cX1_insert 21 = .ok (.invokevirtual 63, 3) := by decide +kernel
theorem dX1_insert_24 : decode cX1_insert 24 = .ok (.istore_n 2, 1) := by decide +kernel
theorem dX1_insert_25 : decode cX1_insert 25 = .ok (.iload_n 2, 1) := by decide +kernel
theorem dX1_insert_26 : decode cX1_insert 26 = .ok (.sipush 256, 3) := by decide +kernel
theorem dX1_insert_29 : decode cX1_insert 29 = .ok (.if_icmp .ge 35, 3) := by decide +kernel
theorem dX1_insert_32 : decode cX1_insert 32 = .ok (.bipush 100, 2) := by decide +kernel
theorem dX1_insert_34 : decode cX1_insert 34 = .ok (.aload_n 0, 1) := by decide +kernel
theorem dX1_insert_35 : decode cX1_insert 35 = .ok (.getfield 27, 3) := by decide +kernel
theorem dX1_insert_38 : decode cX1_insert 38 = .ok (.getfield 67, 3) := by decide +kernel
theorem dX1_insert_41 : decode cX1_insert 41 = .ok (.imul, 1) := by decide +kernel
theorem dX1_insert_42 : decode cX1_insert 42 = .ok (.aload_n 0, 1) := by decide +kernel
theorem dX1_insert_43 : decode cX1_insert 43 = .ok (.aload_n 0, 1) := by decide +kernel
theorem dX1_insert_44 : decode cX1_insert 44 = .ok (.getfield 21, 3) := by decide +kernel
theorem dX1_insert_47 : decode cX1_insert 47 = .ok (.iload_n 2, 1) := by decide +kernel
theorem dX1_insert_48 : decode cX1_insert 48 = .ok (.invokevirtual 70, 3) := by decide +kernel
theorem dX1_insert_51 : decode cX1_insert 51 = .ok (.if_icmp .le 13, 3) := by decide +kernel
theorem dX1_insert_54 : decode cX1_insert 54 = .ok (.aload_n 0, 1) := by decide +kernel
theorem dX1_insert_55 : decode cX1_insert 55 = .ok (.invokevirtual 73, 3) := by decide +kernel
theorem dX1_insert_58 : decode cX1_insert 58 = .ok (.iinc 2 1, 3) := by decide +kernel
theorem dX1_insert_61 : decode cX1_insert 61 = .ok (.goto (-36), 3) := by decide +kernel
theorem dX1_insert_64 : decode cX1_insert 64 = .ok (.return_, 1) := by decide +kernel
theorem dX1_delete_0 : decode cX1_delete 0 = .ok (.aload_n 0, 1) := by decide +kernel
theorem dX1_delete_1 : decode cX1_delete 1 = .ok (.getfield 36, 3) := by decide +kernel
theorem dX1_delete_4 : decode cX1_delete 4 = .ok (.aload_n 0, 1) := by decide +kernel
theorem dX1_delete_5 : decode cX1_delete 5 = .ok (.aload_n 0, 1) := by decide +kernel
theorem dX1_delete_6 : decode cX1_delete 6 = .ok (.getfield 27, 3) := by decide +kernel
theorem dX1_delete_9 : decode cX1_delete 9 = .ok (.iload_n 1, 1) := by decide +kernel
theorem dX1_delete_10 : decode cX1_delete 10 = .ok (.invokevirtual 54, 3) := by decide +kernel
theorem dX1_delete_13 : decode cX1_delete 13 = .ok (.invokevirtual 48, 3) := by decide +kernel
theorem dX1_delete_16 : decode cX1_delete 16 = .ok (.iload_n 1, 1) := by decide +kernel
theorem dX1_delete_17 : decode cX1_delete 17 = .ok (.invokevirtual 76, 3) := by decide +kernel
theorem dX1_delete_20 : decode cX1_delete 20 = .ok (.aload_n 0, 1) := by decide +kernel
theorem dX1_delete_21 : decode cX1_delete 21 = .ok (.invokevirtual 63, 3) := by decide +kernel
theorem dX1_delete_24 : decode cX1_delete 24 = .ok (.istore_n 2, 1) := by decide +kernel
theorem dX1_delete_25 : decode cX1_delete 25 = .ok (.iload_n 2, 1) := by decide +kernel
theorem dX1_delete_26 : decode cX1_delete 26 = .ok (.iconst 1, 1) := by decide +kernel
theorem dX1_delete_27 : decode cX1_delete 27 = .ok (.if_icmp .le 35, 3) := by decide +kernel
theorem dX1_delete_30 : decode cX1_delete 30 = .ok (.bipush 100, 2) := by decide +kernel
theorem dX1_delete_32 : decode cX1_delete 32 = .ok (.aload_n 0, 1) := by decide +kernel
theorem dX1_delete_33 : decode cX1_delete 33 = .ok (.getfield 27, 3) := by decide +kernel
theorem dX1_delete_36 : decode cX1_delete 36 = .ok (.getfield 67, 3) := by decide +kernel
theorem dX1_delete_39 : decode cX1_delete 39 = .ok (.imul, 1) := by decide +kernel
theorem dX1_delete_40 : decode cX1_delete 40 = .ok (.aload_n 0, 1) := by decide +kernel
theorem dX1_delete_41 : decode cX1_delete 41 = .ok (.aload_n 0, 1) := by decide +kernel
theorem dX1_delete_42 : decode cX1_delete 42 = .ok (.getfield 18, 3) := by decide +kernel
theorem dX1_delete_45 : decode cX1_delete 45 = .ok (.iload_n 2, 1) := by decide +kernel
theorem dX1_delete_46 : decode cX1_delete 46 = .ok (.invokevirtual 70, 3) := by decide +kernel
theorem dX1_delete_49 : decode cX1_delete 49 = .ok (.if_icmp .ge 13, 3) := by decide +kernel
theorem dX1_delete_52 : decode cX1_delete 52 = .ok (.aload_n 0, 1) := by decide +kernel
theorem dX1_delete_53 : decode cX1_delete 53 = .ok (.invokevirtual 79, 3) := by decide +kernel
theorem dX1_delete_56 : decode cX1_delete 56 = .ok (.iinc 2 (-1), 3) := by decide +kernel
theorem dX1_delete_59 : decode cX1_delete 59 = .ok (.goto (-34), 3) := by decide +kernel
theorem dX1_delete_62 : decode cX1_delete 62 = .ok (.return_, 1) := by decide +kernel
set_option maxHeartbeats 4000000 in
set_option maxRecDepth 100000 in
theorem c_X1_countBuckets (l : Launch) (D : va_G) (cy : ClassId) (a : Nat → Nat) (key : Nat → Nat) (val : Nat → Nat) (ord : Nat → Nat) (tk : Nat) (cp : Nat) (efi : Nat → Nat) (ela : Nat → Nat) (eco : Nat → Nat) (ene : Nat → Nat) (ldp : Nat → Nat) (dp : Nat) (dbl : Int32) (hlv : Int32) (spl : Int32) (mrg : Int32) (lfi : Nat → Nat) (lla : Nat → Nat) (lco : Nat → Nat) (lne : Nat → Nat) (lev : Nat) (ptr : Nat) (llo : Nat) (lhi : Nat) (lsp : Int32)  (hY : YOK lev ptr)  : tq_F l yX1_countBuckets cX1_countBuckets 1 (some .int) 0 0 D cy (wC cy a key val ord tk cp efi ela eco ene ldp dp dbl hlv spl mrg lfi lla lco lne lev ptr llo lhi lsp) [.ref (a 3)] (fun r => r = (nI (2 ^ lev + ptr))) := by
  refine tq_F.mk (by decide) (Nat.le_of_ble_eq_true rfl) ?_
  intro p e s m args below meth c C hP hK ls hl
  obtain ⟨hx, hb, hml, hown, hrt, hlk, hT⟩ := id C
  have hl : lv_has ls 1 [(0, .ref (a 3))] := hl
  have hlv9 := hY.lev
  have hp7 := p2_le (c := 7) hlv9
  have hpt := hY.1
  have hmn := hY.2
  refine lv_iconst (v := nI 1) hx hb dX1_countBuckets_0 (by decide) ?_
  refine lv_aload_n hx hb dX1_countBuckets_1 rfl (lv_at hl 0 rfl) ?_
  refine tq_get (C0 := RX1) (T := TX1) (N := 7) (ci := 1) (k := 2) C gX1 inX1 rfl (by decide) rfl fl_X1_9 hK hP 3 rfl rfl dX1_countBuckets_2 ?_
  refine tq_ishl C (by omega) (by omega) dX1_countBuckets_5 ?_
  refine tq_top (y := nI (2 ^ lev)) (by rw [Nat.one_mul]) ?_
  refine lv_aload_n hx hb dX1_countBuckets_6 rfl (lv_at hl 0 rfl) ?_
  refine tq_get (C0 := RX1) (T := TX1) (N := 7) (ci := 1) (k := 3) C gX1 inX1 rfl (by decide) rfl fl_X1_15 hK hP 3 rfl rfl dX1_countBuckets_7 ?_
  refine tq_iadd C dX1_countBuckets_10 ?_
  exact tq_fret (v := (nI ((2 ^ lev) + ptr))) C rfl (rfl) dX1_countBuckets_11
set_option maxHeartbeats 4000000 in
set_option maxRecDepth 100000 in
theorem c_X1_rowFor (l : Launch) (D : va_G) (cy : ClassId) (a : Nat → Nat) (key : Nat → Nat) (val : Nat → Nat) (ord : Nat → Nat) (tk : Nat) (cp : Nat) (efi : Nat → Nat) (ela : Nat → Nat) (eco : Nat → Nat) (ene : Nat → Nat) (ldp : Nat → Nat) (dp : Nat) (dbl : Int32) (hlv : Int32) (spl : Int32) (mrg : Int32) (lfi : Nat → Nat) (lla : Nat → Nat) (lco : Nat → Nat) (lne : Nat → Nat) (lev : Nat) (ptr : Nat) (llo : Nat) (lhi : Nat) (lsp : Int32) (kx : Nat) (hY : YOK lev ptr) (hkx : kx < 65536) : tq_F l yX1_rowFor cX1_rowFor 3 (some .int) 2 41 D cy (wC cy a key val ord tk cp efi ela eco ene ldp dp dbl hlv spl mrg lfi lla lco lne lev ptr llo lhi lsp) [.ref (a 3), .int (nI (kx))] (fun r => r = (nI (linOf lev ptr kx))) := by
  refine tq_F.mk (by decide) (Nat.le_of_ble_eq_true rfl) ?_
  intro p e s m args below meth c C hP hK ls hl
  obtain ⟨hx, hb, hml, hown, hrt, hlk, hT⟩ := id C
  have hl : lv_has ls 3 [(0, .ref (a 3)), (1, .int (nI (kx)))] := hl
  have hlv9 := hY.lev
  have hp7 := p2_le (c := 7) hlv9
  have hpt := hY.1
  have hmn := hY.2
  have hh := hs_lt kx
  have hml := Nat.mod_le (hs kx) (2 ^ lev)
  refine lv_iload_n hx hb dX1_rowFor_0 rfl (lv_at hl 1 rfl) ?_
  refine tq_callF (va_runSN C.fix (As := [.int (nI (kx))]) (rest := []) (c_X4_hash l D cy kx hkx) (tq_cN (n := 1) C mn_X1_40 sm_X4_hash ini_X4 cd_X4_hash ⟨by decide, by decide, by decide +kernel⟩ ⟨Nat.le_of_ble_eq_true rfl, Nat.le_of_ble_eq_true rfl⟩) ⟨tq_Pf.blind, tq_preF C hK (hP.sub [] rfl)⟩ rfl rfl hl.1 rfl (lv_room (Nat.le_of_ble_eq_true rfl)) dX1_rowFor_1 ⟨Nat.le_of_ble_eq_true rfl, Nat.le_of_ble_eq_true rfl⟩) (fun r1 hr1 => ?_)
  obtain rfl := hr1
  refine lv_aload_n hx hb dX1_rowFor_4 rfl (lv_at hl 0 rfl) ?_
  refine tq_get (C0 := RX1) (T := TX1) (N := 7) (ci := 1) (k := 2) C gX1 inX1 rfl (by decide) rfl fl_X1_9 hK hP 3 rfl rfl dX1_rowFor_5 ?_
  refine tq_callF (va_runSN C.fix (As := [.int (nI (hs kx)), .int (nI (lev))]) (rest := []) (c_X4_lowBits l D cy (hs kx) lev (by omega) (by omega)) (tq_cN (n := 2) C mn_X1_44 sm_X4_lowBits ini_X4 cd_X4_lowBits ⟨by decide, by decide, by decide +kernel⟩ ⟨Nat.le_of_ble_eq_true rfl, Nat.le_of_ble_eq_true rfl⟩) ⟨tq_Pf.blind, tq_preF C hK (hP.sub [] rfl)⟩ rfl rfl hl.1 rfl (lv_room (Nat.le_of_ble_eq_true rfl)) dX1_rowFor_8 ⟨Nat.le_of_ble_eq_true rfl, Nat.le_of_ble_eq_true rfl⟩) (fun r8 hr8 => ?_)
  obtain rfl := hr8
  refine lv_istore_n (lv' := [(2, .int (nI ((hs kx) % 2 ^ lev))), (0, .ref (a 3)), (1, .int (nI (kx)))]) hx hb dX1_rowFor_11 rfl hl (by decide) rfl (fun ls hl => ?_)
  refine lv_iload_n hx hb dX1_rowFor_12 rfl (lv_at hl 0 rfl) ?_
  refine lv_aload_n hx hb dX1_rowFor_13 rfl (lv_at hl 1 rfl) ?_
  refine tq_get (C0 := RX1) (T := TX1) (N := 7) (ci := 1) (k := 3) C gX1 inX1 rfl (by decide) rfl fl_X1_15 hK hP 3 rfl rfl dX1_rowFor_14 ?_
  refine tq_icmp_lt (tgt := 24) C (by omega) (by omega) dX1_rowFor_17 (by decide) (fun h17 => ?_) (fun h17 => ?_)
  · refine lv_iload_n hx hb dX1_rowFor_24 rfl (lv_at hl 2 rfl) ?_
    refine tq_callF (va_runSN C.fix (As := [.int (nI (kx))]) (rest := []) (c_X4_hash l D cy kx hkx) (tq_cN (n := 1) C mn_X1_40 sm_X4_hash ini_X4 cd_X4_hash ⟨by decide, by decide, by decide +kernel⟩ ⟨Nat.le_of_ble_eq_true rfl, Nat.le_of_ble_eq_true rfl⟩) ⟨tq_Pf.blind, tq_preF C hK (hP.sub [] rfl)⟩ rfl rfl hl.1 rfl (lv_room (Nat.le_of_ble_eq_true rfl)) dX1_rowFor_25 ⟨Nat.le_of_ble_eq_true rfl, Nat.le_of_ble_eq_true rfl⟩) (fun r25 hr25 => ?_)
    obtain rfl := hr25
    refine lv_aload_n hx hb dX1_rowFor_28 rfl (lv_at hl 1 rfl) ?_
    refine tq_get (C0 := RX1) (T := TX1) (N := 7) (ci := 1) (k := 2) C gX1 inX1 rfl (by decide) rfl fl_X1_9 hK hP 3 rfl rfl dX1_rowFor_29 ?_
    refine lv_iconst (v := nI 1) hx hb dX1_rowFor_32 (by decide) ?_
    refine tq_iadd C dX1_rowFor_33 ?_
    refine tq_callF (va_runSN C.fix (As := [.int (nI (hs kx)), .int (nI (lev + 1))]) (rest := []) (c_X4_lowBits l D cy (hs kx) (lev + 1) (by omega) (by omega)) (tq_cN (n := 2) C mn_X1_44 sm_X4_lowBits ini_X4 cd_X4_lowBits ⟨by decide, by decide, by decide +kernel⟩ ⟨Nat.le_of_ble_eq_true rfl, Nat.le_of_ble_eq_true rfl⟩) ⟨tq_Pf.blind, tq_preF C hK (hP.sub [] rfl)⟩ rfl rfl hl.1 rfl (lv_room (Nat.le_of_ble_eq_true rfl)) dX1_rowFor_34 ⟨Nat.le_of_ble_eq_true rfl, Nat.le_of_ble_eq_true rfl⟩) (fun r34 hr34 => ?_)
    obtain rfl := hr34
    exact tq_fret (v := (nI ((hs kx) % 2 ^ (lev + 1)))) C rfl (by rw [show linOf lev ptr kx = hs kx % 2 ^ (lev + 1) from if_neg (by omega)]) dX1_rowFor_37
  · refine lv_iload_n hx hb dX1_rowFor_20 rfl (lv_at hl 0 rfl) ?_
    refine lv_goto (tgt := 37) hx hb dX1_rowFor_21 (by decide) ?_
    exact tq_fret (v := (nI ((hs kx) % 2 ^ lev))) C rfl (by rw [show linOf lev ptr kx = hs kx % 2 ^ lev from if_pos h17]) dX1_rowFor_37
set_option maxHeartbeats 4000000 in
set_option maxRecDepth 100000 in
theorem c_X1_fullAt (l : Launch) (D : va_G) (cy : ClassId) (a : Nat → Nat) (key : Nat → Nat) (val : Nat → Nat) (ord : Nat → Nat) (tk : Nat) (cp : Nat) (efi : Nat → Nat) (ela : Nat → Nat) (eco : Nat → Nat) (ene : Nat → Nat) (ldp : Nat → Nat) (dp : Nat) (dbl : Int32) (hlv : Int32) (spl : Int32) (mrg : Int32) (lfi : Nat → Nat) (lla : Nat → Nat) (lco : Nat → Nat) (lne : Nat → Nat) (lev : Nat) (ptr : Nat) (llo : Nat) (lhi : Nat) (lsp : Int32) (pct : Nat) (bk : Nat)  : tq_F l yX1_fullAt cX1_fullAt 3 (some .int) 0 0 D cy (wC cy a key val ord tk cp efi ela eco ene ldp dp dbl hlv spl mrg lfi lla lco lne lev ptr llo lhi lsp) [.ref (a 3), .int (nI (pct)), .int (nI (bk))] (fun r => r = (nI (pct * bk * cp))) := by
  refine tq_F.mk (by decide) (Nat.le_of_ble_eq_true rfl) ?_
  intro p e s m args below meth c C hP hK ls hl
  obtain ⟨hx, hb, hml, hown, hrt, hlk, hT⟩ := id C
  have hl : lv_has ls 3 [(0, .ref (a 3)), (1, .int (nI (pct))), (2, .int (nI (bk)))] := hl
  refine lv_iload_n hx hb dX1_fullAt_0 rfl (lv_at hl 1 rfl) ?_
  refine lv_iload_n hx hb dX1_fullAt_1 rfl (lv_at hl 2 rfl) ?_
  refine tq_imul C dX1_fullAt_2 ?_
  refine lv_aload_n hx hb dX1_fullAt_3 rfl (lv_at hl 0 rfl) ?_
  refine tq_get (C0 := RX1) (T := TX1) (N := 7) (ci := 1) (k := 0) C gX1 inX1 rfl (by decide) rfl fl_X1_27 hK hP 3 rfl rfl dX1_fullAt_4 ?_
  refine tq_getN (C0 := RX3) (T := TX3) (N := 5) (ci := 3) (k := 4) C gX3 inX3 rfl (by decide) rfl fn_X1_85 hK hP 1 rfl rfl dX1_fullAt_7 ?_
  refine tq_imul C dX1_fullAt_10 ?_
  exact tq_fret (v := (nI ((pct * bk) * cp))) C rfl (rfl) dX1_fullAt_11
set_option maxHeartbeats 4000000 in
set_option maxRecDepth 100000 in
theorem c_X1_reset (l : Launch) (D : va_G) (cy : ClassId) (a : Nat → Nat) (key : Nat → Nat) (val : Nat → Nat) (ord : Nat → Nat) (tk : Nat) (cp : Nat) (efi : Nat → Nat) (ela : Nat → Nat) (eco : Nat → Nat) (ene : Nat → Nat) (ldp : Nat → Nat) (dp : Nat) (dbl : Int32) (hlv : Int32) (spl : Int32) (mrg : Int32) (lfi : Nat → Nat) (lla : Nat → Nat) (lco : Nat → Nat) (lne : Nat → Nat) (lev : Nat) (ptr : Nat) (llo : Nat) (lhi : Nat) (lsp : Int32)   : tq_V (S := (Nat → Nat) × (Nat → Nat) × (Nat → Nat)) l yX1_reset cX1_reset 1 3 62 0 0 D cy (wC cy a key val ord tk cp efi ela eco ene ldp dp dbl hlv spl mrg lfi lla lco lne lev ptr llo lhi lsp) [.ref (a 3)] (fun u => RR u.1 u.2.1 u.2.2 lne (fun _ => [])) (fun u => (wC cy a key val ord tk cp efi ela eco ene ldp dp dbl hlv spl mrg u.1 u.2.1 u.2.2 lne 0 0 llo lhi lsp)) := by
  refine tq_V.mk (by decide) (Nat.le_of_ble_eq_true rfl) ?_
  intro p e s m args below meth c A C hin hP hK hD hS hA ls hl
  obtain ⟨hx, hb, hml, hown, hrt, hlk, hT⟩ := id C
  have hl : lv_has ls 1 [(0, .ref (a 3))] := hl
  refine lv_aload_n hx hb dX1_reset_0 rfl (lv_at hl 0 rfl) ?_
  refine lv_iconst (v := nI 0) hx hb dX1_reset_1 (by decide) ?_
  refine tq_put (v := .int (nI (0))) (C0 := RX1) (T := TX1) (N := 7) (ci := 1) (k := 2) (ty := .int) C gX1 inX1 tyX1_ok nmX1 rfl (by decide) rfl fl_X1_9 rfl (by decide +kernel) hK hP hD hS 3 rfl rfl rfl (Nat.le_of_ble_eq_true rfl) dX1_reset_2 (fun H locs hP hD hS => ?_)
  have hP : va_P D vwCl (wC cy a key val ord tk cp efi ela eco ene ldp dp dbl hlv spl mrg lfi lla lco lne 0 ptr llo lhi lsp) H := hP
  have hD : va_D A (wC cy a key val ord tk cp efi ela eco ene ldp dp dbl hlv spl mrg lfi lla lco lne 0 ptr llo lhi lsp) := hD
  refine lv_aload_n hx hb dX1_reset_5 rfl (lv_at hl 0 rfl) ?_
  refine lv_iconst (v := nI 0) hx hb dX1_reset_6 (by decide) ?_
  refine tq_put (v := .int (nI (0))) (C0 := RX1) (T := TX1) (N := 7) (ci := 1) (k := 3) (ty := .int) C gX1 inX1 tyX1_ok nmX1 rfl (by decide) rfl fl_X1_15 rfl (by decide +kernel) hK hP hD hS 3 rfl rfl rfl (Nat.le_of_ble_eq_true rfl) dX1_reset_7 (fun H locs hP hD hS => ?_)
  have hP : va_P D vwCl (wC cy a key val ord tk cp efi ela eco ene ldp dp dbl hlv spl mrg lfi lla lco lne 0 0 llo lhi lsp) H := hP
  have hD : va_D A (wC cy a key val ord tk cp efi ela eco ene ldp dp dbl hlv spl mrg lfi lla lco lne 0 0 llo lhi lsp) := hD
  refine lv_aload_n hx hb dX1_reset_10 rfl (lv_at hl 0 rfl) ?_
  refine tq_get (C0 := RX1) (T := TX1) (N := 7) (ci := 1) (k := 1) C gX1 inX1 rfl (by decide) rfl fl_X1_36 hK hP 3 rfl rfl dX1_reset_11 ?_
  refine tq_callV (W3 := fun u => (wC cy a key val ord tk cp efi ela eco ene ldp dp dbl hlv spl mrg u.1 u.2.1 u.2.2 lne 0 0 llo lhi lsp)) (wr := [0, 2, 3, 5, 6, 7, 8, 10, 11, 12, 13].filterMap (fun i => (wC cy a key val ord tk cp efi ela eco ene ldp dp dbl hlv spl mrg lfi lla lco lne 0 0 llo lhi lsp)[i]?)) (va_runV C.fix (As := []) (rest := []) ((c_X2_emptyAllRows l D cy (a 9) (a 14) (a 15) (a 16) (a 17) (a 1) (a 4) (a 5) (a 6) lfi lla lco lne key tk cp) H.size) (tq_cV (n := 0) C ml_X1_82 im_X2_emptyAllRows se_X2_emptyAllRows ini_X2 cd_X2_emptyAllRows ⟨by decide, by decide, by decide +kernel⟩ ⟨Nat.le_of_ble_eq_true rfl, Nat.le_of_ble_eq_true rfl⟩) ⟨tq_Pc.blind, va_recv hK hP (ci := 2) (q0 := 9) rfl rfl, tq_preC C hK (hP.sub [9, 14, 15, 16, 17, 1, 4] rfl) (hD.sub [9, 14, 15, 16, 17, 1, 4] (by decide) rfl)⟩ rfl rfl hl.1 rfl (lv_room (Nat.le_of_ble_eq_true rfl)) dX1_reset_14 ⟨Nat.le_of_ble_eq_true rfl, Nat.le_of_ble_eq_true rfl⟩) hP hD hS hA [9, 14, 15, 16, 17, 1, 4] [0, 2, 3, 5, 6, 7, 8, 10, 11, 12, 13] [0, 16, 1, 2, 17, 3, 4, 5, 6, 11, 7, 8, 9, 10, 12, 13, 14, 15] rfl rfl (by decide) (by decide) (by decide) (fun _ => rfl) (fun u14 H locs hr14 hP hD hS => ?_)
  obtain ⟨lfi2, lla2, lco2⟩ := u14
  try dsimp only at hr14
  have hP : va_P D vwCl (wC cy a key val ord tk cp efi ela eco ene ldp dp dbl hlv spl mrg lfi2 lla2 lco2 lne 0 0 llo lhi lsp) H := hP
  have hD : va_D A (wC cy a key val ord tk cp efi ela eco ene ldp dp dbl hlv spl mrg lfi2 lla2 lco2 lne 0 0 llo lhi lsp) := hD
  exact tq_vret C (lfi2, lla2, lco2) hP hD hS (hr14) (Nat.le_of_ble_eq_true rfl) (Nat.le_of_ble_eq_true rfl) dX1_reset_17
set_option maxHeartbeats 4000000 in
set_option maxRecDepth 100000 in
theorem c_X1_splitNext (l : Launch) (D : va_G) (cy : ClassId) (a : Nat → Nat) (key : Nat → Nat) (val : Nat → Nat) (ord : Nat → Nat) (tk : Nat) (cp : Nat) (efi : Nat → Nat) (ela : Nat → Nat) (eco : Nat → Nat) (ene : Nat → Nat) (ldp : Nat → Nat) (dp : Nat) (dbl : Int32) (hlv : Int32) (spl : Int32) (mrg : Int32) (lfi : Nat → Nat) (lla : Nat → Nat) (lco : Nat → Nat) (lne : Nat → Nat) (lev : Nat) (ptr : Nat) (llo : Nat) (lhi : Nat) (lsp : Int32)  (rows : Nat → List Nat) (L : List Nat) (US : Nat → Prop) (hYR : YR key lev ptr lfi lla lco lne rows L US) (hkey : ∀ e, 1 ≤ e → e ≤ 120 → key e < 65536) (hm : 2 ^ lev + ptr < 240) : tq_V (S := (Nat → Nat) × (Nat → Nat) × (Nat → Nat) × (Nat → Nat) × Nat × Nat) l yX1_splitNext cX1_splitNext 1 3 71 0 0 D cy (wC cy a key val ord tk cp efi ela eco ene ldp dp dbl hlv spl mrg lfi lla lco lne lev ptr llo lhi lsp) [.ref (a 3)] (fun u => (∃ rows2, YR key u.2.2.2.2.1 u.2.2.2.2.2 u.1 u.2.1 u.2.2.1 u.2.2.2.1 rows2 L US) ∧ (u.2.2.2.2.1, u.2.2.2.2.2) = lsplit (lev, ptr)) (fun u => (wC cy a key val ord tk cp efi ela eco ene ldp dp dbl hlv spl mrg u.1 u.2.1 u.2.2.1 u.2.2.2.1 u.2.2.2.2.1 u.2.2.2.2.2 llo lhi (lsp + nI 1))) := by
  refine tq_V.mk (by decide) (Nat.le_of_ble_eq_true rfl) ?_
  intro p e s m args below meth c A C hin hP hK hD hS hA ls hl
  obtain ⟨hx, hb, hml, hown, hrt, hlk, hT⟩ := id C
  have hl : lv_has ls 1 [(0, .ref (a 3))] := hl
  have hY := hYR.2.1
  have hlv9 := hY.lev
  have hp7 := p2_le (c := 7) hlv9
  have hpt := hY.1
  have hmn := hY.2
  refine lv_aload_n hx hb dX1_splitNext_0 rfl (lv_at hl 0 rfl) ?_
  refine tq_get (C0 := RX1) (T := TX1) (N := 7) (ci := 1) (k := 1) C gX1 inX1 rfl (by decide) rfl fl_X1_36 hK hP 3 rfl rfl dX1_splitNext_1 ?_
  refine lv_aload_n hx hb dX1_splitNext_4 rfl (lv_at hl 0 rfl) ?_
  refine tq_get (C0 := RX1) (T := TX1) (N := 7) (ci := 1) (k := 3) C gX1 inX1 rfl (by decide) rfl fl_X1_15 hK hP 3 rfl rfl dX1_splitNext_5 ?_
  refine lv_aload_n hx hb dX1_splitNext_8 rfl (lv_at hl 0 rfl) ?_
  refine tq_get (C0 := RX1) (T := TX1) (N := 7) (ci := 1) (k := 3) C gX1 inX1 rfl (by decide) rfl fl_X1_15 hK hP 3 rfl rfl dX1_splitNext_9 ?_
  refine lv_aload_n hx hb dX1_splitNext_12 rfl (lv_at hl 0 rfl) ?_
  refine tq_callF (va_runV C.fix (As := []) (rest := [.int (nI (ptr)), .int (nI (ptr)), .ref (a 9)]) (c_X1_countBuckets l D cy a key val ord tk cp efi ela eco ene ldp dp dbl hlv spl mrg lfi lla lco lne lev ptr llo lhi lsp hY) (tq_cV (n := 0) C ml_X1_63 im_X1_countBuckets se_X1_countBuckets ini_X1 cd_X1_countBuckets ⟨by decide, by decide, by decide +kernel⟩ ⟨Nat.le_of_ble_eq_true rfl, Nat.le_of_ble_eq_true rfl⟩) ⟨tq_Pf.blind, va_recv hK hP (ci := 1) (q0 := 3) rfl rfl, tq_preF C hK hP⟩ rfl rfl hl.1 rfl (lv_room (Nat.le_of_ble_eq_true rfl)) dX1_splitNext_13 ⟨Nat.le_of_ble_eq_true rfl, Nat.le_of_ble_eq_true rfl⟩) (fun r13 hr13 => ?_)
  obtain rfl := hr13
  refine lv_aload_n hx hb dX1_splitNext_16 rfl (lv_at hl 0 rfl) ?_
  refine tq_get (C0 := RX1) (T := TX1) (N := 7) (ci := 1) (k := 2) C gX1 inX1 rfl (by decide) rfl fl_X1_9 hK hP 3 rfl rfl dX1_splitNext_17 ?_
  refine tq_callV (W3 := fun u => (wC cy a key val ord tk cp efi ela eco ene ldp dp dbl hlv spl mrg u.1 u.2.1 u.2.2.1 u.2.2.2 lev ptr llo lhi lsp)) (wr := [0, 2, 3, 5, 6, 7, 8, 10, 11, 12, 13].filterMap (fun i => (wC cy a key val ord tk cp efi ela eco ene ldp dp dbl hlv spl mrg lfi lla lco lne lev ptr llo lhi lsp)[i]?)) (va_runV C.fix (As := [.int (nI (ptr)), .int (nI (ptr)), .int (nI (2 ^ lev + ptr)), .int (nI (lev))]) (rest := []) ((c_X2_deal l D cy (a 9) (a 14) (a 15) (a 16) (a 17) (a 1) (a 4) (a 5) (a 6) lfi lla lco lne key tk cp ptr ptr (2 ^ lev + ptr) lev rows hYR.1 hkey (by omega) (by omega) (by omega) (by omega)) s.heap.size) (tq_cV (n := 4) C ml_X1_88 im_X2_deal se_X2_deal ini_X2 cd_X2_deal ⟨by decide, by decide, by decide +kernel⟩ ⟨Nat.le_of_ble_eq_true rfl, Nat.le_of_ble_eq_true rfl⟩) ⟨tq_Pc.blind, va_recv hK hP (ci := 2) (q0 := 9) rfl rfl, tq_preC C hK (hP.sub [9, 14, 15, 16, 17, 1, 4] rfl) (hD.sub [9, 14, 15, 16, 17, 1, 4] (by decide) rfl)⟩ rfl rfl hl.1 rfl (lv_room (Nat.le_of_ble_eq_true rfl)) dX1_splitNext_20 ⟨Nat.le_of_ble_eq_true rfl, Nat.le_of_ble_eq_true rfl⟩) hP hD hS hA [9, 14, 15, 16, 17, 1, 4] [0, 2, 3, 5, 6, 7, 8, 10, 11, 12, 13] [0, 16, 1, 2, 17, 3, 4, 5, 6, 11, 7, 8, 9, 10, 12, 13, 14, 15] rfl rfl (by decide) (by decide) (by decide) (fun _ => rfl) (fun u20 H locs hr20 hP hD hS => ?_)
  obtain ⟨lfi2, lla2, lco2, lne2⟩ := u20
  try dsimp only at hr20
  have hP : va_P D vwCl (wC cy a key val ord tk cp efi ela eco ene ldp dp dbl hlv spl mrg lfi2 lla2 lco2 lne2 lev ptr llo lhi lsp) H := hP
  have hD : va_D A (wC cy a key val ord tk cp efi ela eco ene ldp dp dbl hlv spl mrg lfi2 lla2 lco2 lne2 lev ptr llo lhi lsp) := hD
  have hYs := hYR.split hm hr20 (fun r _ => rfl)
  refine lv_aload_n hx hb dX1_splitNext_23 rfl (lv_at hl 0 rfl) ?_
  refine lv_dup hx hb dX1_splitNext_24 rfl ?_
  refine tq_get (C0 := RX1) (T := TX1) (N := 7) (ci := 1) (k := 3) C gX1 inX1 rfl (by decide) rfl fl_X1_15 hK hP 3 rfl rfl dX1_splitNext_25 ?_
  refine lv_iconst (v := nI 1) hx hb dX1_splitNext_28 (by decide) ?_
  refine tq_iadd C dX1_splitNext_29 ?_
  refine tq_put (v := .int (nI (ptr + 1))) (C0 := RX1) (T := TX1) (N := 7) (ci := 1) (k := 3) (ty := .int) C gX1 inX1 tyX1_ok nmX1 rfl (by decide) rfl fl_X1_15 rfl (by decide +kernel) hK hP hD hS 3 rfl rfl rfl (Nat.le_of_ble_eq_true rfl) dX1_splitNext_30 (fun H locs hP hD hS => ?_)
  have hP : va_P D vwCl (wC cy a key val ord tk cp efi ela eco ene ldp dp dbl hlv spl mrg lfi2 lla2 lco2 lne2 lev (ptr + 1) llo lhi lsp) H := hP
  have hD : va_D A (wC cy a key val ord tk cp efi ela eco ene ldp dp dbl hlv spl mrg lfi2 lla2 lco2 lne2 lev (ptr + 1) llo lhi lsp) := hD
  refine lv_aload_n hx hb dX1_splitNext_33 rfl (lv_at hl 0 rfl) ?_
  refine tq_get (C0 := RX1) (T := TX1) (N := 7) (ci := 1) (k := 3) C gX1 inX1 rfl (by decide) rfl fl_X1_15 hK hP 3 rfl rfl dX1_splitNext_34 ?_
  refine lv_iconst (v := nI 1) hx hb dX1_splitNext_37 (by decide) ?_
  refine lv_aload_n hx hb dX1_splitNext_38 rfl (lv_at hl 0 rfl) ?_
  refine tq_get (C0 := RX1) (T := TX1) (N := 7) (ci := 1) (k := 2) C gX1 inX1 rfl (by decide) rfl fl_X1_9 hK hP 3 rfl rfl dX1_splitNext_39 ?_
  refine tq_ishl C (by omega) (by omega) dX1_splitNext_42 ?_
  refine tq_top (y := nI (2 ^ lev)) (by rw [Nat.one_mul]) ?_
  refine tq_icmp_ne (tgt := 61) C (by omega) (by omega) dX1_splitNext_43 (by decide) (fun h43 => ?_) (fun h43 => ?_)
  · have hls : lsplit (lev, ptr) = (lev, ptr + 1) := if_neg h43
    rw [hls] at hYs
    refine lv_aload_n hx hb dX1_splitNext_61 rfl (lv_at hl 0 rfl) ?_
    refine lv_dup hx hb dX1_splitNext_62 rfl ?_
    refine tq_get (C0 := RX1) (T := TX1) (N := 7) (ci := 1) (k := 6) C gX1 inX1 rfl (by decide) rfl fl_X1_24 hK hP 3 rfl rfl dX1_splitNext_63 ?_
    refine lv_iconst (v := nI 1) hx hb dX1_splitNext_66 (by decide) ?_
    refine lv_iadd hx hb dX1_splitNext_67 ?_
    refine tq_put (v := .int (lsp + nI 1)) (C0 := RX1) (T := TX1) (N := 7) (ci := 1) (k := 6) (ty := .int) C gX1 inX1 tyX1_ok nmX1 rfl (by decide) rfl fl_X1_24 rfl (by decide +kernel) hK hP hD hS 3 rfl rfl rfl (Nat.le_of_ble_eq_true rfl) dX1_splitNext_68 (fun H locs hP hD hS => ?_)
    have hP : va_P D vwCl (wC cy a key val ord tk cp efi ela eco ene ldp dp dbl hlv spl mrg lfi2 lla2 lco2 lne2 lev (ptr + 1) llo lhi (lsp + nI 1)) H := hP
    have hD : va_D A (wC cy a key val ord tk cp efi ela eco ene ldp dp dbl hlv spl mrg lfi2 lla2 lco2 lne2 lev (ptr + 1) llo lhi (lsp + nI 1)) := hD
    exact tq_vret C (lfi2, lla2, lco2, lne2, lev, ptr + 1) hP hD hS (⟨⟨_, hYs⟩, hls.symm⟩) (Nat.le_of_ble_eq_true rfl) (Nat.le_of_ble_eq_true rfl) dX1_splitNext_71
  · have hls : lsplit (lev, ptr) = (lev + 1, 0) := if_pos h43
    rw [hls] at hYs
    refine lv_aload_n hx hb dX1_splitNext_46 rfl (lv_at hl 0 rfl) ?_
    refine lv_dup hx hb dX1_splitNext_47 rfl ?_
    refine tq_get (C0 := RX1) (T := TX1) (N := 7) (ci := 1) (k := 2) C gX1 inX1 rfl (by decide) rfl fl_X1_9 hK hP 3 rfl rfl dX1_splitNext_48 ?_
    refine lv_iconst (v := nI 1) hx hb dX1_splitNext_51 (by decide) ?_
    refine tq_iadd C dX1_splitNext_52 ?_
    refine tq_put (v := .int (nI (lev + 1))) (C0 := RX1) (T := TX1) (N := 7) (ci := 1) (k := 2) (ty := .int) C gX1 inX1 tyX1_ok nmX1 rfl (by decide) rfl fl_X1_9 rfl (by decide +kernel) hK hP hD hS 3 rfl rfl rfl (Nat.le_of_ble_eq_true rfl) dX1_splitNext_53 (fun H locs hP hD hS => ?_)
    have hP : va_P D vwCl (wC cy a key val ord tk cp efi ela eco ene ldp dp dbl hlv spl mrg lfi2 lla2 lco2 lne2 (lev + 1) (ptr + 1) llo lhi lsp) H := hP
    have hD : va_D A (wC cy a key val ord tk cp efi ela eco ene ldp dp dbl hlv spl mrg lfi2 lla2 lco2 lne2 (lev + 1) (ptr + 1) llo lhi lsp) := hD
    refine lv_aload_n hx hb dX1_splitNext_56 rfl (lv_at hl 0 rfl) ?_
    refine lv_iconst (v := nI 0) hx hb dX1_splitNext_57 (by decide) ?_
    refine tq_put (v := .int (nI (0))) (C0 := RX1) (T := TX1) (N := 7) (ci := 1) (k := 3) (ty := .int) C gX1 inX1 tyX1_ok nmX1 rfl (by decide) rfl fl_X1_15 rfl (by decide +kernel) hK hP hD hS 3 rfl rfl rfl (Nat.le_of_ble_eq_true rfl) dX1_splitNext_58 (fun H locs hP hD hS => ?_)
    have hP : va_P D vwCl (wC cy a key val ord tk cp efi ela eco ene ldp dp dbl hlv spl mrg lfi2 lla2 lco2 lne2 (lev + 1) 0 llo lhi lsp) H := hP
    have hD : va_D A (wC cy a key val ord tk cp efi ela eco ene ldp dp dbl hlv spl mrg lfi2 lla2 lco2 lne2 (lev + 1) 0 llo lhi lsp) := hD
    refine lv_aload_n hx hb dX1_splitNext_61 rfl (lv_at hl 0 rfl) ?_
    refine lv_dup hx hb dX1_splitNext_62 rfl ?_
    refine tq_get (C0 := RX1) (T := TX1) (N := 7) (ci := 1) (k := 6) C gX1 inX1 rfl (by decide) rfl fl_X1_24 hK hP 3 rfl rfl dX1_splitNext_63 ?_
    refine lv_iconst (v := nI 1) hx hb dX1_splitNext_66 (by decide) ?_
    refine lv_iadd hx hb dX1_splitNext_67 ?_
    refine tq_put (v := .int (lsp + nI 1)) (C0 := RX1) (T := TX1) (N := 7) (ci := 1) (k := 6) (ty := .int) C gX1 inX1 tyX1_ok nmX1 rfl (by decide) rfl fl_X1_24 rfl (by decide +kernel) hK hP hD hS 3 rfl rfl rfl (Nat.le_of_ble_eq_true rfl) dX1_splitNext_68 (fun H locs hP hD hS => ?_)
    have hP : va_P D vwCl (wC cy a key val ord tk cp efi ela eco ene ldp dp dbl hlv spl mrg lfi2 lla2 lco2 lne2 (lev + 1) 0 llo lhi (lsp + nI 1)) H := hP
    have hD : va_D A (wC cy a key val ord tk cp efi ela eco ene ldp dp dbl hlv spl mrg lfi2 lla2 lco2 lne2 (lev + 1) 0 llo lhi (lsp + nI 1)) := hD
    exact tq_vret C (lfi2, lla2, lco2, lne2, lev + 1, 0) hP hD hS (⟨⟨_, hYs⟩, hls.symm⟩) (Nat.le_of_ble_eq_true rfl) (Nat.le_of_ble_eq_true rfl) dX1_splitNext_71
set_option maxHeartbeats 4000000 in
set_option maxRecDepth 100000 in
theorem c_X1_takeBackSplit (l : Launch) (D : va_G) (cy : ClassId) (a : Nat → Nat) (key : Nat → Nat) (val : Nat → Nat) (ord : Nat → Nat) (tk : Nat) (cp : Nat) (efi : Nat → Nat) (ela : Nat → Nat) (eco : Nat → Nat) (ene : Nat → Nat) (ldp : Nat → Nat) (dp : Nat) (dbl : Int32) (hlv : Int32) (spl : Int32) (mrg : Int32) (lfi : Nat → Nat) (lla : Nat → Nat) (lco : Nat → Nat) (lne : Nat → Nat) (lev : Nat) (ptr : Nat) (llo : Nat) (lhi : Nat) (lsp : Int32)  (rows : Nat → List Nat) (L : List Nat) (US : Nat → Prop) (hYR : YR key lev ptr lfi lla lco lne rows L US) (hkey : ∀ e, 1 ≤ e → e ≤ 120 → key e < 65536) (hm : 1 < 2 ^ lev + ptr) : tq_V (S := (Nat → Nat) × (Nat → Nat) × (Nat → Nat) × (Nat → Nat) × Nat × Nat) l yX1_takeBackSplit cX1_takeBackSplit 1 4 93 0 0 D cy (wC cy a key val ord tk cp efi ela eco ene ldp dp dbl hlv spl mrg lfi lla lco lne lev ptr llo lhi lsp) [.ref (a 3)] (fun u => (∃ rows2, YR key u.2.2.2.2.1 u.2.2.2.2.2 u.1 u.2.1 u.2.2.1 u.2.2.2.1 rows2 (mvL L lev ptr (2 ^ lev + ptr - 1)) US) ∧ (u.2.2.2.2.1, u.2.2.2.2.2) = lback (lev, ptr)) (fun u => (wC cy a key val ord tk cp efi ela eco ene ldp dp dbl hlv spl mrg u.1 u.2.1 u.2.2.1 u.2.2.2.1 u.2.2.2.2.1 u.2.2.2.2.2 llo lhi (lsp - nI 1))) := by
  refine tq_V.mk (by decide) (Nat.le_of_ble_eq_true rfl) ?_
  intro p e s m args below meth c A C hin hP hK hD hS hA ls hl
  obtain ⟨hx, hb, hml, hown, hrt, hlk, hT⟩ := id C
  have hl : lv_has ls 1 [(0, .ref (a 3))] := hl
  have hY := hYR.2.1
  have hlv9 := hY.lev
  have hp7 := p2_le (c := 7) hlv9
  have hpt := hY.1
  have hmn := hY.2
  have hbk := lback_ok hY hm
  have hbs := lback_split hY hm
  refine lv_aload_n hx hb dX1_takeBackSplit_0 rfl (lv_at hl 0 rfl) ?_
  refine tq_get (C0 := RX1) (T := TX1) (N := 7) (ci := 1) (k := 3) C gX1 inX1 rfl (by decide) rfl fl_X1_15 hK hP 3 rfl rfl dX1_takeBackSplit_1 ?_
  refine tq_if_ne (tgt := 27) C (by omega) dX1_takeBackSplit_4 (by decide) (fun h4 => ?_) (fun h4 => ?_)
  · have hls : lback (lev, ptr) = (lev, ptr - 1) := if_neg h4
    rw [hls] at hbk hbs
    dsimp only at hbk hbs
    refine lv_aload_n hx hb dX1_takeBackSplit_27 rfl (lv_at hl 0 rfl) ?_
    refine lv_dup hx hb dX1_takeBackSplit_28 rfl ?_
    refine tq_get (C0 := RX1) (T := TX1) (N := 7) (ci := 1) (k := 3) C gX1 inX1 rfl (by decide) rfl fl_X1_15 hK hP 3 rfl rfl dX1_takeBackSplit_29 ?_
    refine lv_iconst (v := nI 1) hx hb dX1_takeBackSplit_32 (by decide) ?_
    refine tq_isub C (by have := p2_pos (lev - 1); omega) dX1_takeBackSplit_33 ?_
    refine tq_put (v := .int (nI (ptr - 1))) (C0 := RX1) (T := TX1) (N := 7) (ci := 1) (k := 3) (ty := .int) C gX1 inX1 tyX1_ok nmX1 rfl (by decide) rfl fl_X1_15 rfl (by decide +kernel) hK hP hD hS 3 rfl rfl rfl (Nat.le_of_ble_eq_true rfl) dX1_takeBackSplit_34 (fun H locs hP hD hS => ?_)
    have hP : va_P D vwCl (wC cy a key val ord tk cp efi ela eco ene ldp dp dbl hlv spl mrg lfi lla lco lne lev (ptr - 1) llo lhi lsp) H := hP
    have hD : va_D A (wC cy a key val ord tk cp efi ela eco ene ldp dp dbl hlv spl mrg lfi lla lco lne lev (ptr - 1) llo lhi lsp) := hD
    refine lv_aload_n hx hb dX1_takeBackSplit_37 rfl (lv_at hl 0 rfl) ?_
    refine tq_get (C0 := RX1) (T := TX1) (N := 7) (ci := 1) (k := 1) C gX1 inX1 rfl (by decide) rfl fl_X1_36 hK hP 3 rfl rfl dX1_takeBackSplit_38 ?_
    refine lv_aload_n hx hb dX1_takeBackSplit_41 rfl (lv_at hl 0 rfl) ?_
    refine tq_callF (va_runV C.fix (As := []) (rest := [.ref (a 9)]) (c_X1_countBuckets l D cy a key val ord tk cp efi ela eco ene ldp dp dbl hlv spl mrg lfi lla lco lne lev (ptr - 1) llo lhi lsp hbk) (tq_cV (n := 0) C ml_X1_63 im_X1_countBuckets se_X1_countBuckets ini_X1 cd_X1_countBuckets ⟨by decide, by decide, by decide +kernel⟩ ⟨Nat.le_of_ble_eq_true rfl, Nat.le_of_ble_eq_true rfl⟩) ⟨tq_Pf.blind, va_recv hK hP (ci := 1) (q0 := 3) rfl rfl, tq_preF C hK hP⟩ rfl rfl hl.1 rfl (lv_room (Nat.le_of_ble_eq_true rfl)) dX1_takeBackSplit_42 ⟨Nat.le_of_ble_eq_true rfl, Nat.le_of_ble_eq_true rfl⟩) (fun r42 hr42 => ?_)
    obtain rfl := hr42
    refine lv_aload_n hx hb dX1_takeBackSplit_45 rfl (lv_at hl 0 rfl) ?_
    refine tq_get (C0 := RX1) (T := TX1) (N := 7) (ci := 1) (k := 3) C gX1 inX1 rfl (by decide) rfl fl_X1_15 hK hP 3 rfl rfl dX1_takeBackSplit_46 ?_
    refine tq_callV (W3 := fun u => (wC cy a key val ord tk cp efi ela eco ene ldp dp dbl hlv spl mrg u.1 u.2.1 u.2.2.1 u.2.2.2 lev (ptr - 1) llo lhi lsp)) (wr := [0, 2, 3, 5, 6, 7, 8, 10, 11, 12, 13].filterMap (fun i => (wC cy a key val ord tk cp efi ela eco ene ldp dp dbl hlv spl mrg lfi lla lco lne lev (ptr - 1) llo lhi lsp)[i]?)) (va_runV C.fix (As := [.int (nI (2 ^ lev + (ptr - 1))), .int (nI ((ptr - 1)))]) (rest := []) ((c_X2_pour l D cy (a 9) (a 14) (a 15) (a 16) (a 17) (a 1) (a 4) (a 5) (a 6) lfi lla lco lne key tk cp (2 ^ lev + (ptr - 1)) (ptr - 1) rows hYR.1 hkey (by omega) (by omega)) H.size) (tq_cV (n := 2) C ml_X1_92 im_X2_pour se_X2_pour ini_X2 cd_X2_pour ⟨by decide, by decide, by decide +kernel⟩ ⟨Nat.le_of_ble_eq_true rfl, Nat.le_of_ble_eq_true rfl⟩) ⟨tq_Pc.blind, va_recv hK hP (ci := 2) (q0 := 9) rfl rfl, tq_preC C hK (hP.sub [9, 14, 15, 16, 17, 1, 4] rfl) (hD.sub [9, 14, 15, 16, 17, 1, 4] (by decide) rfl)⟩ rfl rfl hl.1 rfl (lv_room (Nat.le_of_ble_eq_true rfl)) dX1_takeBackSplit_49 ⟨Nat.le_of_ble_eq_true rfl, Nat.le_of_ble_eq_true rfl⟩) hP hD hS hA [9, 14, 15, 16, 17, 1, 4] [0, 2, 3, 5, 6, 7, 8, 10, 11, 12, 13] [0, 16, 1, 2, 17, 3, 4, 5, 6, 11, 7, 8, 9, 10, 12, 13, 14, 15] rfl rfl (by decide) (by decide) (by decide) (fun _ => rfl) (fun u49 H locs hr49 hP hD hS => ?_)
    obtain ⟨lfi2, lla2, lco2, lne2⟩ := u49
    try dsimp only at hr49
    have hP : va_P D vwCl (wC cy a key val ord tk cp efi ela eco ene ldp dp dbl hlv spl mrg lfi2 lla2 lco2 lne2 lev (ptr - 1) llo lhi lsp) H := hP
    have hD : va_D A (wC cy a key val ord tk cp efi ela eco ene ldp dp dbl hlv spl mrg lfi2 lla2 lco2 lne2 lev (ptr - 1) llo lhi lsp) := hD
    have hYb := hYR.back hm (v2 := lev) (p2 := ptr - 1) (by rw [hls]) (by rw [hls]) hr49 (fun r _ => rfl)
    refine lv_aload_n hx hb dX1_takeBackSplit_52 rfl (lv_at hl 0 rfl) ?_
    refine lv_dup hx hb dX1_takeBackSplit_53 rfl ?_
    refine tq_get (C0 := RX1) (T := TX1) (N := 7) (ci := 1) (k := 6) C gX1 inX1 rfl (by decide) rfl fl_X1_24 hK hP 3 rfl rfl dX1_takeBackSplit_54 ?_
    refine lv_iconst (v := nI 1) hx hb dX1_takeBackSplit_57 (by decide) ?_
    refine lv_isub hx hb dX1_takeBackSplit_58 ?_
    refine tq_put (v := .int (lsp - nI 1)) (C0 := RX1) (T := TX1) (N := 7) (ci := 1) (k := 6) (ty := .int) C gX1 inX1 tyX1_ok nmX1 rfl (by decide) rfl fl_X1_24 rfl (by decide +kernel) hK hP hD hS 3 rfl rfl rfl (Nat.le_of_ble_eq_true rfl) dX1_takeBackSplit_59 (fun H locs hP hD hS => ?_)
    have hP : va_P D vwCl (wC cy a key val ord tk cp efi ela eco ene ldp dp dbl hlv spl mrg lfi2 lla2 lco2 lne2 lev (ptr - 1) llo lhi (lsp - nI 1)) H := hP
    have hD : va_D A (wC cy a key val ord tk cp efi ela eco ene ldp dp dbl hlv spl mrg lfi2 lla2 lco2 lne2 lev (ptr - 1) llo lhi (lsp - nI 1)) := hD
    exact tq_vret C (lfi2, lla2, lco2, lne2, lev, ptr - 1) hP hD hS (⟨⟨_, hYb⟩, hls.symm⟩) (Nat.le_of_ble_eq_true rfl) (Nat.le_of_ble_eq_true rfl) dX1_takeBackSplit_62
  · have hls : lback (lev, ptr) = (lev - 1, 2 ^ (lev - 1) - 1) := if_pos h4
    rw [hls] at hbk hbs
    dsimp only at hbk hbs
    have hl1 : 1 ≤ lev := by
      rcases Nat.eq_zero_or_pos lev with q | q
      · rw [q, h4] at hm; simp at hm
      · exact q
    have hp6 := p2_le (c := 7) (b := lev - 1) (by omega)
    refine lv_aload_n hx hb dX1_takeBackSplit_7 rfl (lv_at hl 0 rfl) ?_
    refine lv_dup hx hb dX1_takeBackSplit_8 rfl ?_
    refine tq_get (C0 := RX1) (T := TX1) (N := 7) (ci := 1) (k := 2) C gX1 inX1 rfl (by decide) rfl fl_X1_9 hK hP 3 rfl rfl dX1_takeBackSplit_9 ?_
    refine lv_iconst (v := nI 1) hx hb dX1_takeBackSplit_12 (by decide) ?_
    refine tq_isub C hl1 dX1_takeBackSplit_13 ?_
    refine tq_put (v := .int (nI (lev - 1))) (C0 := RX1) (T := TX1) (N := 7) (ci := 1) (k := 2) (ty := .int) C gX1 inX1 tyX1_ok nmX1 rfl (by decide) rfl fl_X1_9 rfl (by decide +kernel) hK hP hD hS 3 rfl rfl rfl (Nat.le_of_ble_eq_true rfl) dX1_takeBackSplit_14 (fun H locs hP hD hS => ?_)
    have hP : va_P D vwCl (wC cy a key val ord tk cp efi ela eco ene ldp dp dbl hlv spl mrg lfi lla lco lne (lev - 1) ptr llo lhi lsp) H := hP
    have hD : va_D A (wC cy a key val ord tk cp efi ela eco ene ldp dp dbl hlv spl mrg lfi lla lco lne (lev - 1) ptr llo lhi lsp) := hD
    refine lv_aload_n hx hb dX1_takeBackSplit_17 rfl (lv_at hl 0 rfl) ?_
    refine lv_iconst (v := nI 1) hx hb dX1_takeBackSplit_18 (by decide) ?_
    refine lv_aload_n hx hb dX1_takeBackSplit_19 rfl (lv_at hl 0 rfl) ?_
    refine tq_get (C0 := RX1) (T := TX1) (N := 7) (ci := 1) (k := 2) C gX1 inX1 rfl (by decide) rfl fl_X1_9 hK hP 3 rfl rfl dX1_takeBackSplit_20 ?_
    refine tq_ishl C (by omega) (by omega) dX1_takeBackSplit_23 ?_
    refine tq_top (y := nI (2 ^ (lev - 1))) (by rw [Nat.one_mul]) ?_
    refine tq_put (v := .int (nI (2 ^ (lev - 1)))) (C0 := RX1) (T := TX1) (N := 7) (ci := 1) (k := 3) (ty := .int) C gX1 inX1 tyX1_ok nmX1 rfl (by decide) rfl fl_X1_15 rfl (by decide +kernel) hK hP hD hS 3 rfl rfl rfl (Nat.le_of_ble_eq_true rfl) dX1_takeBackSplit_24 (fun H locs hP hD hS => ?_)
    have hP : va_P D vwCl (wC cy a key val ord tk cp efi ela eco ene ldp dp dbl hlv spl mrg lfi lla lco lne (lev - 1) (2 ^ (lev - 1)) llo lhi lsp) H := hP
    have hD : va_D A (wC cy a key val ord tk cp efi ela eco ene ldp dp dbl hlv spl mrg lfi lla lco lne (lev - 1) (2 ^ (lev - 1)) llo lhi lsp) := hD
    refine lv_aload_n hx hb dX1_takeBackSplit_27 rfl (lv_at hl 0 rfl) ?_
    refine lv_dup hx hb dX1_takeBackSplit_28 rfl ?_
    refine tq_get (C0 := RX1) (T := TX1) (N := 7) (ci := 1) (k := 3) C gX1 inX1 rfl (by decide) rfl fl_X1_15 hK hP 3 rfl rfl dX1_takeBackSplit_29 ?_
    refine lv_iconst (v := nI 1) hx hb dX1_takeBackSplit_32 (by decide) ?_
    refine tq_isub C (by have := p2_pos (lev - 1); omega) dX1_takeBackSplit_33 ?_
    refine tq_put (v := .int (nI ((2 ^ (lev - 1)) - 1))) (C0 := RX1) (T := TX1) (N := 7) (ci := 1) (k := 3) (ty := .int) C gX1 inX1 tyX1_ok nmX1 rfl (by decide) rfl fl_X1_15 rfl (by decide +kernel) hK hP hD hS 3 rfl rfl rfl (Nat.le_of_ble_eq_true rfl) dX1_takeBackSplit_34 (fun H locs hP hD hS => ?_)
    have hP : va_P D vwCl (wC cy a key val ord tk cp efi ela eco ene ldp dp dbl hlv spl mrg lfi lla lco lne (lev - 1) ((2 ^ (lev - 1)) - 1) llo lhi lsp) H := hP
    have hD : va_D A (wC cy a key val ord tk cp efi ela eco ene ldp dp dbl hlv spl mrg lfi lla lco lne (lev - 1) ((2 ^ (lev - 1)) - 1) llo lhi lsp) := hD
    refine lv_aload_n hx hb dX1_takeBackSplit_37 rfl (lv_at hl 0 rfl) ?_
    refine tq_get (C0 := RX1) (T := TX1) (N := 7) (ci := 1) (k := 1) C gX1 inX1 rfl (by decide) rfl fl_X1_36 hK hP 3 rfl rfl dX1_takeBackSplit_38 ?_
    refine lv_aload_n hx hb dX1_takeBackSplit_41 rfl (lv_at hl 0 rfl) ?_
    refine tq_callF (va_runV C.fix (As := []) (rest := [.ref (a 9)]) (c_X1_countBuckets l D cy a key val ord tk cp efi ela eco ene ldp dp dbl hlv spl mrg lfi lla lco lne (lev - 1) ((2 ^ (lev - 1)) - 1) llo lhi lsp hbk) (tq_cV (n := 0) C ml_X1_63 im_X1_countBuckets se_X1_countBuckets ini_X1 cd_X1_countBuckets ⟨by decide, by decide, by decide +kernel⟩ ⟨Nat.le_of_ble_eq_true rfl, Nat.le_of_ble_eq_true rfl⟩) ⟨tq_Pf.blind, va_recv hK hP (ci := 1) (q0 := 3) rfl rfl, tq_preF C hK hP⟩ rfl rfl hl.1 rfl (lv_room (Nat.le_of_ble_eq_true rfl)) dX1_takeBackSplit_42 ⟨Nat.le_of_ble_eq_true rfl, Nat.le_of_ble_eq_true rfl⟩) (fun r42 hr42 => ?_)
    obtain rfl := hr42
    refine lv_aload_n hx hb dX1_takeBackSplit_45 rfl (lv_at hl 0 rfl) ?_
    refine tq_get (C0 := RX1) (T := TX1) (N := 7) (ci := 1) (k := 3) C gX1 inX1 rfl (by decide) rfl fl_X1_15 hK hP 3 rfl rfl dX1_takeBackSplit_46 ?_
    refine tq_callV (W3 := fun u => (wC cy a key val ord tk cp efi ela eco ene ldp dp dbl hlv spl mrg u.1 u.2.1 u.2.2.1 u.2.2.2 (lev - 1) ((2 ^ (lev - 1)) - 1) llo lhi lsp)) (wr := [0, 2, 3, 5, 6, 7, 8, 10, 11, 12, 13].filterMap (fun i => (wC cy a key val ord tk cp efi ela eco ene ldp dp dbl hlv spl mrg lfi lla lco lne (lev - 1) ((2 ^ (lev - 1)) - 1) llo lhi lsp)[i]?)) (va_runV C.fix (As := [.int (nI (2 ^ (lev - 1) + ((2 ^ (lev - 1)) - 1))), .int (nI (((2 ^ (lev - 1)) - 1)))]) (rest := []) ((c_X2_pour l D cy (a 9) (a 14) (a 15) (a 16) (a 17) (a 1) (a 4) (a 5) (a 6) lfi lla lco lne key tk cp (2 ^ (lev - 1) + ((2 ^ (lev - 1)) - 1)) ((2 ^ (lev - 1)) - 1) rows hYR.1 hkey (by omega) (by omega)) H.size) (tq_cV (n := 2) C ml_X1_92 im_X2_pour se_X2_pour ini_X2 cd_X2_pour ⟨by decide, by decide, by decide +kernel⟩ ⟨Nat.le_of_ble_eq_true rfl, Nat.le_of_ble_eq_true rfl⟩) ⟨tq_Pc.blind, va_recv hK hP (ci := 2) (q0 := 9) rfl rfl, tq_preC C hK (hP.sub [9, 14, 15, 16, 17, 1, 4] rfl) (hD.sub [9, 14, 15, 16, 17, 1, 4] (by decide) rfl)⟩ rfl rfl hl.1 rfl (lv_room (Nat.le_of_ble_eq_true rfl)) dX1_takeBackSplit_49 ⟨Nat.le_of_ble_eq_true rfl, Nat.le_of_ble_eq_true rfl⟩) hP hD hS hA [9, 14, 15, 16, 17, 1, 4] [0, 2, 3, 5, 6, 7, 8, 10, 11, 12, 13] [0, 16, 1, 2, 17, 3, 4, 5, 6, 11, 7, 8, 9, 10, 12, 13, 14, 15] rfl rfl (by decide) (by decide) (by decide) (fun _ => rfl) (fun u49 H locs hr49 hP hD hS => ?_)
    obtain ⟨lfi2, lla2, lco2, lne2⟩ := u49
    try dsimp only at hr49
    have hP : va_P D vwCl (wC cy a key val ord tk cp efi ela eco ene ldp dp dbl hlv spl mrg lfi2 lla2 lco2 lne2 (lev - 1) ((2 ^ (lev - 1)) - 1) llo lhi lsp) H := hP
    have hD : va_D A (wC cy a key val ord tk cp efi ela eco ene ldp dp dbl hlv spl mrg lfi2 lla2 lco2 lne2 (lev - 1) ((2 ^ (lev - 1)) - 1) llo lhi lsp) := hD
    have hYb := hYR.back hm (v2 := lev - 1) (p2 := 2 ^ (lev - 1) - 1) (by rw [hls]) (by rw [hls]) hr49 (fun r _ => rfl)
    refine lv_aload_n hx hb dX1_takeBackSplit_52 rfl (lv_at hl 0 rfl) ?_
    refine lv_dup hx hb dX1_takeBackSplit_53 rfl ?_
    refine tq_get (C0 := RX1) (T := TX1) (N := 7) (ci := 1) (k := 6) C gX1 inX1 rfl (by decide) rfl fl_X1_24 hK hP 3 rfl rfl dX1_takeBackSplit_54 ?_
    refine lv_iconst (v := nI 1) hx hb dX1_takeBackSplit_57 (by decide) ?_
    refine lv_isub hx hb dX1_takeBackSplit_58 ?_
    refine tq_put (v := .int (lsp - nI 1)) (C0 := RX1) (T := TX1) (N := 7) (ci := 1) (k := 6) (ty := .int) C gX1 inX1 tyX1_ok nmX1 rfl (by decide) rfl fl_X1_24 rfl (by decide +kernel) hK hP hD hS 3 rfl rfl rfl (Nat.le_of_ble_eq_true rfl) dX1_takeBackSplit_59 (fun H locs hP hD hS => ?_)
    have hP : va_P D vwCl (wC cy a key val ord tk cp efi ela eco ene ldp dp dbl hlv spl mrg lfi2 lla2 lco2 lne2 (lev - 1) ((2 ^ (lev - 1)) - 1) llo lhi (lsp - nI 1)) H := hP
    have hD : va_D A (wC cy a key val ord tk cp efi ela eco ene ldp dp dbl hlv spl mrg lfi2 lla2 lco2 lne2 (lev - 1) ((2 ^ (lev - 1)) - 1) llo lhi (lsp - nI 1)) := hD
    exact tq_vret C (lfi2, lla2, lco2, lne2, lev - 1, (2 ^ (lev - 1)) - 1) hP hD hS (⟨⟨_, hYb⟩, hls.symm⟩) (Nat.le_of_ble_eq_true rfl) (Nat.le_of_ble_eq_true rfl) dX1_takeBackSplit_62
set_option maxHeartbeats 4000000 in
set_option maxRecDepth 100000 in
theorem c_X1_insert (l : Launch) (D : va_G) (cy : ClassId) (a : Nat → Nat) (key : Nat → Nat) (val : Nat → Nat) (ord : Nat → Nat) (tk : Nat) (cp : Nat) (efi : Nat → Nat) (ela : Nat → Nat) (eco : Nat → Nat) (ene : Nat → Nat) (ldp : Nat → Nat) (dp : Nat) (dbl : Int32) (hlv : Int32) (spl : Int32) (mrg : Int32) (lfi : Nat → Nat) (lla : Nat → Nat) (lco : Nat → Nat) (lne : Nat → Nat) (lev : Nat) (ptr : Nat) (llo : Nat) (lhi : Nat) (lsp : Int32) (en : Nat) (rows : Nat → List Nat) (L : List Nat) (US : Nat → Prop) (hYR : YR key lev ptr lfi lla lco lne rows L US) (hkey : ∀ e, 1 ≤ e → e ≤ 120 → key e < 65536) (US2 : Nat → Prop) (h1 : 1 ≤ en) (h2 : en ≤ 120) (hcp1 : 1 ≤ cp) (hcp2 : cp ≤ 5) (htk : tk ≤ 120) (hlo : llo ≤ 50) (hh1 : 50 ≤ lhi) (hh2 : lhi ≤ 200) (hnU : ¬ US en) (hU1 : ∀ e, US e → US2 e) (hU2 : US2 en) : tq_V (S := (Nat → Nat) × (Nat → Nat) × (Nat → Nat) × (Nat → Nat) × Nat × Nat × Int32) l yX1_insert cX1_insert 3 4 91 0 0 D cy (wC cy a key val ord tk cp efi ela eco ene ldp dp dbl hlv spl mrg lfi lla lco lne lev ptr llo lhi lsp) [.ref (a 3), .int (nI (en))] (fun u => (∃ rows2, YR key u.2.2.2.2.1 u.2.2.2.2.2.1 u.1 u.2.1 u.2.2.1 u.2.2.2.1 rows2 (L ++ [key en]) US2) ∧ (u.2.2.2.2.1, u.2.2.2.2.2.1, u.2.2.2.2.2.2) = lS cp lhi tk 241 (lev, ptr, lsp)) (fun u => (wC cy a key val ord tk cp efi ela eco ene ldp dp dbl hlv spl mrg u.1 u.2.1 u.2.2.1 u.2.2.2.1 u.2.2.2.2.1 u.2.2.2.2.2.1 llo lhi u.2.2.2.2.2.2)) := by
  refine tq_V.mk (by decide) (Nat.le_of_ble_eq_true rfl) ?_
  intro p e s m args below meth c A C hin hP hK hD hS hA ls hl
  obtain ⟨hx, hb, hml, hown, hrt, hlk, hT⟩ := id C
  have hl : lv_has ls 3 [(0, .ref (a 3)), (1, .int (nI (en)))] := hl
  have hkk := hkey en h1 h2
  have hY := hYR.2.1
  have hlv9 := hY.lev
  have hp7 := p2_le (c := 7) hlv9
  have hpt := hY.1
  have hmn := hY.2
  have hrr : linOf lev ptr (key en) < 256 := by have := linOf_lt hY.1 (key en); omega
  refine lv_aload_n hx hb dX1_insert_0 rfl (lv_at hl 0 rfl) ?_
  refine tq_get (C0 := RX1) (T := TX1) (N := 7) (ci := 1) (k := 1) C gX1 inX1 rfl (by decide) rfl fl_X1_36 hK hP 3 rfl rfl dX1_insert_1 ?_
  refine lv_aload_n hx hb dX1_insert_4 rfl (lv_at hl 0 rfl) ?_
  refine lv_aload_n hx hb dX1_insert_5 rfl (lv_at hl 0 rfl) ?_
  refine tq_get (C0 := RX1) (T := TX1) (N := 7) (ci := 1) (k := 0) C gX1 inX1 rfl (by decide) rfl fl_X1_27 hK hP 3 rfl rfl dX1_insert_6 ?_
  refine lv_iload_n hx hb dX1_insert_9 rfl (lv_at hl 1 rfl) ?_
  refine tq_callF (va_runV C.fix (As := [.int (nI (en))]) (rest := [.ref (a 3), .ref (a 9)]) (c_X3_keyOf l D cy (a 1) (a 4) (a 5) (a 6) key tk cp en h1 h2) (tq_cV (n := 1) C ml_X1_54 im_X3_keyOf se_X3_keyOf ini_X3 cd_X3_keyOf ⟨by decide, by decide, by decide +kernel⟩ ⟨Nat.le_of_ble_eq_true rfl, Nat.le_of_ble_eq_true rfl⟩) ⟨tq_Pf.blind, va_recv hK hP (ci := 3) (q0 := 1) rfl rfl, tq_preF C hK (hP.sub [1, 4] rfl)⟩ rfl rfl hl.1 rfl (lv_room (Nat.le_of_ble_eq_true rfl)) dX1_insert_10 ⟨Nat.le_of_ble_eq_true rfl, Nat.le_of_ble_eq_true rfl⟩) (fun r10 hr10 => ?_)
  obtain rfl := hr10
  refine tq_callF (va_runV C.fix (As := [.int (nI (key en))]) (rest := [.ref (a 9)]) (c_X1_rowFor l D cy a key val ord tk cp efi ela eco ene ldp dp dbl hlv spl mrg lfi lla lco lne lev ptr llo lhi lsp (key en) hY hkk) (tq_cV (n := 1) C ml_X1_48 im_X1_rowFor se_X1_rowFor ini_X1 cd_X1_rowFor ⟨by decide, by decide, by decide +kernel⟩ ⟨Nat.le_of_ble_eq_true rfl, Nat.le_of_ble_eq_true rfl⟩) ⟨tq_Pf.blind, va_recv hK hP (ci := 1) (q0 := 3) rfl rfl, tq_preF C hK hP⟩ rfl rfl hl.1 rfl (lv_room (Nat.le_of_ble_eq_true rfl)) dX1_insert_13 ⟨Nat.le_of_ble_eq_true rfl, Nat.le_of_ble_eq_true rfl⟩) (fun r13 hr13 => ?_)
  obtain rfl := hr13
  refine lv_iload_n hx hb dX1_insert_16 rfl (lv_at hl 1 rfl) ?_
  refine tq_callV (W3 := fun u => (wC cy a key val ord tk cp efi ela eco ene ldp dp dbl hlv spl mrg u.1 u.2.1 u.2.2.1 u.2.2.2 lev ptr llo lhi lsp)) (wr := [0, 2, 3, 5, 6, 7, 8, 10, 11, 12, 13].filterMap (fun i => (wC cy a key val ord tk cp efi ela eco ene ldp dp dbl hlv spl mrg lfi lla lco lne lev ptr llo lhi lsp)[i]?)) (va_runV C.fix (As := [.int (nI (linOf lev ptr (key en))), .int (nI (en))]) (rest := []) ((c_X2_append l D cy (a 9) (a 14) (a 15) (a 16) (a 17) (a 1) (a 4) (a 5) (a 6) lfi lla lco lne key tk cp (linOf lev ptr (key en)) en rows hYR.1 hrr h1 h2 (fun r hr hm => hnU (hYR.2.2.2 r hr en hm))) s.heap.size) (tq_cV (n := 2) C ml_X1_59 im_X2_append se_X2_append ini_X2 cd_X2_append ⟨by decide, by decide, by decide +kernel⟩ ⟨Nat.le_of_ble_eq_true rfl, Nat.le_of_ble_eq_true rfl⟩) ⟨tq_Pc.blind, va_recv hK hP (ci := 2) (q0 := 9) rfl rfl, tq_preC C hK (hP.sub [9, 14, 15, 16, 17, 1, 4] rfl) (hD.sub [9, 14, 15, 16, 17, 1, 4] (by decide) rfl)⟩ rfl rfl hl.1 rfl (lv_room (Nat.le_of_ble_eq_true rfl)) dX1_insert_17 ⟨Nat.le_of_ble_eq_true rfl, Nat.le_of_ble_eq_true rfl⟩) hP hD hS hA [9, 14, 15, 16, 17, 1, 4] [0, 2, 3, 5, 6, 7, 8, 10, 11, 12, 13] [0, 16, 1, 2, 17, 3, 4, 5, 6, 11, 7, 8, 9, 10, 12, 13, 14, 15] rfl rfl (by decide) (by decide) (by decide) (fun _ => rfl) (fun u17 H locs hr17 hP hD hS => ?_)
  obtain ⟨lfi2, lla2, lco2, lne2⟩ := u17
  try dsimp only at hr17
  have hP : va_P D vwCl (wC cy a key val ord tk cp efi ela eco ene ldp dp dbl hlv spl mrg lfi2 lla2 lco2 lne2 lev ptr llo lhi lsp) H := hP
  have hD : va_D A (wC cy a key val ord tk cp efi ela eco ene ldp dp dbl hlv spl mrg lfi2 lla2 lco2 lne2 lev ptr llo lhi lsp) := hD
  have hYa := hYR.add hr17.1 hU1 hU2
  refine lv_aload_n hx hb dX1_insert_20 rfl (lv_at hl 0 rfl) ?_
  refine tq_callF (va_runV C.fix (As := []) (rest := []) (c_X1_countBuckets l D cy a key val ord tk cp efi ela eco ene ldp dp dbl hlv spl mrg lfi2 lla2 lco2 lne2 lev ptr llo lhi lsp hY) (tq_cV (n := 0) C ml_X1_63 im_X1_countBuckets se_X1_countBuckets ini_X1 cd_X1_countBuckets ⟨by decide, by decide, by decide +kernel⟩ ⟨Nat.le_of_ble_eq_true rfl, Nat.le_of_ble_eq_true rfl⟩) ⟨tq_Pf.blind, va_recv hK hP (ci := 1) (q0 := 3) rfl rfl, tq_preF C hK hP⟩ rfl rfl hl.1 rfl (lv_room (Nat.le_of_ble_eq_true rfl)) dX1_insert_21 ⟨Nat.le_of_ble_eq_true rfl, Nat.le_of_ble_eq_true rfl⟩) (fun r21 hr21 => ?_)
  obtain rfl := hr21
  refine lv_istore_n (lv' := [(2, .int (nI (2 ^ lev + ptr))), (0, .ref (a 3)), (1, .int (nI (en)))]) hx hb dX1_insert_24 rfl hl (by decide) rfl (fun ls hl => ?_)
  suffices hlp25 : ∀ (n25 : Nat) (k : Nat) (rows1 : Nat → List Nat) (lfi1 : Nat → Nat) (lla1 : Nat → Nat) (lco1 : Nat → Nat) (lne1 : Nat → Nat) (lev1 : Nat) (ptr1 : Nat) (lsp1 : Int32), k < n25 → (241 ≤ k + (2 ^ lev1 + ptr1)) → (YR key lev1 ptr1 lfi1 lla1 lco1 lne1 rows1 (L ++ [key en]) US2) → (lS cp lhi tk k (lev1, ptr1, lsp1) = lS cp lhi tk 241 (lev, ptr, lsp)) → ∀ (H : Heap) (locs : List Loc), va_P D vwCl (wC cy a key val ord tk cp efi ela eco ene ldp dp dbl hlv spl mrg lfi1 lla1 lco1 lne1 lev1 ptr1 llo lhi lsp1) H → va_D A (wC cy a key val ord tk cp efi ela eco ene ldp dp dbl hlv spl mrg lfi1 lla1 lco1 lne1 lev1 ptr1 llo lhi lsp1) → va_S A s.heap H locs → ∀ ls : Array Slot, lv_has ls 3 [(0, .ref (a 3)), (1, .int (nI (en))), (2, .int (nI (2 ^ lev1 + ptr1)))] → W p l e ({ frames := 4, cells := 0, slots := 0, locals := 91 } : Room) s m args below meth c H locs (0 + 0) (0 + 0) (MQ below (va_Qv (S := (Nat → Nat) × (Nat → Nat) × (Nat → Nat) × (Nat → Nat) × Nat × Nat × Int32) (fun u => (∃ rows2, YR key u.2.2.2.2.1 u.2.2.2.2.2.1 u.1 u.2.1 u.2.2.1 u.2.2.2.1 rows2 (L ++ [key en]) US2) ∧ (u.2.2.2.2.1, u.2.2.2.2.2.1, u.2.2.2.2.2.2) = lS cp lhi tk 241 (lev, ptr, lsp)) (tq_B D A (fun u => (wC cy a key val ord tk cp efi ela eco ene ldp dp dbl hlv spl mrg u.1 u.2.1 u.2.2.1 u.2.2.2.1 u.2.2.2.2.1 u.2.2.2.2.2.1 llo lhi u.2.2.2.2.2.2))) A) args s 0 0 A) (F0 m 25 ls []) from
    hlp25 242 241 _ lfi2 lla2 lco2 lne2 lev ptr lsp (by omega) (by omega) (hYa) (rfl) _ _ hP hD hS _ (lv_sub hl [1, 2, 0] rfl)
  intro n25
  induction n25 with
  | zero => intro k rows1 lfi1 lla1 lco1 lne1 lev1 ptr1 lsp1 hf; exact absurd hf (Nat.not_lt_zero _)
  | succ n25 ih25 =>
    intro k rows1 lfi1 lla1 lco1 lne1 lev1 ptr1 lsp1 hf25 hk hX1 hres H locs hP hD hS ls hl
    have hY1 := hX1.2.1
    have hlv91 := hY1.lev
    have hp71 := p2_le (c := 7) hlv91
    have hpt1 := hY1.1
    have hmn1 := hY1.2
    have hf1 := fa_le (m := 2 ^ lev1 + ptr1) hh2 (by omega) hcp2
    have hf2 := fa_ge (m := 2 ^ lev1 + ptr1) (hi := lhi) hh1 hcp1
    refine lv_iload_n hx hb dX1_insert_25 rfl (lv_at hl 2 rfl) ?_
    refine lv_sipush (v := nI 256) hx hb dX1_insert_26 (by decide) ?_
    refine tq_icmp_ge (tgt := 64) C (by omega) (by omega) dX1_insert_29 (by decide) (fun h29 => ?_) (fun h29 => ?_)
    · omega
    · refine lv_bipush (v := nI 100) hx hb dX1_insert_32 (by decide) ?_
      refine lv_aload_n hx hb dX1_insert_34 rfl (lv_at hl 0 rfl) ?_
      refine tq_get (C0 := RX1) (T := TX1) (N := 7) (ci := 1) (k := 0) C gX1 inX1 rfl (by decide) rfl fl_X1_27 hK hP 3 rfl rfl dX1_insert_35 ?_
      refine tq_getN (C0 := RX3) (T := TX3) (N := 5) (ci := 3) (k := 3) C gX3 inX3 rfl (by decide) rfl fn_X1_67 hK hP 1 rfl rfl dX1_insert_38 ?_
      refine tq_imul C dX1_insert_41 ?_
      refine lv_aload_n hx hb dX1_insert_42 rfl (lv_at hl 0 rfl) ?_
      refine lv_aload_n hx hb dX1_insert_43 rfl (lv_at hl 0 rfl) ?_
      refine tq_get (C0 := RX1) (T := TX1) (N := 7) (ci := 1) (k := 5) C gX1 inX1 rfl (by decide) rfl fl_X1_21 hK hP 3 rfl rfl dX1_insert_44 ?_
      refine lv_iload_n hx hb dX1_insert_47 rfl (lv_at hl 2 rfl) ?_
      refine tq_callF (va_runV C.fix (As := [.int (nI (lhi)), .int (nI (2 ^ lev1 + ptr1))]) (rest := [.int (nI (100 * tk))]) (c_X1_fullAt l D cy a key val ord tk cp efi ela eco ene ldp dp dbl hlv spl mrg lfi1 lla1 lco1 lne1 lev1 ptr1 llo lhi lsp1 lhi (2 ^ lev1 + ptr1)) (tq_cV (n := 2) C ml_X1_70 im_X1_fullAt se_X1_fullAt ini_X1 cd_X1_fullAt ⟨by decide, by decide, by decide +kernel⟩ ⟨Nat.le_of_ble_eq_true rfl, Nat.le_of_ble_eq_true rfl⟩) ⟨tq_Pf.blind, va_recv hK hP (ci := 1) (q0 := 3) rfl rfl, tq_preF C hK hP⟩ rfl rfl hl.1 rfl (lv_room (Nat.le_of_ble_eq_true rfl)) dX1_insert_48 ⟨Nat.le_of_ble_eq_true rfl, Nat.le_of_ble_eq_true rfl⟩) (fun r48 hr48 => ?_)
      obtain rfl := hr48
      refine tq_icmp_le (tgt := 64) C (by omega) (by omega) dX1_insert_51 (by decide) (fun h51 => ?_) (fun h51 => ?_)
      · have hR9 := lS_end hres h51
        exact tq_vret C (lfi1, lla1, lco1, lne1, lev1, ptr1, lsp1) hP hD hS (⟨⟨_, hX1⟩, hR9⟩) (Nat.le_of_ble_eq_true rfl) (Nat.le_of_ble_eq_true rfl) dX1_insert_64
      · refine lv_aload_n hx hb dX1_insert_54 rfl (lv_at hl 0 rfl) ?_
        refine tq_callV (W3 := fun u => (wC cy a key val ord tk cp efi ela eco ene ldp dp dbl hlv spl mrg u.1 u.2.1 u.2.2.1 u.2.2.2.1 u.2.2.2.2.1 u.2.2.2.2.2 llo lhi (lsp1 + nI 1))) (wr := []) (va_runV C.fix (As := []) (rest := []) ((c_X1_splitNext l D cy a key val ord tk cp efi ela eco ene ldp dp dbl hlv spl mrg lfi1 lla1 lco1 lne1 lev1 ptr1 llo lhi lsp1 rows1 (L ++ [key en]) US2 hX1 hkey (by omega)) H.size) (tq_cV (n := 0) C ml_X1_73 im_X1_splitNext se_X1_splitNext ini_X1 cd_X1_splitNext ⟨by decide, by decide, by decide +kernel⟩ ⟨Nat.le_of_ble_eq_true rfl, Nat.le_of_ble_eq_true rfl⟩) ⟨tq_Pc.blind, va_recv hK hP (ci := 1) (q0 := 3) rfl rfl, tq_preC C hK hP hD⟩ rfl rfl hl.1 rfl (lv_room (Nat.le_of_ble_eq_true rfl)) dX1_insert_55 ⟨Nat.le_of_ble_eq_true rfl, Nat.le_of_ble_eq_true rfl⟩) hP hD hS hA [0, 1, 2, 3, 4, 5, 6, 7, 8, 9, 10, 11, 12, 13, 14, 15, 16, 17] [] [0, 1, 2, 3, 4, 5, 6, 7, 8, 9, 10, 11, 12, 13, 14, 15, 16, 17] rfl rfl (by decide) (by decide) (by decide) (fun _ => rfl) (fun u55 H locs hr55 hP hD hS => ?_)
        obtain ⟨lfi3, lla3, lco3, lne3, lev3, ptr3⟩ := u55
        try dsimp only at hr55
        have hP : va_P D vwCl (wC cy a key val ord tk cp efi ela eco ene ldp dp dbl hlv spl mrg lfi3 lla3 lco3 lne3 lev3 ptr3 llo lhi (lsp1 + nI 1)) H := hP
        have hD : va_D A (wC cy a key val ord tk cp efi ela eco ene ldp dp dbl hlv spl mrg lfi3 lla3 lco3 lne3 lev3 ptr3 llo lhi (lsp1 + nI 1)) := hD
        obtain ⟨⟨rows3, hX3⟩, hls3⟩ := hr55
        have hmm : 2 ^ lev3 + ptr3 = 2 ^ lev1 + ptr1 + 1 := by
          have h := lsplit_many (v := lev1) (p := ptr1)
          rw [← hls3] at h; exact h
        refine lv_iinc (v := (nI ((2 ^ lev1 + ptr1) + 1))) (lv' := [(2, .int (nI ((2 ^ lev1 + ptr1) + 1))), (0, .ref (a 3)), (1, .int (nI (en)))]) hx hb dX1_insert_58 hl (k := 2) rfl (tq_inc1 _) (by decide) rfl (fun ls hl => ?_)
        refine lv_goto (tgt := 25) hx hb dX1_insert_61 (by decide) ?_
        rw [← hmm] at hl
        exact ih25 (k - 1) rows3 lfi3 lla3 lco3 lne3 lev3 ptr3 (lsp1 + nI 1) (by omega) (by omega) (hX3) (by have h := lS_go hres (by omega) h51; unfold lstep at h; dsimp only at h; rw [← hls3] at h; exact h) _ _ hP hD hS _ (lv_sub hl [1, 2, 0] rfl)
set_option maxHeartbeats 4000000 in
set_option maxRecDepth 100000 in
theorem c_X1_delete (l : Launch) (D : va_G) (cy : ClassId) (a : Nat → Nat) (key : Nat → Nat) (val : Nat → Nat) (ord : Nat → Nat) (tk : Nat) (cp : Nat) (efi : Nat → Nat) (ela : Nat → Nat) (eco : Nat → Nat) (ene : Nat → Nat) (ldp : Nat → Nat) (dp : Nat) (dbl : Int32) (hlv : Int32) (spl : Int32) (mrg : Int32) (lfi : Nat → Nat) (lla : Nat → Nat) (lco : Nat → Nat) (lne : Nat → Nat) (lev : Nat) (ptr : Nat) (llo : Nat) (lhi : Nat) (lsp : Int32) (en : Nat) (rows : Nat → List Nat) (L : List Nat) (US : Nat → Prop) (hYR : YR key lev ptr lfi lla lco lne rows L US) (hkey : ∀ e, 1 ≤ e → e ≤ 120 → key e < 65536) (US2 : Nat → Prop) (h1 : 1 ≤ en) (h2 : en ≤ 120) (hcp1 : 1 ≤ cp) (hcp2 : cp ≤ 5) (htk : tk ≤ 120) (hlo : llo ≤ 50) (hh1 : 50 ≤ lhi) (hh2 : lhi ≤ 200) (hUen : US en) (hinj : ∀ e f, US e → US f → key e = key f → e = f) (hU : ∀ e, US e → e ≠ en → US2 e) (hin9 : en ∈ rows (linOf lev ptr (key en))) : tq_V (S := (Nat → Nat) × (Nat → Nat) × (Nat → Nat) × (Nat → Nat) × Nat × Nat × Int32) l yX1_delete cX1_delete 3 5 113 0 0 D cy (wC cy a key val ord tk cp efi ela eco ene ldp dp dbl hlv spl mrg lfi lla lco lne lev ptr llo lhi lsp) [.ref (a 3), .int (nI (en))] (fun u => (∃ rows2, YR key u.2.2.2.2.1 u.2.2.2.2.2.1 u.1 u.2.1 u.2.2.1 u.2.2.2.1 rows2 (lB cp llo tk 241 (L.filter (· != key en), lev, ptr, lsp)).1 US2) ∧ (u.2.2.2.2.1, u.2.2.2.2.2.1, u.2.2.2.2.2.2) = (lB cp llo tk 241 (L.filter (· != key en), lev, ptr, lsp)).2) (fun u => (wC cy a key val ord tk cp efi ela eco ene ldp dp dbl hlv spl mrg u.1 u.2.1 u.2.2.1 u.2.2.2.1 u.2.2.2.2.1 u.2.2.2.2.2.1 llo lhi u.2.2.2.2.2.2)) := by
  refine tq_V.mk (by decide) (Nat.le_of_ble_eq_true rfl) ?_
  intro p e s m args below meth c A C hin hP hK hD hS hA ls hl
  obtain ⟨hx, hb, hml, hown, hrt, hlk, hT⟩ := id C
  have hl : lv_has ls 3 [(0, .ref (a 3)), (1, .int (nI (en)))] := hl
  have hkk := hkey en h1 h2
  have hY := hYR.2.1
  have hlv9 := hY.lev
  have hp7 := p2_le (c := 7) hlv9
  have hpt := hY.1
  have hmn := hY.2
  have hrr : linOf lev ptr (key en) < 256 := by have := linOf_lt hY.1 (key en); omega
  obtain ⟨P, Q, hL, hPn, hQn, hff⟩ := hYR.1.split hrr hin9
  refine lv_aload_n hx hb dX1_delete_0 rfl (lv_at hl 0 rfl) ?_
  refine tq_get (C0 := RX1) (T := TX1) (N := 7) (ci := 1) (k := 1) C gX1 inX1 rfl (by decide) rfl fl_X1_36 hK hP 3 rfl rfl dX1_delete_1 ?_
  refine lv_aload_n hx hb dX1_delete_4 rfl (lv_at hl 0 rfl) ?_
  refine lv_aload_n hx hb dX1_delete_5 rfl (lv_at hl 0 rfl) ?_
  refine tq_get (C0 := RX1) (T := TX1) (N := 7) (ci := 1) (k := 0) C gX1 inX1 rfl (by decide) rfl fl_X1_27 hK hP 3 rfl rfl dX1_delete_6 ?_
  refine lv_iload_n hx hb dX1_delete_9 rfl (lv_at hl 1 rfl) ?_
  refine tq_callF (va_runV C.fix (As := [.int (nI (en))]) (rest := [.ref (a 3), .ref (a 9)]) (c_X3_keyOf l D cy (a 1) (a 4) (a 5) (a 6) key tk cp en h1 h2) (tq_cV (n := 1) C ml_X1_54 im_X3_keyOf se_X3_keyOf ini_X3 cd_X3_keyOf ⟨by decide, by decide, by decide +kernel⟩ ⟨Nat.le_of_ble_eq_true rfl, Nat.le_of_ble_eq_true rfl⟩) ⟨tq_Pf.blind, va_recv hK hP (ci := 3) (q0 := 1) rfl rfl, tq_preF C hK (hP.sub [1, 4] rfl)⟩ rfl rfl hl.1 rfl (lv_room (Nat.le_of_ble_eq_true rfl)) dX1_delete_10 ⟨Nat.le_of_ble_eq_true rfl, Nat.le_of_ble_eq_true rfl⟩) (fun r10 hr10 => ?_)
  obtain rfl := hr10
  refine tq_callF (va_runV C.fix (As := [.int (nI (key en))]) (rest := [.ref (a 9)]) (c_X1_rowFor l D cy a key val ord tk cp efi ela eco ene ldp dp dbl hlv spl mrg lfi lla lco lne lev ptr llo lhi lsp (key en) hY hkk) (tq_cV (n := 1) C ml_X1_48 im_X1_rowFor se_X1_rowFor ini_X1 cd_X1_rowFor ⟨by decide, by decide, by decide +kernel⟩ ⟨Nat.le_of_ble_eq_true rfl, Nat.le_of_ble_eq_true rfl⟩) ⟨tq_Pf.blind, va_recv hK hP (ci := 1) (q0 := 3) rfl rfl, tq_preF C hK hP⟩ rfl rfl hl.1 rfl (lv_room (Nat.le_of_ble_eq_true rfl)) dX1_delete_13 ⟨Nat.le_of_ble_eq_true rfl, Nat.le_of_ble_eq_true rfl⟩) (fun r13 hr13 => ?_)
  obtain rfl := hr13
  refine lv_iload_n hx hb dX1_delete_16 rfl (lv_at hl 1 rfl) ?_
  refine tq_callV (W3 := fun u => (wC cy a key val ord tk cp efi ela eco ene ldp dp dbl hlv spl mrg u.1 u.2.1 u.2.2.1 u.2.2.2 lev ptr llo lhi lsp)) (wr := [0, 2, 3, 5, 6, 7, 8, 10, 11, 12, 13].filterMap (fun i => (wC cy a key val ord tk cp efi ela eco ene ldp dp dbl hlv spl mrg lfi lla lco lne lev ptr llo lhi lsp)[i]?)) (va_runV C.fix (As := [.int (nI (linOf lev ptr (key en))), .int (nI (en))]) (rest := []) ((c_X2_unlink l D cy (a 9) (a 14) (a 15) (a 16) (a 17) (a 1) (a 4) (a 5) (a 6) lfi lla lco lne key tk cp (linOf lev ptr (key en)) en rows hYR.1 hrr h1 h2 P Q hL hPn hQn) s.heap.size) (tq_cV (n := 2) C ml_X1_76 im_X2_unlink se_X2_unlink ini_X2 cd_X2_unlink ⟨by decide, by decide, by decide +kernel⟩ ⟨Nat.le_of_ble_eq_true rfl, Nat.le_of_ble_eq_true rfl⟩) ⟨tq_Pc.blind, va_recv hK hP (ci := 2) (q0 := 9) rfl rfl, tq_preC C hK (hP.sub [9, 14, 15, 16, 17, 1, 4] rfl) (hD.sub [9, 14, 15, 16, 17, 1, 4] (by decide) rfl)⟩ rfl rfl hl.1 rfl (lv_room (Nat.le_of_ble_eq_true rfl)) dX1_delete_17 ⟨Nat.le_of_ble_eq_true rfl, Nat.le_of_ble_eq_true rfl⟩) hP hD hS hA [9, 14, 15, 16, 17, 1, 4] [0, 2, 3, 5, 6, 7, 8, 10, 11, 12, 13] [0, 16, 1, 2, 17, 3, 4, 5, 6, 11, 7, 8, 9, 10, 12, 13, 14, 15] rfl rfl (by decide) (by decide) (by decide) (fun _ => rfl) (fun u17 H locs hr17 hP hD hS => ?_)
  obtain ⟨lfi2, lla2, lco2, lne2⟩ := u17
  try dsimp only at hr17
  have hP : va_P D vwCl (wC cy a key val ord tk cp efi ela eco ene ldp dp dbl hlv spl mrg lfi2 lla2 lco2 lne2 lev ptr llo lhi lsp) H := hP
  have hD : va_D A (wC cy a key val ord tk cp efi ela eco ene ldp dp dbl hlv spl mrg lfi2 lla2 lco2 lne2 lev ptr llo lhi lsp) := hD
  have hYd := hYR.del hr17 hUen hinj hU
  refine lv_aload_n hx hb dX1_delete_20 rfl (lv_at hl 0 rfl) ?_
  refine tq_callF (va_runV C.fix (As := []) (rest := []) (c_X1_countBuckets l D cy a key val ord tk cp efi ela eco ene ldp dp dbl hlv spl mrg lfi2 lla2 lco2 lne2 lev ptr llo lhi lsp hY) (tq_cV (n := 0) C ml_X1_63 im_X1_countBuckets se_X1_countBuckets ini_X1 cd_X1_countBuckets ⟨by decide, by decide, by decide +kernel⟩ ⟨Nat.le_of_ble_eq_true rfl, Nat.le_of_ble_eq_true rfl⟩) ⟨tq_Pf.blind, va_recv hK hP (ci := 1) (q0 := 3) rfl rfl, tq_preF C hK hP⟩ rfl rfl hl.1 rfl (lv_room (Nat.le_of_ble_eq_true rfl)) dX1_delete_21 ⟨Nat.le_of_ble_eq_true rfl, Nat.le_of_ble_eq_true rfl⟩) (fun r21 hr21 => ?_)
  obtain rfl := hr21
  refine lv_istore_n (lv' := [(2, .int (nI (2 ^ lev + ptr))), (0, .ref (a 3)), (1, .int (nI (en)))]) hx hb dX1_delete_24 rfl hl (by decide) rfl (fun ls hl => ?_)
  suffices hlp25 : ∀ (n25 : Nat) (k : Nat) (rows1 : Nat → List Nat) (L1 : List Nat) (lfi1 : Nat → Nat) (lla1 : Nat → Nat) (lco1 : Nat → Nat) (lne1 : Nat → Nat) (lev1 : Nat) (ptr1 : Nat) (lsp1 : Int32), k < n25 → (2 ^ lev1 + ptr1 ≤ k) → (YR key lev1 ptr1 lfi1 lla1 lco1 lne1 rows1 L1 US2) → (lB cp llo tk k (L1, lev1, ptr1, lsp1) = lB cp llo tk 241 (L.filter (· != key en), lev, ptr, lsp)) → ∀ (H : Heap) (locs : List Loc), va_P D vwCl (wC cy a key val ord tk cp efi ela eco ene ldp dp dbl hlv spl mrg lfi1 lla1 lco1 lne1 lev1 ptr1 llo lhi lsp1) H → va_D A (wC cy a key val ord tk cp efi ela eco ene ldp dp dbl hlv spl mrg lfi1 lla1 lco1 lne1 lev1 ptr1 llo lhi lsp1) → va_S A s.heap H locs → ∀ ls : Array Slot, lv_has ls 3 [(0, .ref (a 3)), (1, .int (nI (en))), (2, .int (nI (2 ^ lev1 + ptr1)))] → W p l e ({ frames := 5, cells := 0, slots := 0, locals := 113 } : Room) s m args below meth c H locs (0 + 0) (0 + 0) (MQ below (va_Qv (S := (Nat → Nat) × (Nat → Nat) × (Nat → Nat) × (Nat → Nat) × Nat × Nat × Int32) (fun u => (∃ rows2, YR key u.2.2.2.2.1 u.2.2.2.2.2.1 u.1 u.2.1 u.2.2.1 u.2.2.2.1 rows2 (lB cp llo tk 241 (L.filter (· != key en), lev, ptr, lsp)).1 US2) ∧ (u.2.2.2.2.1, u.2.2.2.2.2.1, u.2.2.2.2.2.2) = (lB cp llo tk 241 (L.filter (· != key en), lev, ptr, lsp)).2) (tq_B D A (fun u => (wC cy a key val ord tk cp efi ela eco ene ldp dp dbl hlv spl mrg u.1 u.2.1 u.2.2.1 u.2.2.2.1 u.2.2.2.2.1 u.2.2.2.2.2.1 llo lhi u.2.2.2.2.2.2))) A) args s 0 0 A) (F0 m 25 ls []) from
    hlp25 242 241 _ _ lfi2 lla2 lco2 lne2 lev ptr lsp (by omega) (by omega) (hYd) (rfl) _ _ hP hD hS _ (lv_sub hl [1, 2, 0] rfl)
  intro n25
  induction n25 with
  | zero => intro k rows1 L1 lfi1 lla1 lco1 lne1 lev1 ptr1 lsp1 hf; exact absurd hf (Nat.not_lt_zero _)
  | succ n25 ih25 =>
    intro k rows1 L1 lfi1 lla1 lco1 lne1 lev1 ptr1 lsp1 hf25 hk hX1 hres H locs hP hD hS ls hl
    have hY1 := hX1.2.1
    have hlv91 := hY1.lev
    have hp71 := p2_le (c := 7) hlv91
    have hpt1 := hY1.1
    have hmn1 := hY1.2
    have hf1 := fa_le (m := 2 ^ lev1 + ptr1) (hi := llo) (by omega) (by omega) hcp2
    refine lv_iload_n hx hb dX1_delete_25 rfl (lv_at hl 2 rfl) ?_
    refine lv_iconst (v := nI 1) hx hb dX1_delete_26 (by decide) ?_
    refine tq_icmp_le (tgt := 62) C (by omega) (by omega) dX1_delete_27 (by decide) (fun h27 => ?_) (fun h27 => ?_)
    · have hR9 := lB_end hres (Or.inl h27)
      exact tq_vret C (lfi1, lla1, lco1, lne1, lev1, ptr1, lsp1) hP hD hS (⟨⟨rows1, by rw [← hR9]; exact hX1⟩, by rw [← hR9]⟩) (Nat.le_of_ble_eq_true rfl) (Nat.le_of_ble_eq_true rfl) dX1_delete_62
    · refine lv_bipush (v := nI 100) hx hb dX1_delete_30 (by decide) ?_
      refine lv_aload_n hx hb dX1_delete_32 rfl (lv_at hl 0 rfl) ?_
      refine tq_get (C0 := RX1) (T := TX1) (N := 7) (ci := 1) (k := 0) C gX1 inX1 rfl (by decide) rfl fl_X1_27 hK hP 3 rfl rfl dX1_delete_33 ?_
      refine tq_getN (C0 := RX3) (T := TX3) (N := 5) (ci := 3) (k := 3) C gX3 inX3 rfl (by decide) rfl fn_X1_67 hK hP 1 rfl rfl dX1_delete_36 ?_
      refine tq_imul C dX1_delete_39 ?_
      refine lv_aload_n hx hb dX1_delete_40 rfl (lv_at hl 0 rfl) ?_
      refine lv_aload_n hx hb dX1_delete_41 rfl (lv_at hl 0 rfl) ?_
      refine tq_get (C0 := RX1) (T := TX1) (N := 7) (ci := 1) (k := 4) C gX1 inX1 rfl (by decide) rfl fl_X1_18 hK hP 3 rfl rfl dX1_delete_42 ?_
      refine lv_iload_n hx hb dX1_delete_45 rfl (lv_at hl 2 rfl) ?_
      refine tq_callF (va_runV C.fix (As := [.int (nI (llo)), .int (nI (2 ^ lev1 + ptr1))]) (rest := [.int (nI (100 * tk))]) (c_X1_fullAt l D cy a key val ord tk cp efi ela eco ene ldp dp dbl hlv spl mrg lfi1 lla1 lco1 lne1 lev1 ptr1 llo lhi lsp1 llo (2 ^ lev1 + ptr1)) (tq_cV (n := 2) C ml_X1_70 im_X1_fullAt se_X1_fullAt ini_X1 cd_X1_fullAt ⟨by decide, by decide, by decide +kernel⟩ ⟨Nat.le_of_ble_eq_true rfl, Nat.le_of_ble_eq_true rfl⟩) ⟨tq_Pf.blind, va_recv hK hP (ci := 1) (q0 := 3) rfl rfl, tq_preF C hK hP⟩ rfl rfl hl.1 rfl (lv_room (Nat.le_of_ble_eq_true rfl)) dX1_delete_46 ⟨Nat.le_of_ble_eq_true rfl, Nat.le_of_ble_eq_true rfl⟩) (fun r46 hr46 => ?_)
      obtain rfl := hr46
      refine tq_icmp_ge (tgt := 62) C (by omega) (by omega) dX1_delete_49 (by decide) (fun h49 => ?_) (fun h49 => ?_)
      · have hR9 := lB_end hres (Or.inr h49)
        exact tq_vret C (lfi1, lla1, lco1, lne1, lev1, ptr1, lsp1) hP hD hS (⟨⟨rows1, by rw [← hR9]; exact hX1⟩, by rw [← hR9]⟩) (Nat.le_of_ble_eq_true rfl) (Nat.le_of_ble_eq_true rfl) dX1_delete_62
      · refine lv_aload_n hx hb dX1_delete_52 rfl (lv_at hl 0 rfl) ?_
        refine tq_callV (W3 := fun u => (wC cy a key val ord tk cp efi ela eco ene ldp dp dbl hlv spl mrg u.1 u.2.1 u.2.2.1 u.2.2.2.1 u.2.2.2.2.1 u.2.2.2.2.2 llo lhi (lsp1 - nI 1))) (wr := []) (va_runV C.fix (As := []) (rest := []) ((c_X1_takeBackSplit l D cy a key val ord tk cp efi ela eco ene ldp dp dbl hlv spl mrg lfi1 lla1 lco1 lne1 lev1 ptr1 llo lhi lsp1 rows1 L1 US2 hX1 hkey h27) H.size) (tq_cV (n := 0) C ml_X1_79 im_X1_takeBackSplit se_X1_takeBackSplit ini_X1 cd_X1_takeBackSplit ⟨by decide, by decide, by decide +kernel⟩ ⟨Nat.le_of_ble_eq_true rfl, Nat.le_of_ble_eq_true rfl⟩) ⟨tq_Pc.blind, va_recv hK hP (ci := 1) (q0 := 3) rfl rfl, tq_preC C hK hP hD⟩ rfl rfl hl.1 rfl (lv_room (Nat.le_of_ble_eq_true rfl)) dX1_delete_53 ⟨Nat.le_of_ble_eq_true rfl, Nat.le_of_ble_eq_true rfl⟩) hP hD hS hA [0, 1, 2, 3, 4, 5, 6, 7, 8, 9, 10, 11, 12, 13, 14, 15, 16, 17] [] [0, 1, 2, 3, 4, 5, 6, 7, 8, 9, 10, 11, 12, 13, 14, 15, 16, 17] rfl rfl (by decide) (by decide) (by decide) (fun _ => rfl) (fun u53 H locs hr53 hP hD hS => ?_)
        obtain ⟨lfi3, lla3, lco3, lne3, lev3, ptr3⟩ := u53
        try dsimp only at hr53
        have hP : va_P D vwCl (wC cy a key val ord tk cp efi ela eco ene ldp dp dbl hlv spl mrg lfi3 lla3 lco3 lne3 lev3 ptr3 llo lhi (lsp1 - nI 1)) H := hP
        have hD : va_D A (wC cy a key val ord tk cp efi ela eco ene ldp dp dbl hlv spl mrg lfi3 lla3 lco3 lne3 lev3 ptr3 llo lhi (lsp1 - nI 1)) := hD
        obtain ⟨⟨rows3, hX3⟩, hls3⟩ := hr53
        have hmm : 2 ^ lev3 + ptr3 = 2 ^ lev1 + ptr1 - 1 := by
          have h := (lback_split hY1 h27).2.2
          rw [← hls3] at h; dsimp only at h; omega
        refine lv_iinc (v := (nI ((2 ^ lev1 + ptr1) - 1))) (lv' := [(2, .int (nI ((2 ^ lev1 + ptr1) - 1))), (0, .ref (a 3)), (1, .int (nI (en)))]) hx hb dX1_delete_56 hl (k := 2) rfl (tq_dec (by omega)) (by decide) rfl (fun ls hl => ?_)
        refine lv_goto (tgt := 25) hx hb dX1_delete_59 (by decide) ?_
        rw [← hmm] at hl
        exact ih25 (k - 1) rows3 (mvL L1 lev1 ptr1 (2 ^ lev1 + ptr1 - 1)) lfi3 lla3 lco3 lne3 lev3 ptr3 (lsp1 - nI 1) (by omega) (by omega) (hX3) (by have h := lB_go hres (by omega) h27 h49; unfold bstep at h; dsimp only at h; rw [← hls3] at h; exact h) _ _ hP hD hS _ (lv_sub hl [1, 2, 0] rfl)
