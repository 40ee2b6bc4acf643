theorem dX0_splitBucket_0 : decode cX0_splitBucket 0 = .ok (.iload_n 2, 1) := by decide +kernel
theorem dX0_splitBucket_1 : decode cX0_splitBucket 1 = .ok (.aload_n 0, 1) := by decide +kernel
theorem dX0_splitBucket_2 : decode cX0_splitBucket 2 = .ok (.getfield 15, 3) := by decide +kernel
theorem dX0_splitBucket_5 : decode cX0_splitBucket 5 = .ok (.if_icmp .ne 7, 3) := by decide +kernel
theorem dX0_splitBucket_8 : decode cX0_splitBucket 8 = .ok (.aload_n 0, 1) := by decide +kernel
theorem dX0_splitBucket_9 : decode cX0_splitBucket 9 = .ok (.invokevirtual 111, 3) := by decide +kernel
theorem dX0_splitBucket_12 : decode cX0_splitBucket 12 = .ok (.aload_n 0, 1) := by decide +kernel
theorem dX0_splitBucket_13 : decode cX0_splitBucket 13 = .ok (.iload_n 1, 1) := by decide +kernel
theorem dX0_splitBucket_14 : decode cX0_splitBucket 14 = .ok (.iload_n 2, 1) := by decide +kernel
theorem dX0_splitBucket_15 : decode cX0_splitBucket 15 = .ok (.iload_n 2, 1) := by decide +kernel
theorem dX0_splitBucket_16 : decode cX0_splitBucket 16 = .ok (.iconst 1, 1) := by decide +kernel
theorem dX0_splitBucket_17 : decode cX0_splitBucket 17 = .ok (.iadd, 1) := by decide +kernel
theorem dX0_splitBucket_18 : decode cX0_splitBucket 18 = .ok (.invokevirtual 114, 3) := by decide +kernel
theorem dX0_splitBucket_21 : decode cX0_splitBucket 21 = .ok (.aload_n 0, 1) := by decide +kernel
theorem dX0_splitBucket_22 : decode cX0_splitBucket 22 = .ok (.getfield 40, 3) := by decide +kernel
theorem dX0_splitBucket_25 : decode cX0_splitBucket 25 = .ok (.iload_n 1, 1) := by decide +kernel
theorem dX0_splitBucket_26 : decode cX0_splitBucket 26 = .ok (.iload_n 1, 1) := by decide +kernel
theorem dX0_splitBucket_27 : decode cX0_splitBucket 27 = .ok (.iload_n 1, 1) := by decide +kernel
theorem dX0_splitBucket_28 : decode cX0_splitBucket 28 = .ok (.iconst 1, 1) := by decide +kernel
theorem dX0_splitBucket_29 : decode cX0_splitBucket 29 = .ok (.iload_n 2, 1) := by decide +kernel
theorem dX0_splitBucket_30 : decode cX0_splitBucket 30 = .ok (.ishl, 1) := by decide +kernel
theorem dX0_splitBucket_31 : decode cX0_splitBucket 31 = .ok (.iadd, 1) := by decide +kernel
theorem dX0_splitBucket_32 : decode cX0_splitBucket 32 = .ok (.iload_n 2, 1) := by decide +kernel
theorem dX0_splitBucket_33 : decode cX0_splitBucket 33 = .ok (.invokevirtual 118, 3) := by decide +kernel
theorem dX0_splitBucket_36 : decode cX0_splitBucket 36 = .ok (.aload_n 0, 1) := by decide +kernel
theorem dX0_splitBucket_37 : decode cX0_splitBucket 37 = .ok (.dup, 1) := by decide +kernel
theorem dX0_splitBucket_38 : decode cX0_splitBucket 38 = .ok (.getfield 25, 3) := by decide +kernel
theorem dX0_splitBucket_41 : decode cX0_splitBucket 41 = .ok (.iconst 1, 1) := by decide +kernel
theorem dX0_splitBucket_42 : decode cX0_splitBucket 42 = .ok (.iadd, 1) := by decide +kernel
theorem dX0_splitBucket_43 : decode cX0_splitBucket 43 = .ok (.putfield 25, 3) := by decide +kernel
theorem dX0_splitBucket_46 : decode cX0_splitBucket 46 = .ok (.return_, 1) := by decide +kernel
theorem dX0_insert_0 : decode cX0_insert 0 = .ok (.aload_n 0, 1) := by decide +kernel
theorem dX0_insert_1 : decode cX0_insert 1 = .ok (.getfield 31, 3) := by decide +kernel
theorem dX0_insert_4 : decode cX0_insert 4 = .ok (.iload_n 1, 1) := by decide +kernel
theorem dX0_insert_5 : decode cX0_insert 5 = .ok (.invokevirtual 75, 3) := by decide +kernel
theorem dX0_insert_8 : decode cX0_insert 8 = .ok (.istore_n 2, 1) := by decide +kernel
theorem dX0_insert_9 : decode cX0_insert 9 = .ok (.aload_n 0, 1) := by decide +kernel
theorem dX0_insert_10 : decode cX0_insert 10 = .ok (.aload_n 0, 1) := by decide +kernel
theorem dX0_insert_11 : decode cX0_insert 11 = .ok (.iload_n 2, 1) := by decide +kernel
theorem dX0_insert_12 : decode cX0_insert 12 = .ok (.invokevirtual 66, 3) := by decide +kernel
theorem dX0_insert_15 : decode cX0_insert 15 = .ok (.invokevirtual 63, 3) := by decide +kernel
theorem dX0_insert_18 : decode cX0_insert 18 = .ok (.istore_n 3, 1) := by decide +kernel
theorem dX0_insert_19 : decode cX0_insert 19 = .ok (.iload_n 3, 1) := by decide +kernel
theorem dX0_insert_20 : decode cX0_insert 20 = .ok (.bipush 8, 2) := by decide +kernel
theorem dX0_insert_22 : decode cX0_insert 22 = .ok (.if_icmp .ge 41, 3) := by decide +kernel
theorem dX0_insert_25 : decode cX0_insert 25 = .ok (.aload_n 0, 1) := by decide +kernel
theorem dX0_insert_26 : decode cX0_insert 26 = .ok (.getfield 40, 3) := by decide +kernel
theorem dX0_insert_29 : decode cX0_insert 29 = .ok (.aload_n 0, 1) := by decide +kernel
theorem dX0_insert_30 : decode cX0_insert 30 = .ok (.iload_n 2, 1) := by decide +kernel
theorem dX0_insert_31 : decode cX0_insert 31 = .ok (.invokevirtual 69, 3) := by decide +kernel
theorem dX0_insert_34 : decode cX0_insert 34 = .ok (.invokevirtual 80, 3) := by decide +kernel
theorem dX0_insert_37 : decode cX0_insert 37 = .ok (.aload_n 0, 1) := by decide +kernel
theorem dX0_insert_38 : decode cX0_insert 38 = .ok (.getfield 31, 3) := by decide +kernel
theorem dX0_insert_41 : decode cX0_insert 41 = .ok (.getfield 83, 3) := by decide +kernel
theorem dX0_insert_44 : decode cX0_insert 44 = .ok (.if_icmp .lt 19, 3) := by decide +kernel
theorem dX0_insert_47 : decode cX0_insert 47 = .ok (.aload_n 0, 1) := by decide +kernel
theorem dX0_insert_48 : decode cX0_insert 48 = .ok (.aload_n 0, 1) := by decide +kernel
theorem dX0_insert_49 : decode cX0_insert 49 = .ok (.iload_n 2, 1) := by decide +kernel
theorem dX0_insert_50 : decode cX0_insert 50 = .ok (.invokevirtual 69, 3) := by decide +kernel
theorem dX0_insert_53 : decode cX0_insert 53 = .ok (.iload_n 3, 1) := by decide +kernel
theorem dX0_insert_54 : decode cX0_insert 54 = .ok (.invokevirtual 86, 3) := by decide +kernel
theorem dX0_insert_57 : decode cX0_insert 57 = .ok (.iinc 3 1, 3) := by decide +kernel
theorem dX0_insert_60 : decode cX0_insert 60 = .ok (.goto (-41), 3) := by decide +kernel
theorem dX0_insert_63 : decode cX0_insert 63 = .ok (.aload_n 0, 1) := by decide +kernel
theorem dX0_insert_64 : decode cX0_insert 64 = .ok (.getfield 40, 3) := by decide +kernel
theorem dX0_insert_67 : decode cX0_insert 67 = .ok (.aload_n 0, 1) := by decide +kernel
theorem dX0_insert_68 : decode cX0_insert 68 = .ok (.iload_n 2, 1) := by decide +kernel
theorem dX0_insert_69 : decode cX0_insert 69 = .ok (.invokevirtual 69, 3) := by decide +kernel
theorem dX0_insert_72 : decode cX0_insert 72 = .ok (.iload_n 1, 1) := by decide +kernel
theorem dX0_insert_73 : decode cX0_insert 73 = .ok (.invokevirtual 90, 3) := by decide +kernel
theorem dX0_insert_76 : decode cX0_insert 76 = .ok (.return_, 1) := by decide +kernel
theorem dX0_mergeBuckets_0 : decode cX0_mergeBuckets 0 = .ok (.aload_n 0, 1) := by decide +kernel
theorem dX0_mergeBuckets_1 : decode cX0_mergeBuckets 1 = .ok (.iload_n 1, 1) := by decide +kernel
theorem dX0_mergeBuckets_2 : decode cX0_mergeBuckets 2 = .ok (.iload_n 2, 1) := by decide +kernel
theorem dX0_mergeBuckets_3 : decode cX0_mergeBuckets 3 = .ok (.iload_n 2, 1) := by decide +kernel
theorem dX0_mergeBuckets_4 : decode cX0_mergeBuckets 4 = .ok (.invokevirtual 114, 3) := by decide +kernel
theorem dX0_mergeBuckets_7 : decode cX0_mergeBuckets 7 = .ok (.aload_n 0, 1) := by decide +kernel
theorem dX0_mergeBuckets_8 : decode cX0_mergeBuckets 8 = .ok (.getfield 40, 3) := by decide +kernel
theorem dX0_mergeBuckets_11 : decode cX0_mergeBuckets 11 = .ok (.iload_n 1, 1) := by decide +kernel
theorem dX0_mergeBuckets_12 : decode cX0_mergeBuckets 12 = .ok (.iconst 1, 1) := by decide +kernel
theorem dX0_mergeBuckets_13 : decode cX0_mergeBuckets 13 = .ok (.iload_n 2, 1) := by decide +kernel
theorem dX0_mergeBuckets_14 : decode cX0_mergeBuckets 14 = .ok (.ishl, 1) := by decide +kernel
theorem dX0_mergeBuckets_15 : decode cX0_mergeBuckets 15 = .ok (.iadd, 1) := by decide +kernel
theorem dX0_mergeBuckets_16 : decode cX0_mergeBuckets 16 = .ok (.iload_n 1, 1) := by decide +kernel
theorem dX0_mergeBuckets_17 : decode cX0_mergeBuckets 17 = .ok (.invokevirtual 125, 3) := by decide +kernel
theorem dX0_mergeBuckets_20 : decode cX0_mergeBuckets 20 = .ok (.aload_n 0, 1) := by decide +kernel
theorem dX0_mergeBuckets_21 : decode cX0_mergeBuckets 21 = .ok (.dup, 1) := by decide +kernel
theorem dX0_mergeBuckets_22 : decode cX0_mergeBuckets 22 = .ok (.getfield 28, 3) := by decide +kernel
theorem dX0_mergeBuckets_25 : decode cX0_mergeBuckets 25 = .ok (.iconst 1, 1) := by decide +kernel
theorem dX0_mergeBuckets_26 : decode cX0_mergeBuckets 26 = .ok (.iadd, 1) := by decide +kernel
theorem dX0_mergeBuckets_27 : decode cX0_mergeBuckets 27 = .ok (.putfield 28, 3) := by decide +kernel
theorem dX0_mergeBuckets_30 : decode cX0_mergeBuckets 30 = .ok (.return_, 1) := by decide +kernel
theorem dX0_delete_0 : decode cX0_delete 0 = .ok (.aload_n 0, 1) := by decide +kernel
theorem dX0_delete_1 : decode cX0_delete 1 = .ok (.getfield 31, 3) := by decide +kernel
theorem dX0_delete_4 : decode cX0_delete 4 = .ok (.iload_n 1, 1) := by decide +kernel
theorem dX0_delete_5 : decode cX0_delete 5 = .ok (.invokevirtual 75, 3) := by decide +kernel
theorem dX0_delete_8 : decode cX0_delete 8 = .ok (.istore_n 2, 1) := by decide +kernel
theorem dX0_delete_9 : decode cX0_delete 9 = .ok (.aload_n 0, 1) := by decide +kernel
theorem dX0_delete_10 : decode cX0_delete 10 = .ok (.getfield 40, 3) := by decide +kernel
theorem dX0_delete_13 : decode cX0_delete 13 = .ok (.aload_n 0, 1) := by decide +kernel
theorem dX0_delete_14 : decode cX0_delete 14 = .ok (.iload_n 2, 1) := by decide +kernel
theorem dX0_delete_15 : decode cX0_delete 15 = .ok (.invokevirtual 69, 3) := by decide +kernel
theorem dX0_delete_18 : decode cX0_delete 18 = .ok (.iload_n 1, 1) := by decide +kernel
theorem dX0_delete_19 : decode cX0_delete 19 = .ok (.invokevirtual 93, 3) := by decide +kernel
theorem dX0_delete_22 : decode cX0_delete 22 = .ok (.aload_n 0, 1) := by decide +kernel
theorem dX0_delete_23 : decode cX0_delete 23 = .ok (.aload_n 0, 1) := by decide +kernel
theorem dX0_delete_24 : decode cX0_delete 24 = .ok (.iload_n 2, 1) := by decide +kernel
theorem dX0_delete_25 : decode cX0_delete 25 = .ok (.invokevirtual 66, 3) := by decide +kernel
theorem dX0_delete_28 : decode cX0_delete 28 = .ok (.invokevirtual 63, 3) := by decide +kernel
theorem dX0_delete_31 : decode cX0_delete 31 = .ok (.istore_n 3, 1) := by decide +kernel
theorem dX0_delete_32 : decode cX0_delete 32 = .ok (.iload_n 3, 1) := by decide +kernel
theorem dX0_delete_33 : decode cX0_delete 33 = .ok (.ifCond .le 38, 3) := by decide +kernel
theorem dX0_delete_36 : decode cX0_delete 36 = .ok (.aload_n 0, 1) := by decide +kernel
theorem dX0_delete_37 : decode cX0_delete 37 = .ok (.aload_n 0, 1) := by decide +kernel
theorem dX0_delete_38 : decode cX0_delete 38 = .ok (.iload_n 2, 1) := by decide +kernel
theorem dX0_delete_39 : decode cX0_delete 39 = .ok (.invokevirtual 69, 3) := by decide +kernel
theorem dX0_delete_42 : decode cX0_delete 42 = .ok (.invokevirtual 96, 3) := by decide +kernel
theorem dX0_delete_45 : decode cX0_delete 45 = .ok (.ifCond .eq 26, 3) := by decide +kernel
theorem dX0_delete_48 : decode cX0_delete 48 = .ok (.aload_n 0, 1) := by decide +kernel
theorem dX0_delete_49 : decode cX0_delete 49 = .ok (.iload_n 2, 1) := by decide +kernel
theorem dX0_delete_50 : decode cX0_delete 50 = .ok (.invokestatic 56, 3) := by decide +kernel
theorem dX0_delete_53 : decode cX0_delete 53 = .ok (.iload_n 3, 1) := by decide +kernel
theorem dX0_delete_54 : decode cX0_delete 54 = .ok (.iconst 1, 1) := by decide +kernel
theorem dX0_delete_55 : decode cX0_delete 55 = .ok (.isub, 1) := by decide +kernel
theorem dX0_delete_56 : decode cX0_delete 56 = .ok (.invokestatic 59, 3) := by decide +kernel
theorem dX0_delete_59 : decode cX0_delete 59 = .ok (.iload_n 3, 1) := by decide +kernel
theorem dX0_delete_60 : decode cX0_delete 60 = .ok (.iconst 1, 1) := by decide +kernel
theorem dX0_delete_61 : decode cX0_delete 61 = .ok (.isub, 1) := by decide +kernel
theorem dX0_delete_62 : decode cX0_delete 62 = .ok (.invokevirtual 99, 3) := by decide +kernel
theorem dX0_delete_65 : decode cX0_delete 65 = .ok (.iinc 3 (-1), 3) := by decide +kernel
theorem dX0_delete_68 : decode cX0_delete 68 = .ok (.goto (-36), 3) := by decide +kernel
theorem dX0_delete_71 : decode cX0_delete 71 = .ok (.aload_n 0, 1) := by decide +kernel
theorem dX0_delete_72 : decode cX0_delete 72 = .ok (.invokevirtual 102, 3) := by decide +kernel
theorem dX0_delete_75 : decode cX0_delete 75 = .ok (.return_, 1) := by decide +kernel
theorem dX0_reset_0 : decode cX0_reset 0 = .ok (.aload_n 0, 1) := by decide +kernel
theorem dX0_reset_1 : decode cX0_reset 1 = .ok (.iconst 0, 1) := by decide +kernel
theorem dX0_reset_2 : decode cX0_reset 2 = .ok (.putfield 15, 3) := by decide +kernel
theorem dX0_reset_5 : decode cX0_reset 5 = .ok (.aload_n 0, 1) := by decide +kernel
theorem dX0_reset_6 : decode cX0_reset 6 = .ok (.iconst 0, 1) := by decide +kernel
theorem dX0_reset_7 : decode cX0_reset 7 = .ok (.iconst 0, 1) := by decide +kernel
theorem dX0_reset_8 : decode cX0_reset 8 = .ok (.invokevirtual 105, 3) := by decide +kernel
theorem dX0_reset_11 : decode cX0_reset 11 = .ok (.aload_n 0, 1) := by decide +kernel
theorem dX0_reset_12 : decode cX0_reset 12 = .ok (.getfield 40, 3) := by decide +kernel
theorem dX0_reset_15 : decode cX0_reset 15 = .ok (.invokevirtual 108, 3) := by decide +kernel
theorem dX0_reset_18 : decode cX0_reset 18 = .ok (.return_, 1) := by decide +kernel
theorem dX0_countBuckets_0 : decode cX0_countBuckets 0 = .ok (.aload_n 0, 1) := by decide +kernel
theorem dX0_countBuckets_1 : decode cX0_countBuckets 1 = .ok (.invokevirtual 44, 3) := by decide +kernel
theorem dX0_countBuckets_4 : decode cX0_countBuckets 4 = .ok (.istore_n 1, 1) := by decide +kernel
theorem dX0_countBuckets_5 : decode cX0_countBuckets 5 = .ok (.iconst 0, 1) := by decide +kernel
theorem dX0_countBuckets_6 : decode cX0_countBuckets 6 = .ok (.istore_n 2, 1) := by decide +kernel
theorem dX0_countBuckets_7 : decode cX0_countBuckets 7 = .ok (.iconst 0, 1) := by decide +kernel
theorem dX0_countBuckets_8 : decode cX0_countBuckets 8 = .ok (.istore_n 3, 1) := by decide +kernel
theorem dX0_countBuckets_9 : decode cX0_countBuckets 9 = .ok (.iload_n 3, 1) := by decide +kernel
theorem dX0_countBuckets_10 : decode cX0_countBuckets 10 = .ok (.iload_n 1, 1) := by decide +kernel
theorem dX0_countBuckets_11 : decode cX0_countBuckets 11 = .ok (.if_icmp .ge 21, 3) := by decide +kernel
theorem dX0_countBuckets_14 : decode cX0_countBuckets 14 = .ok (.aload_n 0, 1) := by decide +kernel
theorem dX0_countBuckets_15 : decode cX0_countBuckets 15 = .ok (.iload_n 3, 1) := by decide +kernel
theorem dX0_countBuckets_16 : decode cX0_countBuckets 16 = .ok (.invokevirtual 48, 3) := by decide +kernel
theorem dX0_countBuckets_19 : decode cX0_countBuckets 19 = .ok (.iload_n 3, 1) := by decide +kernel
theorem dX0_countBuckets_20 : decode cX0_countBuckets 20 = .ok (.if_icmp .ne 6, 3) := by decide +kernel
theorem dX0_countBuckets_23 : decode cX0_countBuckets 23 = .ok (.iinc 2 1, 3) := by decide +kernel
theorem dX0_countBuckets_26 : decode cX0_countBuckets 26 = .ok (.iinc 3 1, 3) := by decide +kernel
theorem dX0_countBuckets_29 : decode cX0_countBuckets 29 = .ok (.goto (-20), 3) := by decide +kernel
theorem dX0_countBuckets_32 : decode cX0_countBuckets 32 = .ok (.iload_n 2, 1) := by decide +kernel
theorem dX0_countBuckets_33 : decode cX0_countBuckets 33 = .ok (.ireturn, 1) := by decide +kernel
set_option maxHeartbeats 4000000 in
set_option maxRecDepth 100000 in
theorem c_X0_splitBucket (l : Launch) (D : va_G) (cy : ClassId) (a : Nat → Nat) (key : Nat → Nat) (val : Nat → Nat) (ord : Nat → Nat) (tk : Nat) (cp : Nat) (efi : Nat → Nat) (ela : Nat → Nat) (eco : Nat → Nat) (ene : Nat → Nat) (ldp : Nat → Nat) (dp : Nat) (dbl : Int32) (hlv : Int32) (spl : Int32) (mrg : Int32) (lfi : Nat → Nat) (lla : Nat → Nat) (lco : Nat → Nat) (lne : Nat → Nat) (lev : Nat) (ptr : Nat) (llo : Nat) (lhi : Nat) (lsp : Int32) (row : Nat) (lc : Nat) (rows : Nat → List Nat) (dep : Nat → Nat) (E : List Nat) (US : Nat → Prop) (hXR : XR key ldp dp efi ela eco ene rows dep E US) (hkey : ∀ e, 1 ≤ e → e ≤ 120 → key e < 65536) (xx : Nat) (hxx : xx < 256) (hrow : row = xx % 2 ^ dep xx) (hlc : lc = dep xx) (hlt : lc < 8) : tq_V (S := (Nat → Nat) × (Nat → Nat) × (Nat → Nat) × (Nat → Nat) × (Nat → Nat) × Nat × Int32) l yX0_splitBucket cX0_splitBucket 3 3 71 0 0 D cy (wC cy a key val ord tk cp efi ela eco ene ldp dp dbl hlv spl mrg lfi lla lco lne lev ptr llo lhi lsp) [.ref (a 2), .int (nI (row)), .int (nI (lc))] (fun u => (∃ rows2, XR key u.2.2.2.2.1 u.2.2.2.2.2.1 u.1 u.2.1 u.2.2.1 u.2.2.2.1 rows2 (deepen dep xx (dep xx) (dep xx + 1)) E US) ∧ u.2.2.2.2.2.1 = (if dep xx = dp then dp + 1 else dp) ∧ u.2.2.2.2.2.2 = if dep xx = dp then dbl + nI 1 else dbl) (fun u => (wC cy a key val ord tk cp u.1 u.2.1 u.2.2.1 u.2.2.2.1 u.2.2.2.2.1 u.2.2.2.2.2.1 u.2.2.2.2.2.2 hlv (spl + nI 1) mrg lfi lla lco lne lev ptr llo lhi lsp)) := by
  refine tq_V.mk (by decide) (Nat.le_of_ble_eq_true rfl) ?_
  intro p e s m args below meth c A C hin hP hK hD hS hA ls hl
  obtain ⟨hx, hb, hml, hown, hrt, hlk, hT⟩ := id C
  have hl : lv_has ls 3 [(0, .ref (a 2)), (1, .int (nI (row))), (2, .int (nI (lc)))] := hl
  have hdp9 := hXR.2.1.1
  have hpl := p7 hlt
  have hrl : row < 2 ^ lc := by rw [hrow, hlc]; exact Nat.mod_lt _ (Nat.two_pow_pos _)
  refine lv_iload_n hx hb dX0_splitBucket_0 rfl (lv_at hl 2 rfl) ?_
  refine lv_aload_n hx hb dX0_splitBucket_1 rfl (lv_at hl 0 rfl) ?_
  refine tq_get (C0 := RX0) (T := TX0) (N := 8) (ci := 0) (k := 3) C gX0 inX0 rfl (by decide) rfl fl_X0_15 hK hP 2 rfl rfl dX0_splitBucket_2 ?_
  refine tq_icmp_ne (tgt := 12) C (by omega) (by omega) dX0_splitBucket_5 (by decide) (fun h5 => ?_) (fun h5 => ?_)
  · have hX2 := hXR
    have hb2 : dep xx < dp := by have := hXR.2.1.2.1 xx hxx; omega
    refine lv_aload_n hx hb dX0_splitBucket_12 rfl (lv_at hl 0 rfl) ?_
    refine lv_iload_n hx hb dX0_splitBucket_13 rfl (lv_at hl 1 rfl) ?_
    refine lv_iload_n hx hb dX0_splitBucket_14 rfl (lv_at hl 2 rfl) ?_
    refine lv_iload_n hx hb dX0_splitBucket_15 rfl (lv_at hl 2 rfl) ?_
    refine lv_iconst (v := nI 1) hx hb dX0_splitBucket_16 (by decide) ?_
    refine tq_iadd C dX0_splitBucket_17 ?_
    refine tq_callV (W3 := fun u => (wC cy a key val ord tk cp efi ela eco ene u dp dbl hlv spl mrg lfi lla lco lne lev ptr llo lhi lsp)) (wr := []) (va_runV C.fix (As := [.int (nI (row)), .int (nI (lc)), .int (nI (lc + 1))]) (rest := []) ((c_X0_setDepths l D cy a key val ord tk cp efi ela eco ene ldp dp dbl hlv spl mrg lfi lla lco lne lev ptr llo lhi lsp row lc (lc + 1) hX2.2.1.1 (Nat.lt_of_lt_of_le hrl (p2_le (by omega))) (by omega)) s.heap.size) (tq_cV (n := 3) C ml_X0_114 im_X0_setDepths se_X0_setDepths ini_X0 cd_X0_setDepths ⟨by decide, by decide, by decide +kernel⟩ ⟨Nat.le_of_ble_eq_true rfl, Nat.le_of_ble_eq_true rfl⟩) ⟨tq_Pc.blind, va_recv hK hP (ci := 0) (q0 := 2) rfl rfl, tq_preC C hK hP hD⟩ rfl rfl hl.1 rfl (lv_room (Nat.le_of_ble_eq_true rfl)) dX0_splitBucket_18 ⟨Nat.le_of_ble_eq_true rfl, Nat.le_of_ble_eq_true rfl⟩) hP hD hS hA [0, 1, 2, 3, 4, 5, 6, 7, 8, 9, 10, 11, 12, 13, 14, 15, 16, 17] [] [0, 1, 2, 3, 4, 5, 6, 7, 8, 9, 10, 11, 12, 13, 14, 15, 16, 17] rfl rfl (by decide) (by decide) (by decide) (fun _ => rfl) (fun u18 H locs hr18 hP hD hS => ?_)
    obtain ⟨ldp18, rfl⟩ : ∃ z, z = u18 := ⟨_, rfl⟩
    try dsimp only at hr18
    have hP : va_P D vwCl (wC cy a key val ord tk cp efi ela eco ene ldp18 dp dbl hlv spl mrg lfi lla lco lne lev ptr llo lhi lsp) H := hP
    have hD : va_D A (wC cy a key val ord tk cp efi ela eco ene ldp18 dp dbl hlv spl mrg lfi lla lco lne lev ptr llo lhi lsp) := hD
    refine lv_aload_n hx hb dX0_splitBucket_21 rfl (lv_at hl 0 rfl) ?_
    refine tq_get (C0 := RX0) (T := TX0) (N := 8) (ci := 0) (k := 1) C gX0 inX0 rfl (by decide) rfl fl_X0_40 hK hP 2 rfl rfl dX0_splitBucket_22 ?_
    refine lv_iload_n hx hb dX0_splitBucket_25 rfl (lv_at hl 1 rfl) ?_
    refine lv_iload_n hx hb dX0_splitBucket_26 rfl (lv_at hl 1 rfl) ?_
    refine lv_iload_n hx hb dX0_splitBucket_27 rfl (lv_at hl 1 rfl) ?_
    refine lv_iconst (v := nI 1) hx hb dX0_splitBucket_28 (by decide) ?_
    refine lv_iload_n hx hb dX0_splitBucket_29 rfl (lv_at hl 2 rfl) ?_
    refine tq_ishl C (by omega) (by omega) dX0_splitBucket_30 ?_
    refine tq_top (y := nI (2 ^ lc)) (by rw [Nat.one_mul]) ?_
    refine tq_iadd C dX0_splitBucket_31 ?_
    refine lv_iload_n hx hb dX0_splitBucket_32 rfl (lv_at hl 2 rfl) ?_
    refine tq_callV (W3 := fun u => (wC cy a key val ord tk cp u.1 u.2.1 u.2.2.1 u.2.2.2 ldp18 dp dbl hlv spl mrg lfi lla lco lne lev ptr llo lhi lsp)) (wr := [0, 2, 3, 5, 6, 8, 9, 14, 15, 16, 17].filterMap (fun i => (wC cy a key val ord tk cp efi ela eco ene ldp18 dp dbl hlv spl mrg lfi lla lco lne lev ptr llo lhi lsp)[i]?)) (va_runV C.fix (As := [.int (nI (row)), .int (nI (row)), .int (nI (row + (2 ^ lc))), .int (nI (lc))]) (rest := []) ((c_X2_deal l D cy (a 7) (a 10) (a 11) (a 12) (a 13) (a 1) (a 4) (a 5) (a 6) efi ela eco ene key tk cp row row (row + (2 ^ lc)) lc rows hX2.1 hkey (by omega) (by omega) (by omega) (by omega)) H.size) (tq_cV (n := 4) C ml_X0_118 im_X2_deal se_X2_deal ini_X2 cd_X2_deal ⟨by decide, by decide, by decide +kernel⟩ ⟨Nat.le_of_ble_eq_true rfl, Nat.le_of_ble_eq_true rfl⟩) ⟨tq_Pc.blind, va_recv hK hP (ci := 2) (q0 := 7) rfl rfl, tq_preC C hK (hP.sub [7, 10, 11, 12, 13, 1, 4] rfl) (hD.sub [7, 10, 11, 12, 13, 1, 4] (by decide) rfl)⟩ rfl rfl hl.1 rfl (lv_room (Nat.le_of_ble_eq_true rfl)) dX0_splitBucket_33 ⟨Nat.le_of_ble_eq_true rfl, Nat.le_of_ble_eq_true rfl⟩) hP hD hS hA [7, 10, 11, 12, 13, 1, 4] [0, 2, 3, 5, 6, 8, 9, 14, 15, 16, 17] [0, 16, 1, 2, 17, 3, 4, 11, 5, 6, 12, 13, 14, 15, 7, 8, 9, 10] rfl rfl (by decide) (by decide) (by decide) (fun _ => rfl) (fun u33 H locs hr33 hP hD hS => ?_)
    obtain ⟨efi2, ela2, eco2, ene2⟩ := u33
    try dsimp only at hr33
    have hP : va_P D vwCl (wC cy a key val ord tk cp efi2 ela2 eco2 ene2 ldp18 dp dbl hlv spl mrg lfi lla lco lne lev ptr llo lhi lsp) H := hP
    have hD : va_D A (wC cy a key val ord tk cp efi2 ela2 eco2 ene2 ldp18 dp dbl hlv spl mrg lfi lla lco lne lev ptr llo lhi lsp) := hD
    refine lv_aload_n hx hb dX0_splitBucket_36 rfl (lv_at hl 0 rfl) ?_
    refine lv_dup hx hb dX0_splitBucket_37 rfl ?_
    refine tq_get (C0 := RX0) (T := TX0) (N := 8) (ci := 0) (k := 6) C gX0 inX0 rfl (by decide) rfl fl_X0_25 hK hP 2 rfl rfl dX0_splitBucket_38 ?_
    refine lv_iconst (v := nI 1) hx hb dX0_splitBucket_41 (by decide) ?_
    refine lv_iadd hx hb dX0_splitBucket_42 ?_
    refine tq_put (v := .int (spl + nI 1)) (C0 := RX0) (T := TX0) (N := 8) (ci := 0) (k := 6) (ty := .int) C gX0 inX0 tyX0_ok nmX0 rfl (by decide) rfl fl_X0_25 rfl (by decide +kernel) hK hP hD hS 2 rfl rfl rfl (Nat.le_of_ble_eq_true rfl) dX0_splitBucket_43 (fun H locs hP hD hS => ?_)
    have hP : va_P D vwCl (wC cy a key val ord tk cp efi2 ela2 eco2 ene2 ldp18 dp dbl hlv (spl + nI 1) mrg lfi lla lco lne lev ptr llo lhi lsp) H := hP
    have hD : va_D A (wC cy a key val ord tk cp efi2 ela2 eco2 ene2 ldp18 dp dbl hlv (spl + nI 1) mrg lfi lla lco lne lev ptr llo lhi lsp) := hD
    exact tq_vret C (efi2, ela2, eco2, ene2, ldp18, dp, dbl) hP hD hS (⟨⟨_, hX2.deep hxx hb2 (fun q => (hr18 q).trans (by rw [hrow, hlc])) hr33 (fun r _ => by rw [hrow, hlc])⟩, by rw [if_neg (by omega)], by rw [if_neg (by omega)]⟩) (Nat.le_of_ble_eq_true rfl) (Nat.le_of_ble_eq_true rfl) dX0_splitBucket_46
  · refine lv_aload_n hx hb dX0_splitBucket_8 rfl (lv_at hl 0 rfl) ?_
    refine tq_callV (W3 := fun u => (wC cy a key val ord tk cp efi ela eco ene u (dp + 1) (dbl + nI 1) hlv spl mrg lfi lla lco lne lev ptr llo lhi lsp)) (wr := []) (va_runV C.fix (As := []) (rest := []) ((c_X0_doubleDirectory l D cy a key val ord tk cp efi ela eco ene ldp dp dbl hlv spl mrg lfi lla lco lne lev ptr llo lhi lsp (by omega)) s.heap.size) (tq_cV (n := 0) C ml_X0_111 im_X0_doubleDirectory se_X0_doubleDirectory ini_X0 cd_X0_doubleDirectory ⟨by decide, by decide, by decide +kernel⟩ ⟨Nat.le_of_ble_eq_true rfl, Nat.le_of_ble_eq_true rfl⟩) ⟨tq_Pc.blind, va_recv hK hP (ci := 0) (q0 := 2) rfl rfl, tq_preC C hK hP hD⟩ rfl rfl hl.1 rfl (lv_room (Nat.le_of_ble_eq_true rfl)) dX0_splitBucket_9 ⟨Nat.le_of_ble_eq_true rfl, Nat.le_of_ble_eq_true rfl⟩) hP hD hS hA [0, 1, 2, 3, 4, 5, 6, 7, 8, 9, 10, 11, 12, 13, 14, 15, 16, 17] [] [0, 1, 2, 3, 4, 5, 6, 7, 8, 9, 10, 11, 12, 13, 14, 15, 16, 17] rfl rfl (by decide) (by decide) (by decide) (fun _ => rfl) (fun u9 H locs hr9 hP hD hS => ?_)
    obtain ⟨ldp9, rfl⟩ : ∃ z, z = u9 := ⟨_, rfl⟩
    try dsimp only at hr9
    have hP : va_P D vwCl (wC cy a key val ord tk cp efi ela eco ene ldp9 (dp + 1) (dbl + nI 1) hlv spl mrg lfi lla lco lne lev ptr llo lhi lsp) H := hP
    have hD : va_D A (wC cy a key val ord tk cp efi ela eco ene ldp9 (dp + 1) (dbl + nI 1) hlv spl mrg lfi lla lco lne lev ptr llo lhi lsp) := hD
    have hX2 := hXR.double (by omega) hr9
    have hb2 : dep xx < dp + 1 := by omega
    refine lv_aload_n hx hb dX0_splitBucket_12 rfl (lv_at hl 0 rfl) ?_
    refine lv_iload_n hx hb dX0_splitBucket_13 rfl (lv_at hl 1 rfl) ?_
    refine lv_iload_n hx hb dX0_splitBucket_14 rfl (lv_at hl 2 rfl) ?_
    refine lv_iload_n hx hb dX0_splitBucket_15 rfl (lv_at hl 2 rfl) ?_
    refine lv_iconst (v := nI 1) hx hb dX0_splitBucket_16 (by decide) ?_
    refine tq_iadd C dX0_splitBucket_17 ?_
    refine tq_callV (W3 := fun u => (wC cy a key val ord tk cp efi ela eco ene u (dp + 1) (dbl + nI 1) hlv spl mrg lfi lla lco lne lev ptr llo lhi lsp)) (wr := []) (va_runV C.fix (As := [.int (nI (row)), .int (nI (lc)), .int (nI (lc + 1))]) (rest := []) ((c_X0_setDepths l D cy a key val ord tk cp efi ela eco ene ldp9 (dp + 1) (dbl + nI 1) hlv spl mrg lfi lla lco lne lev ptr llo lhi lsp row lc (lc + 1) hX2.2.1.1 (Nat.lt_of_lt_of_le hrl (p2_le (by omega))) (by omega)) H.size) (tq_cV (n := 3) C ml_X0_114 im_X0_setDepths se_X0_setDepths ini_X0 cd_X0_setDepths ⟨by decide, by decide, by decide +kernel⟩ ⟨Nat.le_of_ble_eq_true rfl, Nat.le_of_ble_eq_true rfl⟩) ⟨tq_Pc.blind, va_recv hK hP (ci := 0) (q0 := 2) rfl rfl, tq_preC C hK hP hD⟩ rfl rfl hl.1 rfl (lv_room (Nat.le_of_ble_eq_true rfl)) dX0_splitBucket_18 ⟨Nat.le_of_ble_eq_true rfl, Nat.le_of_ble_eq_true rfl⟩) hP hD hS hA [0, 1, 2, 3, 4, 5, 6, 7, 8, 9, 10, 11, 12, 13, 14, 15, 16, 17] [] [0, 1, 2, 3, 4, 5, 6, 7, 8, 9, 10, 11, 12, 13, 14, 15, 16, 17] rfl rfl (by decide) (by decide) (by decide) (fun _ => rfl) (fun u18 H locs hr18 hP hD hS => ?_)
    obtain ⟨ldp18, rfl⟩ : ∃ z, z = u18 := ⟨_, rfl⟩
    try dsimp only at hr18
    have hP : va_P D vwCl (wC cy a key val ord tk cp efi ela eco ene ldp18 (dp + 1) (dbl + nI 1) hlv spl mrg lfi lla lco lne lev ptr llo lhi lsp) H := hP
    have hD : va_D A (wC cy a key val ord tk cp efi ela eco ene ldp18 (dp + 1) (dbl + nI 1) hlv spl mrg lfi lla lco lne lev ptr llo lhi lsp) := hD
    refine lv_aload_n hx hb dX0_splitBucket_21 rfl (lv_at hl 0 rfl) ?_
    refine tq_get (C0 := RX0) (T := TX0) (N := 8) (ci := 0) (k := 1) C gX0 inX0 rfl (by decide) rfl fl_X0_40 hK hP 2 rfl rfl dX0_splitBucket_22 ?_
    refine lv_iload_n hx hb dX0_splitBucket_25 rfl (lv_at hl 1 rfl) ?_
    refine lv_iload_n hx hb dX0_splitBucket_26 rfl (lv_at hl 1 rfl) ?_
    refine lv_iload_n hx hb dX0_splitBucket_27 rfl (lv_at hl 1 rfl) ?_
    refine lv_iconst (v := nI 1) hx hb dX0_splitBucket_28 (by decide) ?_
    refine lv_iload_n hx hb dX0_splitBucket_29 rfl (lv_at hl 2 rfl) ?_
    refine tq_ishl C (by omega) (by omega) dX0_splitBucket_30 ?_
    refine tq_top (y := nI (2 ^ lc)) (by rw [Nat.one_mul]) ?_
    refine tq_iadd C dX0_splitBucket_31 ?_
    refine lv_iload_n hx hb dX0_splitBucket_32 rfl (lv_at hl 2 rfl) ?_
    refine tq_callV (W3 := fun u => (wC cy a key val ord tk cp u.1 u.2.1 u.2.2.1 u.2.2.2 ldp18 (dp + 1) (dbl + nI 1) hlv spl mrg lfi lla lco lne lev ptr llo lhi lsp)) (wr := [0, 2, 3, 5, 6, 8, 9, 14, 15, 16, 17].filterMap (fun i => (wC cy a key val ord tk cp efi ela eco ene ldp18 (dp + 1) (dbl + nI 1) hlv spl mrg lfi lla lco lne lev ptr llo lhi lsp)[i]?)) (va_runV C.fix (As := [.int (nI (row)), .int (nI (row)), .int (nI (row + (2 ^ lc))), .int (nI (lc))]) (rest := []) ((c_X2_deal l D cy (a 7) (a 10) (a 11) (a 12) (a 13) (a 1) (a 4) (a 5) (a 6) efi ela eco ene key tk cp row row (row + (2 ^ lc)) lc rows hX2.1 hkey (by omega) (by omega) (by omega) (by omega)) H.size) (tq_cV (n := 4) C ml_X0_118 im_X2_deal se_X2_deal ini_X2 cd_X2_deal ⟨by decide, by decide, by decide +kernel⟩ ⟨Nat.le_of_ble_eq_true rfl, Nat.le_of_ble_eq_true rfl⟩) ⟨tq_Pc.blind, va_recv hK hP (ci := 2) (q0 := 7) rfl rfl, tq_preC C hK (hP.sub [7, 10, 11, 12, 13, 1, 4] rfl) (hD.sub [7, 10, 11, 12, 13, 1, 4] (by decide) rfl)⟩ rfl rfl hl.1 rfl (lv_room (Nat.le_of_ble_eq_true rfl)) dX0_splitBucket_33 ⟨Nat.le_of_ble_eq_true rfl, Nat.le_of_ble_eq_true rfl⟩) hP hD hS hA [7, 10, 11, 12, 13, 1, 4] [0, 2, 3, 5, 6, 8, 9, 14, 15, 16, 17] [0, 16, 1, 2, 17, 3, 4, 11, 5, 6, 12, 13, 14, 15, 7, 8, 9, 10] rfl rfl (by decide) (by decide) (by decide) (fun _ => rfl) (fun u33 H locs hr33 hP hD hS => ?_)
    obtain ⟨efi2, ela2, eco2, ene2⟩ := u33
    try dsimp only at hr33
    have hP : va_P D vwCl (wC cy a key val ord tk cp efi2 ela2 eco2 ene2 ldp18 (dp + 1) (dbl + nI 1) hlv spl mrg lfi lla lco lne lev ptr llo lhi lsp) H := hP
    have hD : va_D A (wC cy a key val ord tk cp efi2 ela2 eco2 ene2 ldp18 (dp + 1) (dbl + nI 1) hlv spl mrg lfi lla lco lne lev ptr llo lhi lsp) := hD
    refine lv_aload_n hx hb dX0_splitBucket_36 rfl (lv_at hl 0 rfl) ?_
    refine lv_dup hx hb dX0_splitBucket_37 rfl ?_
    refine tq_get (C0 := RX0) (T := TX0) (N := 8) (ci := 0) (k := 6) C gX0 inX0 rfl (by decide) rfl fl_X0_25 hK hP 2 rfl rfl dX0_splitBucket_38 ?_
    refine lv_iconst (v := nI 1) hx hb dX0_splitBucket_41 (by decide) ?_
    refine lv_iadd hx hb dX0_splitBucket_42 ?_
    refine tq_put (v := .int (spl + nI 1)) (C0 := RX0) (T := TX0) (N := 8) (ci := 0) (k := 6) (ty := .int) C gX0 inX0 tyX0_ok nmX0 rfl (by decide) rfl fl_X0_25 rfl (by decide +kernel) hK hP hD hS 2 rfl rfl rfl (Nat.le_of_ble_eq_true rfl) dX0_splitBucket_43 (fun H locs hP hD hS => ?_)
    have hP : va_P D vwCl (wC cy a key val ord tk cp efi2 ela2 eco2 ene2 ldp18 (dp + 1) (dbl + nI 1) hlv (spl + nI 1) mrg lfi lla lco lne lev ptr llo lhi lsp) H := hP
    have hD : va_D A (wC cy a key val ord tk cp efi2 ela2 eco2 ene2 ldp18 (dp + 1) (dbl + nI 1) hlv (spl + nI 1) mrg lfi lla lco lne lev ptr llo lhi lsp) := hD
    exact tq_vret C (efi2, ela2, eco2, ene2, ldp18, dp + 1, dbl + nI 1) hP hD hS (⟨⟨_, hX2.deep hxx hb2 (fun q => (hr18 q).trans (by rw [hrow, hlc])) hr33 (fun r _ => by rw [hrow, hlc])⟩, by rw [if_pos (by omega)], by rw [if_pos (by omega)]⟩) (Nat.le_of_ble_eq_true rfl) (Nat.le_of_ble_eq_true rfl) dX0_splitBucket_46
set_option maxHeartbeats 4000000 in
set_option maxRecDepth 100000 in
theorem c_X0_insert (l : Launch) (D : va_G) (cy : ClassId) (a : Nat → Nat) (key : Nat → Nat) (val : Nat → Nat) (ord : Nat → Nat) (tk : Nat) (cp : Nat) (efi : Nat → Nat) (ela : Nat → Nat) (eco : Nat → Nat) (ene : Nat → Nat) (ldp : Nat → Nat) (dp : Nat) (dbl : Int32) (hlv : Int32) (spl : Int32) (mrg : Int32) (lfi : Nat → Nat) (lla : Nat → Nat) (lco : Nat → Nat) (lne : Nat → Nat) (lev : Nat) (ptr : Nat) (llo : Nat) (lhi : Nat) (lsp : Int32) (en : Nat) (rows : Nat → List Nat) (dep : Nat → Nat) (E : List Nat) (US : Nat → Prop) (hXR : XR key ldp dp efi ela eco ene rows dep E US) (hkey : ∀ e, 1 ≤ e → e ≤ 120 → key e < 65536) (US2 : Nat → Prop) (h1 : 1 ≤ en) (h2 : en ≤ 120) (hnU : ¬ US en) (hU1 : ∀ e, US e → US2 e) (hU2 : US2 en) (hcp2 : cp ≤ 5) : tq_V (S := (Nat → Nat) × (Nat → Nat) × (Nat → Nat) × (Nat → Nat) × (Nat → Nat) × Nat × Int32 × Int32) l yX0_insert cX0_insert 4 4 93 0 0 D cy (wC cy a key val ord tk cp efi ela eco ene ldp dp dbl hlv spl mrg lfi lla lco lne lev ptr llo lhi lsp) [.ref (a 2), .int (nI (en))] (fun u => (∃ rows2, XR key u.2.2.2.2.1 u.2.2.2.2.2.1 u.1 u.2.1 u.2.2.1 u.2.2.2.1 rows2 (pS cp E (hs (key en) % 256) 9 (dep, dp, dbl, spl)).1 (E ++ [key en]) US2) ∧ (u.2.2.2.2.2.1, u.2.2.2.2.2.2.1, u.2.2.2.2.2.2.2) = (pS cp E (hs (key en) % 256) 9 (dep, dp, dbl, spl)).2) (fun u => (wC cy a key val ord tk cp u.1 u.2.1 u.2.2.1 u.2.2.2.1 u.2.2.2.2.1 u.2.2.2.2.2.1 u.2.2.2.2.2.2.1 hlv u.2.2.2.2.2.2.2 mrg lfi lla lco lne lev ptr llo lhi lsp)) := by
  refine tq_V.mk (by decide) (Nat.le_of_ble_eq_true rfl) ?_
  intro p e s m args below meth c A C hin hP hK hD hS hA ls hl
  obtain ⟨hx, hb, hml, hown, hrt, hlk, hT⟩ := id C
  have hl : lv_has ls 4 [(0, .ref (a 2)), (1, .int (nI (en)))] := hl
  have hkk := hkey en h1 h2
  refine lv_aload_n hx hb dX0_insert_0 rfl (lv_at hl 0 rfl) ?_
  refine tq_get (C0 := RX0) (T := TX0) (N := 8) (ci := 0) (k := 0) C gX0 inX0 rfl (by decide) rfl fl_X0_31 hK hP 2 rfl rfl dX0_insert_1 ?_
  refine lv_iload_n hx hb dX0_insert_4 rfl (lv_at hl 1 rfl) ?_
  refine tq_callF (va_runV C.fix (As := [.int (nI (en))]) (rest := []) (c_X3_keyOf l D cy (a 1) (a 4) (a 5) (a 6) key tk cp en h1 h2) (tq_cV (n := 1) C ml_X0_75 im_X3_keyOf se_X3_keyOf ini_X3 cd_X3_keyOf ⟨by decide, by decide, by decide +kernel⟩ ⟨Nat.le_of_ble_eq_true rfl, Nat.le_of_ble_eq_true rfl⟩) ⟨tq_Pf.blind, va_recv hK hP (ci := 3) (q0 := 1) rfl rfl, tq_preF C hK (hP.sub [1, 4] rfl)⟩ rfl rfl hl.1 rfl (lv_room (Nat.le_of_ble_eq_true rfl)) dX0_insert_5 ⟨Nat.le_of_ble_eq_true rfl, Nat.le_of_ble_eq_true rfl⟩) (fun r5 hr5 => ?_)
  obtain rfl := hr5
  refine lv_istore_n (lv' := [(2, .int (nI (key en))), (0, .ref (a 2)), (1, .int (nI (en)))]) hx hb dX0_insert_8 rfl hl (by decide) rfl (fun ls hl => ?_)
  refine lv_aload_n hx hb dX0_insert_9 rfl (lv_at hl 1 rfl) ?_
  refine lv_aload_n hx hb dX0_insert_10 rfl (lv_at hl 1 rfl) ?_
  refine lv_iload_n hx hb dX0_insert_11 rfl (lv_at hl 0 rfl) ?_
  refine tq_callF (va_runV C.fix (As := [.int (nI (key en))]) (rest := [.ref (a 2)]) (c_X0_slotFor l D cy a key val ord tk cp efi ela eco ene ldp dp dbl hlv spl mrg lfi lla lco lne lev ptr llo lhi lsp (key en) hXR.2.1.1 hkk) (tq_cV (n := 1) C ml_X0_66 im_X0_slotFor se_X0_slotFor ini_X0 cd_X0_slotFor ⟨by decide, by decide, by decide +kernel⟩ ⟨Nat.le_of_ble_eq_true rfl, Nat.le_of_ble_eq_true rfl⟩) ⟨tq_Pf.blind, va_recv hK hP (ci := 0) (q0 := 2) rfl rfl, tq_preF C hK hP⟩ rfl rfl hl.1 rfl (lv_room (Nat.le_of_ble_eq_true rfl)) dX0_insert_12 ⟨Nat.le_of_ble_eq_true rfl, Nat.le_of_ble_eq_true rfl⟩) (fun r12 hr12 => ?_)
  obtain rfl := hr12
  refine tq_callF (va_runV C.fix (As := [.int (nI (hs (key en) % 2 ^ dp))]) (rest := []) (c_X0_depthAt l D cy a key val ord tk cp efi ela eco ene ldp dp dbl hlv spl mrg lfi lla lco lne lev ptr llo lhi lsp (hs (key en) % 2 ^ dp) (m2 hXR.2.1.1)) (tq_cV (n := 1) C ml_X0_63 im_X0_depthAt se_X0_depthAt ini_X0 cd_X0_depthAt ⟨by decide, by decide, by decide +kernel⟩ ⟨Nat.le_of_ble_eq_true rfl, Nat.le_of_ble_eq_true rfl⟩) ⟨tq_Pf.blind, va_recv hK hP (ci := 0) (q0 := 2) rfl rfl, tq_preF C hK hP⟩ rfl rfl hl.1 rfl (lv_room (Nat.le_of_ble_eq_true rfl)) dX0_insert_15 ⟨Nat.le_of_ble_eq_true rfl, Nat.le_of_ble_eq_true rfl⟩) (fun r15 hr15 => ?_)
  obtain rfl := hr15
  refine tq_top (y := nI (dep (hs (key en) % 256))) (by rw [(hXR.at _).2]) ?_
  refine lv_istore_n (lv' := [(3, .int (nI (dep (hs (key en) % 256)))), (2, .int (nI (key en))), (0, .ref (a 2)), (1, .int (nI (en)))]) hx hb dX0_insert_18 rfl hl (by decide) rfl (fun ls hl => ?_)
  suffices hlp19 : ∀ (n19 : Nat) (k : Nat) (rows1 : Nat → List Nat) (dep1 : Nat → Nat) (efi1 : Nat → Nat) (ela1 : Nat → Nat) (eco1 : Nat → Nat) (ene1 : Nat → Nat) (ldp1 : Nat → Nat) (dp1 : Nat) (dbl1 : Int32) (spl1 : Int32), k < n19 → (9 ≤ k + dep1 (hs (key en) % 256)) → (XR key ldp1 dp1 efi1 ela1 eco1 ene1 rows1 dep1 E US) → (pS cp E (hs (key en) % 256) k (dep1, dp1, dbl1, spl1) = pS cp E (hs (key en) % 256) 9 (dep, dp, dbl, spl)) → ∀ (H : Heap) (locs : List Loc), va_P D vwCl (wC cy a key val ord tk cp efi1 ela1 eco1 ene1 ldp1 dp1 dbl1 hlv spl1 mrg lfi lla lco lne lev ptr llo lhi lsp) H → va_D A (wC cy a key val ord tk cp efi1 ela1 eco1 ene1 ldp1 dp1 dbl1 hlv spl1 mrg lfi lla lco lne lev ptr llo lhi lsp) → va_S A s.heap H locs → ∀ ls : Array Slot, lv_has ls 4 [(0, .ref (a 2)), (1, .int (nI (en))), (2, .int (nI (key en))), (3, .int (nI (dep1 (hs (key en) % 256))))] → W p l e ({ frames := 4, cells := 0, slots := 0, locals := 93 } : Room) s m args below meth c H locs 0 0 (MQ below (va_Qv (S := (Nat → Nat) × (Nat → Nat) × (Nat → Nat) × (Nat → Nat) × (Nat → Nat) × Nat × Int32 × Int32) (fun u => (∃ rows2, XR key u.2.2.2.2.1 u.2.2.2.2.2.1 u.1 u.2.1 u.2.2.1 u.2.2.2.1 rows2 (pS cp E (hs (key en) % 256) 9 (dep, dp, dbl, spl)).1 (E ++ [key en]) US2) ∧ (u.2.2.2.2.2.1, u.2.2.2.2.2.2.1, u.2.2.2.2.2.2.2) = (pS cp E (hs (key en) % 256) 9 (dep, dp, dbl, spl)).2) (tq_B D A (fun u => (wC cy a key val ord tk cp u.1 u.2.1 u.2.2.1 u.2.2.2.1 u.2.2.2.2.1 u.2.2.2.2.2.1 u.2.2.2.2.2.2.1 hlv u.2.2.2.2.2.2.2 mrg lfi lla lco lne lev ptr llo lhi lsp))) A) args s 0 0 A) (F0 m 19 ls []) from
    hlp19 10 9 rows dep efi ela eco ene ldp dp dbl spl (by omega) (Nat.le_add_right _ _) (hXR) (rfl) _ _ hP hD hS _ (lv_sub hl [2, 3, 1, 0] rfl)
  intro n19
  induction n19 with
  | zero => intro k rows1 dep1 efi1 ela1 eco1 ene1 ldp1 dp1 dbl1 spl1 hf; exact absurd hf (Nat.not_lt_zero _)
  | succ n19 ih19 =>
    intro k rows1 dep1 efi1 ela1 eco1 ene1 ldp1 dp1 dbl1 spl1 hf19 hk hX1 hres H locs hP hD hS ls hl
    have hrr : rowOf dep1 (key en) < 256 := by rw [← (hX1.at (key en)).1]; exact xrow_lt hX1.2.1.1
    have hd8 : dep1 (hs (key en) % 256) ≤ 8 := by have := hX1.2.1.2.1 _ (mod_lt256 (hs (key en))); have := hX1.2.1.1; omega
    have hcn : eco1 (rowOf dep1 (key en)) = cntB E (hs (key en) % 256) (dep1 (hs (key en) % 256)) := by rw [rowOf_x hd8]; exact hX1.cnt (mod_lt256 _)
    have hc9 := hX1.co_le hrr
    refine lv_iload_n hx hb dX0_insert_19 rfl (lv_at hl 3 rfl) ?_
    refine lv_bipush (v := nI 8) hx hb dX0_insert_20 (by decide) ?_
    refine tq_icmp_ge (tgt := 63) C (by omega) (by omega) dX0_insert_22 (by decide) (fun h22 => ?_) (fun h22 => ?_)
    · have hR9 := pS_end hres (Or.inl h22)
      refine lv_aload_n hx hb dX0_insert_63 rfl (lv_at hl 0 rfl) ?_
      refine tq_get (C0 := RX0) (T := TX0) (N := 8) (ci := 0) (k := 1) C gX0 inX0 rfl (by decide) rfl fl_X0_40 hK hP 2 rfl rfl dX0_insert_64 ?_
      refine lv_aload_n hx hb dX0_insert_67 rfl (lv_at hl 0 rfl) ?_
      refine lv_iload_n hx hb dX0_insert_68 rfl (lv_at hl 2 rfl) ?_
      refine tq_callF (va_runV C.fix (As := [.int (nI (key en))]) (rest := [.ref (a 7)]) (c_X0_rowFor l D cy a key val ord tk cp efi1 ela1 eco1 ene1 ldp1 dp1 dbl1 hlv spl1 mrg lfi lla lco lne lev ptr llo lhi lsp (key en) hX1.2.1.1 hX1.2.2.2.1 hkk) (tq_cV (n := 1) C ml_X0_69 im_X0_rowFor se_X0_rowFor ini_X0 cd_X0_rowFor ⟨by decide, by decide, by decide +kernel⟩ ⟨Nat.le_of_ble_eq_true rfl, Nat.le_of_ble_eq_true rfl⟩) ⟨tq_Pf.blind, va_recv hK hP (ci := 0) (q0 := 2) rfl rfl, tq_preF C hK hP⟩ rfl rfl hl.1 rfl (lv_room (Nat.le_of_ble_eq_true rfl)) dX0_insert_69 ⟨Nat.le_of_ble_eq_true rfl, Nat.le_of_ble_eq_true rfl⟩) (fun r69 hr69 => ?_)
      obtain rfl := hr69
      refine tq_top (y := nI (rowOf dep1 (key en))) (by rw [(hX1.at _).1]) ?_
      refine lv_iload_n hx hb dX0_insert_72 rfl (lv_at hl 1 rfl) ?_
      refine tq_callV (W3 := fun u => (wC cy a key val ord tk cp u.1 u.2.1 u.2.2.1 u.2.2.2 ldp1 dp1 dbl1 hlv spl1 mrg lfi lla lco lne lev ptr llo lhi lsp)) (wr := [0, 2, 3, 5, 6, 8, 9, 14, 15, 16, 17].filterMap (fun i => (wC cy a key val ord tk cp efi1 ela1 eco1 ene1 ldp1 dp1 dbl1 hlv spl1 mrg lfi lla lco lne lev ptr llo lhi lsp)[i]?)) (va_runV C.fix (As := [.int (nI (rowOf dep1 (key en))), .int (nI (en))]) (rest := []) ((c_X2_append l D cy (a 7) (a 10) (a 11) (a 12) (a 13) (a 1) (a 4) (a 5) (a 6) efi1 ela1 eco1 ene1 key tk cp (rowOf dep1 (key en)) en rows1 hX1.1 hrr h1 h2 (fun r hr hm => hnU (hX1.2.2.2.2.2 r hr en hm))) H.size) (tq_cV (n := 2) C ml_X0_90 im_X2_append se_X2_append ini_X2 cd_X2_append ⟨by decide, by decide, by decide +kernel⟩ ⟨Nat.le_of_ble_eq_true rfl, Nat.le_of_ble_eq_true rfl⟩) ⟨tq_Pc.blind, va_recv hK hP (ci := 2) (q0 := 7) rfl rfl, tq_preC C hK (hP.sub [7, 10, 11, 12, 13, 1, 4] rfl) (hD.sub [7, 10, 11, 12, 13, 1, 4] (by decide) rfl)⟩ rfl rfl hl.1 rfl (lv_room (Nat.le_of_ble_eq_true rfl)) dX0_insert_73 ⟨Nat.le_of_ble_eq_true rfl, Nat.le_of_ble_eq_true rfl⟩) hP hD hS hA [7, 10, 11, 12, 13, 1, 4] [0, 2, 3, 5, 6, 8, 9, 14, 15, 16, 17] [0, 16, 1, 2, 17, 3, 4, 11, 5, 6, 12, 13, 14, 15, 7, 8, 9, 10] rfl rfl (by decide) (by decide) (by decide) (fun _ => rfl) (fun u73 H locs hr73 hP hD hS => ?_)
      obtain ⟨efi3, ela3, eco3, ene3⟩ := u73
      try dsimp only at hr73
      have hP : va_P D vwCl (wC cy a key val ord tk cp efi3 ela3 eco3 ene3 ldp1 dp1 dbl1 hlv spl1 mrg lfi lla lco lne lev ptr llo lhi lsp) H := hP
      have hD : va_D A (wC cy a key val ord tk cp efi3 ela3 eco3 ene3 ldp1 dp1 dbl1 hlv spl1 mrg lfi lla lco lne lev ptr llo lhi lsp) := hD
      exact tq_vret C (efi3, ela3, eco3, ene3, ldp1, dp1, dbl1, spl1) hP hD hS (⟨⟨_, by rw [← hR9]; exact hX1.add hr73.1 hU1 hU2⟩, by rw [← hR9]⟩) (Nat.le_of_ble_eq_true rfl) (Nat.le_of_ble_eq_true rfl) dX0_insert_76
    · refine lv_aload_n hx hb dX0_insert_25 rfl (lv_at hl 0 rfl) ?_
      refine tq_get (C0 := RX0) (T := TX0) (N := 8) (ci := 0) (k := 1) C gX0 inX0 rfl (by decide) rfl fl_X0_40 hK hP 2 rfl rfl dX0_insert_26 ?_
      refine lv_aload_n hx hb dX0_insert_29 rfl (lv_at hl 0 rfl) ?_
      refine lv_iload_n hx hb dX0_insert_30 rfl (lv_at hl 2 rfl) ?_
      refine tq_callF (va_runV C.fix (As := [.int (nI (key en))]) (rest := [.ref (a 7)]) (c_X0_rowFor l D cy a key val ord tk cp efi1 ela1 eco1 ene1 ldp1 dp1 dbl1 hlv spl1 mrg lfi lla lco lne lev ptr llo lhi lsp (key en) hX1.2.1.1 hX1.2.2.2.1 hkk) (tq_cV (n := 1) C ml_X0_69 im_X0_rowFor se_X0_rowFor ini_X0 cd_X0_rowFor ⟨by decide, by decide, by decide +kernel⟩ ⟨Nat.le_of_ble_eq_true rfl, Nat.le_of_ble_eq_true rfl⟩) ⟨tq_Pf.blind, va_recv hK hP (ci := 0) (q0 := 2) rfl rfl, tq_preF C hK hP⟩ rfl rfl hl.1 rfl (lv_room (Nat.le_of_ble_eq_true rfl)) dX0_insert_31 ⟨Nat.le_of_ble_eq_true rfl, Nat.le_of_ble_eq_true rfl⟩) (fun r31 hr31 => ?_)
      obtain rfl := hr31
      refine tq_top (y := nI (rowOf dep1 (key en))) (by rw [(hX1.at _).1]) ?_
      refine tq_callF (va_runV C.fix (As := [.int (nI (rowOf dep1 (key en)))]) (rest := []) (c_X2_count l D cy (a 7) (a 10) (a 11) (a 12) (a 13) (a 1) (a 4) (a 5) (a 6) efi1 ela1 eco1 ene1 key tk cp (rowOf dep1 (key en)) hrr) (tq_cV (n := 1) C ml_X0_80 im_X2_count se_X2_count ini_X2 cd_X2_count ⟨by decide, by decide, by decide +kernel⟩ ⟨Nat.le_of_ble_eq_true rfl, Nat.le_of_ble_eq_true rfl⟩) ⟨tq_Pf.blind, va_recv hK hP (ci := 2) (q0 := 7) rfl rfl, tq_preF C hK (hP.sub [7, 10, 11, 12, 13, 1, 4] rfl)⟩ rfl rfl hl.1 rfl (lv_room (Nat.le_of_ble_eq_true rfl)) dX0_insert_34 ⟨Nat.le_of_ble_eq_true rfl, Nat.le_of_ble_eq_true rfl⟩) (fun r34 hr34 => ?_)
      obtain rfl := hr34
      refine lv_aload_n hx hb dX0_insert_37 rfl (lv_at hl 0 rfl) ?_
      refine tq_get (C0 := RX0) (T := TX0) (N := 8) (ci := 0) (k := 0) C gX0 inX0 rfl (by decide) rfl fl_X0_31 hK hP 2 rfl rfl dX0_insert_38 ?_
      refine tq_getN (C0 := RX3) (T := TX3) (N := 5) (ci := 3) (k := 4) C gX3 inX3 rfl (by decide) rfl fn_X0_83 hK hP 1 rfl rfl dX0_insert_41 ?_
      refine tq_icmp_lt (tgt := 63) C (by omega) (by omega) dX0_insert_44 (by decide) (fun h44 => ?_) (fun h44 => ?_)
      · have hR9 := pS_end hres (Or.inr (by rw [← hcn]; exact h44))
        refine lv_aload_n hx hb dX0_insert_63 rfl (lv_at hl 0 rfl) ?_
        refine tq_get (C0 := RX0) (T := TX0) (N := 8) (ci := 0) (k := 1) C gX0 inX0 rfl (by decide) rfl fl_X0_40 hK hP 2 rfl rfl dX0_insert_64 ?_
        refine lv_aload_n hx hb dX0_insert_67 rfl (lv_at hl 0 rfl) ?_
        refine lv_iload_n hx hb dX0_insert_68 rfl (lv_at hl 2 rfl) ?_
        refine tq_callF (va_runV C.fix (As := [.int (nI (key en))]) (rest := [.ref (a 7)]) (c_X0_rowFor l D cy a key val ord tk cp efi1 ela1 eco1 ene1 ldp1 dp1 dbl1 hlv spl1 mrg lfi lla lco lne lev ptr llo lhi lsp (key en) hX1.2.1.1 hX1.2.2.2.1 hkk) (tq_cV (n := 1) C ml_X0_69 im_X0_rowFor se_X0_rowFor ini_X0 cd_X0_rowFor ⟨by decide, by decide, by decide +kernel⟩ ⟨Nat.le_of_ble_eq_true rfl, Nat.le_of_ble_eq_true rfl⟩) ⟨tq_Pf.blind, va_recv hK hP (ci := 0) (q0 := 2) rfl rfl, tq_preF C hK hP⟩ rfl rfl hl.1 rfl (lv_room (Nat.le_of_ble_eq_true rfl)) dX0_insert_69 ⟨Nat.le_of_ble_eq_true rfl, Nat.le_of_ble_eq_true rfl⟩) (fun r69 hr69 => ?_)
        obtain rfl := hr69
        refine tq_top (y := nI (rowOf dep1 (key en))) (by rw [(hX1.at _).1]) ?_
        refine lv_iload_n hx hb dX0_insert_72 rfl (lv_at hl 1 rfl) ?_
        refine tq_callV (W3 := fun u => (wC cy a key val ord tk cp u.1 u.2.1 u.2.2.1 u.2.2.2 ldp1 dp1 dbl1 hlv spl1 mrg lfi lla lco lne lev ptr llo lhi lsp)) (wr := [0, 2, 3, 5, 6, 8, 9, 14, 15, 16, 17].filterMap (fun i => (wC cy a key val ord tk cp efi1 ela1 eco1 ene1 ldp1 dp1 dbl1 hlv spl1 mrg lfi lla lco lne lev ptr llo lhi lsp)[i]?)) (va_runV C.fix (As := [.int (nI (rowOf dep1 (key en))), .int (nI (en))]) (rest := []) ((c_X2_append l D cy (a 7) (a 10) (a 11) (a 12) (a 13) (a 1) (a 4) (a 5) (a 6) efi1 ela1 eco1 ene1 key tk cp (rowOf dep1 (key en)) en rows1 hX1.1 hrr h1 h2 (fun r hr hm => hnU (hX1.2.2.2.2.2 r hr en hm))) H.size) (tq_cV (n := 2) C ml_X0_90 im_X2_append se_X2_append ini_X2 cd_X2_append ⟨by decide, by decide, by decide +kernel⟩ ⟨Nat.le_of_ble_eq_true rfl, Nat.le_of_ble_eq_true rfl⟩) ⟨tq_Pc.blind, va_recv hK hP (ci := 2) (q0 := 7) rfl rfl, tq_preC C hK (hP.sub [7, 10, 11, 12, 13, 1, 4] rfl) (hD.sub [7, 10, 11, 12, 13, 1, 4] (by decide) rfl)⟩ rfl rfl hl.1 rfl (lv_room (Nat.le_of_ble_eq_true rfl)) dX0_insert_73 ⟨Nat.le_of_ble_eq_true rfl, Nat.le_of_ble_eq_true rfl⟩) hP hD hS hA [7, 10, 11, 12, 13, 1, 4] [0, 2, 3, 5, 6, 8, 9, 14, 15, 16, 17] [0, 16, 1, 2, 17, 3, 4, 11, 5, 6, 12, 13, 14, 15, 7, 8, 9, 10] rfl rfl (by decide) (by decide) (by decide) (fun _ => rfl) (fun u73 H locs hr73 hP hD hS => ?_)
        obtain ⟨efi3, ela3, eco3, ene3⟩ := u73
        try dsimp only at hr73
        have hP : va_P D vwCl (wC cy a key val ord tk cp efi3 ela3 eco3 ene3 ldp1 dp1 dbl1 hlv spl1 mrg lfi lla lco lne lev ptr llo lhi lsp) H := hP
        have hD : va_D A (wC cy a key val ord tk cp efi3 ela3 eco3 ene3 ldp1 dp1 dbl1 hlv spl1 mrg lfi lla lco lne lev ptr llo lhi lsp) := hD
        exact tq_vret C (efi3, ela3, eco3, ene3, ldp1, dp1, dbl1, spl1) hP hD hS (⟨⟨_, by rw [← hR9]; exact hX1.add hr73.1 hU1 hU2⟩, by rw [← hR9]⟩) (Nat.le_of_ble_eq_true rfl) (Nat.le_of_ble_eq_true rfl) dX0_insert_76
      · refine lv_aload_n hx hb dX0_insert_47 rfl (lv_at hl 0 rfl) ?_
        refine lv_aload_n hx hb dX0_insert_48 rfl (lv_at hl 0 rfl) ?_
        refine lv_iload_n hx hb dX0_insert_49 rfl (lv_at hl 2 rfl) ?_
        refine tq_callF (va_runV C.fix (As := [.int (nI (key en))]) (rest := [.ref (a 2)]) (c_X0_rowFor l D cy a key val ord tk cp efi1 ela1 eco1 ene1 ldp1 dp1 dbl1 hlv spl1 mrg lfi lla lco lne lev ptr llo lhi lsp (key en) hX1.2.1.1 hX1.2.2.2.1 hkk) (tq_cV (n := 1) C ml_X0_69 im_X0_rowFor se_X0_rowFor ini_X0 cd_X0_rowFor ⟨by decide, by decide, by decide +kernel⟩ ⟨Nat.le_of_ble_eq_true rfl, Nat.le_of_ble_eq_true rfl⟩) ⟨tq_Pf.blind, va_recv hK hP (ci := 0) (q0 := 2) rfl rfl, tq_preF C hK hP⟩ rfl rfl hl.1 rfl (lv_room (Nat.le_of_ble_eq_true rfl)) dX0_insert_50 ⟨Nat.le_of_ble_eq_true rfl, Nat.le_of_ble_eq_true rfl⟩) (fun r50 hr50 => ?_)
        obtain rfl := hr50
        refine tq_top (y := nI (rowOf dep1 (key en))) (by rw [(hX1.at _).1]) ?_
        refine lv_iload_n hx hb dX0_insert_53 rfl (lv_at hl 3 rfl) ?_
        refine tq_callV (W3 := fun u => (wC cy a key val ord tk cp u.1 u.2.1 u.2.2.1 u.2.2.2.1 u.2.2.2.2.1 u.2.2.2.2.2.1 u.2.2.2.2.2.2 hlv (spl1 + nI 1) mrg lfi lla lco lne lev ptr llo lhi lsp)) (wr := []) (va_runV C.fix (As := [.int (nI (rowOf dep1 (key en))), .int (nI (dep1 (hs (key en) % 256)))]) (rest := []) ((c_X0_splitBucket l D cy a key val ord tk cp efi1 ela1 eco1 ene1 ldp1 dp1 dbl1 hlv spl1 mrg lfi lla lco lne lev ptr llo lhi lsp (rowOf dep1 (key en)) (dep1 (hs (key en) % 256)) rows1 dep1 E US hX1 hkey (hs (key en) % 256) (mod_lt256 _) (rowOf_x hd8) rfl h22) H.size) (tq_cV (n := 2) C ml_X0_86 im_X0_splitBucket se_X0_splitBucket ini_X0 cd_X0_splitBucket ⟨by decide, by decide, by decide +kernel⟩ ⟨Nat.le_of_ble_eq_true rfl, Nat.le_of_ble_eq_true rfl⟩) ⟨tq_Pc.blind, va_recv hK hP (ci := 0) (q0 := 2) rfl rfl, tq_preC C hK hP hD⟩ rfl rfl hl.1 rfl (lv_room (Nat.le_of_ble_eq_true rfl)) dX0_insert_54 ⟨Nat.le_of_ble_eq_true rfl, Nat.le_of_ble_eq_true rfl⟩) hP hD hS hA [0, 1, 2, 3, 4, 5, 6, 7, 8, 9, 10, 11, 12, 13, 14, 15, 16, 17] [] [0, 1, 2, 3, 4, 5, 6, 7, 8, 9, 10, 11, 12, 13, 14, 15, 16, 17] rfl rfl (by decide) (by decide) (by decide) (fun _ => rfl) (fun u54 H locs hr54 hP hD hS => ?_)
        obtain ⟨efi2, ela2, eco2, ene2, ldp2, dp2, dbl2⟩ := u54
        try dsimp only at hr54
        have hP : va_P D vwCl (wC cy a key val ord tk cp efi2 ela2 eco2 ene2 ldp2 dp2 dbl2 hlv (spl1 + nI 1) mrg lfi lla lco lne lev ptr llo lhi lsp) H := hP
        have hD : va_D A (wC cy a key val ord tk cp efi2 ela2 eco2 ene2 ldp2 dp2 dbl2 hlv (spl1 + nI 1) mrg lfi lla lco lne lev ptr llo lhi lsp) := hD
        obtain ⟨⟨rows2, hX2⟩, hdp2, hdbl2⟩ := hr54
        refine lv_iinc (v := (nI ((dep1 (hs (key en) % 256)) + 1))) (lv' := [(3, .int (nI ((dep1 (hs (key en) % 256)) + 1))), (0, .ref (a 2)), (1, .int (nI (en))), (2, .int (nI (key en)))]) hx hb dX0_insert_57 hl (k := 3) rfl (tq_inc1 _) (by decide) rfl (fun ls hl => ?_)
        refine lv_goto (tgt := 19) hx hb dX0_insert_60 (by decide) ?_
        rw [show dep1 (hs (key en) % 256) + 1 = deepen dep1 (hs (key en) % 256) (dep1 (hs (key en) % 256)) (dep1 (hs (key en) % 256) + 1) (hs (key en) % 256) from (if_pos rfl).symm] at hl
        have hd9 : deepen dep1 (hs (key en) % 256) (dep1 (hs (key en) % 256)) (dep1 (hs (key en) % 256) + 1) (hs (key en) % 256) = dep1 (hs (key en) % 256) + 1 := if_pos rfl
        exact ih19 (k - 1) rows2 (deepen dep1 (hs (key en) % 256) (dep1 (hs (key en) % 256)) (dep1 (hs (key en) % 256) + 1)) efi2 ela2 eco2 ene2 ldp2 dp2 dbl2 (spl1 + nI 1) (by omega) (by omega) (hX2) (by rw [hdp2, hdbl2]; exact pS_go hres (by omega) h22 (by rw [← hcn]; exact h44)) _ _ hP hD hS _ (lv_sub hl [1, 2, 3, 0] rfl)
set_option maxHeartbeats 4000000 in
set_option maxRecDepth 100000 in
theorem c_X0_mergeBuckets (l : Launch) (D : va_G) (cy : ClassId) (a : Nat → Nat) (key : Nat → Nat) (val : Nat → Nat) (ord : Nat → Nat) (tk : Nat) (cp : Nat) (efi : Nat → Nat) (ela : Nat → Nat) (eco : Nat → Nat) (ene : Nat → Nat) (ldp : Nat → Nat) (dp : Nat) (dbl : Int32) (hlv : Int32) (spl : Int32) (mrg : Int32) (lfi : Nat → Nat) (lla : Nat → Nat) (lco : Nat → Nat) (lne : Nat → Nat) (lev : Nat) (ptr : Nat) (llo : Nat) (lhi : Nat) (lsp : Int32) (row : Nat) (lc : Nat) (rows : Nat → List Nat) (dep : Nat → Nat) (E : List Nat) (US : Nat → Prop) (hXR : XR key ldp dp efi ela eco ene rows dep E US) (hkey : ∀ e, 1 ≤ e → e ≤ 120 → key e < 65536) (xx : Nat) (hxx : xx < 256) (hlc : dep xx = lc + 1) (hbud : dep (xx ^^^ 2 ^ lc) = lc + 1) (hrow : row = xx % 2 ^ lc) : tq_V (S := (Nat → Nat) × (Nat → Nat) × (Nat → Nat) × (Nat → Nat) × (Nat → Nat)) l yX0_mergeBuckets cX0_mergeBuckets 3 4 93 0 0 D cy (wC cy a key val ord tk cp efi ela eco ene ldp dp dbl hlv spl mrg lfi lla lco lne lev ptr llo lhi lsp) [.ref (a 2), .int (nI (row)), .int (nI (lc))] (fun u => ∃ rows2, XR key u.2.2.2.2 dp u.1 u.2.1 u.2.2.1 u.2.2.2.1 rows2 (deepen dep xx lc lc) (mvB E (xx ||| 2 ^ lc) (lc + 1)) US) (fun u => (wC cy a key val ord tk cp u.1 u.2.1 u.2.2.1 u.2.2.2.1 u.2.2.2.2 dp dbl hlv spl (mrg + nI 1) lfi lla lco lne lev ptr llo lhi lsp)) := by
  refine tq_V.mk (by decide) (Nat.le_of_ble_eq_true rfl) ?_
  intro p e s m args below meth c A C hin hP hK hD hS hA ls hl
  obtain ⟨hx, hb, hml, hown, hrt, hlk, hT⟩ := id C
  have hl : lv_has ls 3 [(0, .ref (a 2)), (1, .int (nI (row))), (2, .int (nI (lc)))] := hl
  have hdp9 := hXR.2.1.1
  have hdd9 := hXR.2.1.2.1 xx hxx
  have hpl := p7 (dp := lc) (by omega)
  have hrl : row < 2 ^ lc := by rw [hrow]; exact Nat.mod_lt _ (Nat.two_pow_pos _)
  obtain ⟨y0, y1, a0, a1, b0, b1, c0, c1⟩ := two_of hxx (by omega) hlc hbud
  refine lv_aload_n hx hb dX0_mergeBuckets_0 rfl (lv_at hl 0 rfl) ?_
  refine lv_iload_n hx hb dX0_mergeBuckets_1 rfl (lv_at hl 1 rfl) ?_
  refine lv_iload_n hx hb dX0_mergeBuckets_2 rfl (lv_at hl 2 rfl) ?_
  refine lv_iload_n hx hb dX0_mergeBuckets_3 rfl (lv_at hl 2 rfl) ?_
  refine tq_callV (W3 := fun u => (wC cy a key val ord tk cp efi ela eco ene u dp dbl hlv spl mrg lfi lla lco lne lev ptr llo lhi lsp)) (wr := []) (va_runV C.fix (As := [.int (nI (row)), .int (nI (lc)), .int (nI (lc))]) (rest := []) ((c_X0_setDepths l D cy a key val ord tk cp efi ela eco ene ldp dp dbl hlv spl mrg lfi lla lco lne lev ptr llo lhi lsp row lc lc hdp9 (Nat.lt_of_lt_of_le hrl (p2_le (by omega))) (by omega)) s.heap.size) (tq_cV (n := 3) C ml_X0_114 im_X0_setDepths se_X0_setDepths ini_X0 cd_X0_setDepths ⟨by decide, by decide, by decide +kernel⟩ ⟨Nat.le_of_ble_eq_true rfl, Nat.le_of_ble_eq_true rfl⟩) ⟨tq_Pc.blind, va_recv hK hP (ci := 0) (q0 := 2) rfl rfl, tq_preC C hK hP hD⟩ rfl rfl hl.1 rfl (lv_room (Nat.le_of_ble_eq_true rfl)) dX0_mergeBuckets_4 ⟨Nat.le_of_ble_eq_true rfl, Nat.le_of_ble_eq_true rfl⟩) hP hD hS hA [0, 1, 2, 3, 4, 5, 6, 7, 8, 9, 10, 11, 12, 13, 14, 15, 16, 17] [] [0, 1, 2, 3, 4, 5, 6, 7, 8, 9, 10, 11, 12, 13, 14, 15, 16, 17] rfl rfl (by decide) (by decide) (by decide) (fun _ => rfl) (fun u4 H locs hr4 hP hD hS => ?_)
  obtain ⟨ldp4, rfl⟩ : ∃ z, z = u4 := ⟨_, rfl⟩
  try dsimp only at hr4
  have hP : va_P D vwCl (wC cy a key val ord tk cp efi ela eco ene ldp4 dp dbl hlv spl mrg lfi lla lco lne lev ptr llo lhi lsp) H := hP
  have hD : va_D A (wC cy a key val ord tk cp efi ela eco ene ldp4 dp dbl hlv spl mrg lfi lla lco lne lev ptr llo lhi lsp) := hD
  refine lv_aload_n hx hb dX0_mergeBuckets_7 rfl (lv_at hl 0 rfl) ?_
  refine tq_get (C0 := RX0) (T := TX0) (N := 8) (ci := 0) (k := 1) C gX0 inX0 rfl (by decide) rfl fl_X0_40 hK hP 2 rfl rfl dX0_mergeBuckets_8 ?_
  refine lv_iload_n hx hb dX0_mergeBuckets_11 rfl (lv_at hl 1 rfl) ?_
  refine lv_iconst (v := nI 1) hx hb dX0_mergeBuckets_12 (by decide) ?_
  refine lv_iload_n hx hb dX0_mergeBuckets_13 rfl (lv_at hl 2 rfl) ?_
  refine tq_ishl C (by omega) (by omega) dX0_mergeBuckets_14 ?_
  refine tq_top (y := nI (2 ^ lc)) (by rw [Nat.one_mul]) ?_
  refine tq_iadd C dX0_mergeBuckets_15 ?_
  refine lv_iload_n hx hb dX0_mergeBuckets_16 rfl (lv_at hl 1 rfl) ?_
  refine tq_callV (W3 := fun u => (wC cy a key val ord tk cp u.1 u.2.1 u.2.2.1 u.2.2.2 ldp4 dp dbl hlv spl mrg lfi lla lco lne lev ptr llo lhi lsp)) (wr := [0, 2, 3, 5, 6, 8, 9, 14, 15, 16, 17].filterMap (fun i => (wC cy a key val ord tk cp efi ela eco ene ldp4 dp dbl hlv spl mrg lfi lla lco lne lev ptr llo lhi lsp)[i]?)) (va_runV C.fix (As := [.int (nI (row + (2 ^ lc))), .int (nI (row))]) (rest := []) ((c_X2_pour l D cy (a 7) (a 10) (a 11) (a 12) (a 13) (a 1) (a 4) (a 5) (a 6) efi ela eco ene key tk cp (row + (2 ^ lc)) row rows hXR.1 hkey (by omega) (by omega)) H.size) (tq_cV (n := 2) C ml_X0_125 im_X2_pour se_X2_pour ini_X2 cd_X2_pour ⟨by decide, by decide, by decide +kernel⟩ ⟨Nat.le_of_ble_eq_true rfl, Nat.le_of_ble_eq_true rfl⟩) ⟨tq_Pc.blind, va_recv hK hP (ci := 2) (q0 := 7) rfl rfl, tq_preC C hK (hP.sub [7, 10, 11, 12, 13, 1, 4] rfl) (hD.sub [7, 10, 11, 12, 13, 1, 4] (by decide) rfl)⟩ rfl rfl hl.1 rfl (lv_room (Nat.le_of_ble_eq_true rfl)) dX0_mergeBuckets_17 ⟨Nat.le_of_ble_eq_true rfl, Nat.le_of_ble_eq_true rfl⟩) hP hD hS hA [7, 10, 11, 12, 13, 1, 4] [0, 2, 3, 5, 6, 8, 9, 14, 15, 16, 17] [0, 16, 1, 2, 17, 3, 4, 11, 5, 6, 12, 13, 14, 15, 7, 8, 9, 10] rfl rfl (by decide) (by decide) (by decide) (fun _ => rfl) (fun u17 H locs hr17 hP hD hS => ?_)
  obtain ⟨efi2, ela2, eco2, ene2⟩ := u17
  try dsimp only at hr17
  have hP : va_P D vwCl (wC cy a key val ord tk cp efi2 ela2 eco2 ene2 ldp4 dp dbl hlv spl mrg lfi lla lco lne lev ptr llo lhi lsp) H := hP
  have hD : va_D A (wC cy a key val ord tk cp efi2 ela2 eco2 ene2 ldp4 dp dbl hlv spl mrg lfi lla lco lne lev ptr llo lhi lsp) := hD
  refine lv_aload_n hx hb dX0_mergeBuckets_20 rfl (lv_at hl 0 rfl) ?_
  refine lv_dup hx hb dX0_mergeBuckets_21 rfl ?_
  refine tq_get (C0 := RX0) (T := TX0) (N := 8) (ci := 0) (k := 7) C gX0 inX0 rfl (by decide) rfl fl_X0_28 hK hP 2 rfl rfl dX0_mergeBuckets_22 ?_
  refine lv_iconst (v := nI 1) hx hb dX0_mergeBuckets_25 (by decide) ?_
  refine lv_iadd hx hb dX0_mergeBuckets_26 ?_
  refine tq_put (v := .int (mrg + nI 1)) (C0 := RX0) (T := TX0) (N := 8) (ci := 0) (k := 7) (ty := .int) C gX0 inX0 tyX0_ok nmX0 rfl (by decide) rfl fl_X0_28 rfl (by decide +kernel) hK hP hD hS 2 rfl rfl rfl (Nat.le_of_ble_eq_true rfl) dX0_mergeBuckets_27 (fun H locs hP hD hS => ?_)
  have hP : va_P D vwCl (wC cy a key val ord tk cp efi2 ela2 eco2 ene2 ldp4 dp dbl hlv spl (mrg + nI 1) lfi lla lco lne lev ptr llo lhi lsp) H := hP
  have hD : va_D A (wC cy a key val ord tk cp efi2 ela2 eco2 ene2 ldp4 dp dbl hlv spl (mrg + nI 1) lfi lla lco lne lev ptr llo lhi lsp) := hD
  exact tq_vret C (efi2, ela2, eco2, ene2, ldp4) hP hD hS (⟨_, hXR.merge a0 a1 b0 b1 c0 c1 (or_p2 _ _) (fun q => (hr4 q).trans (by rw [hrow])) hr17 (fun r _ => by rw [hrow])⟩) (Nat.le_of_ble_eq_true rfl) (Nat.le_of_ble_eq_true rfl) dX0_mergeBuckets_30
set_option maxHeartbeats 4000000 in
set_option maxRecDepth 100000 in
theorem c_X0_delete (l : Launch) (D : va_G) (cy : ClassId) (a : Nat → Nat) (key : Nat → Nat) (val : Nat → Nat) (ord : Nat → Nat) (tk : Nat) (cp : Nat) (efi : Nat → Nat) (ela : Nat → Nat) (eco : Nat → Nat) (ene : Nat → Nat) (ldp : Nat → Nat) (dp : Nat) (dbl : Int32) (hlv : Int32) (spl : Int32) (mrg : Int32) (lfi : Nat → Nat) (lla : Nat → Nat) (lco : Nat → Nat) (lne : Nat → Nat) (lev : Nat) (ptr : Nat) (llo : Nat) (lhi : Nat) (lsp : Int32) (en : Nat) (rows : Nat → List Nat) (dep : Nat → Nat) (E : List Nat) (US : Nat → Prop) (hXR : XR key ldp dp efi ela eco ene rows dep E US) (hkey : ∀ e, 1 ≤ e → e ≤ 120 → key e < 65536) (US2 : Nat → Prop) (h1 : 1 ≤ en) (h2 : en ≤ 120) (hUen : US en) (hinj : ∀ e f, US e → US f → key e = key f → e = f) (hU : ∀ e, US e → e ≠ en → US2 e) (hin9 : en ∈ rows (rowOf dep (key en))) (hcp2 : cp ≤ 5) : tq_V (S := (Nat → Nat) × (Nat → Nat) × (Nat → Nat) × (Nat → Nat) × (Nat → Nat) × Nat × Int32 × Int32) l yX0_delete cX0_delete 4 5 115 0 0 D cy (wC cy a key val ord tk cp efi ela eco ene ldp dp dbl hlv spl mrg lfi lla lco lne lev ptr llo lhi lsp) [.ref (a 2), .int (nI (en))] (fun u => (∃ rows2, XR key u.2.2.2.2.1 u.2.2.2.2.2.1 u.1 u.2.1 u.2.2.1 u.2.2.2.1 rows2 (mS cp (hs (key en) % 256) 9 (dep, E.filter (· != key en), mrg)).1 (mS cp (hs (key en) % 256) 9 (dep, E.filter (· != key en), mrg)).2.1 US2) ∧ u.2.2.2.2.2.1 = mx (mS cp (hs (key en) % 256) 9 (dep, E.filter (· != key en), mrg)).1 256 ∧ u.2.2.2.2.2.2.2 = (mS cp (hs (key en) % 256) 9 (dep, E.filter (· != key en), mrg)).2.2 ∧ u.2.2.2.2.2.2.1 = hlv + nI (dp - mx (mS cp (hs (key en) % 256) 9 (dep, E.filter (· != key en), mrg)).1 256)) (fun u => (wC cy a key val ord tk cp u.1 u.2.1 u.2.2.1 u.2.2.2.1 u.2.2.2.2.1 u.2.2.2.2.2.1 dbl u.2.2.2.2.2.2.1 spl u.2.2.2.2.2.2.2 lfi lla lco lne lev ptr llo lhi lsp)) := by
  refine tq_V.mk (by decide) (Nat.le_of_ble_eq_true rfl) ?_
  intro p e s m args below meth c A C hin hP hK hD hS hA ls hl
  obtain ⟨hx, hb, hml, hown, hrt, hlk, hT⟩ := id C
  have hl : lv_has ls 4 [(0, .ref (a 2)), (1, .int (nI (en)))] := hl
  have hkk := hkey en h1 h2
  have hrr0 : rowOf dep (key en) < 256 := by rw [← (hXR.at (key en)).1]; exact xrow_lt hXR.2.1.1
  obtain ⟨P, Q, hL, hPn, hQn, hff⟩ := hXR.1.split hrr0 hin9
  refine lv_aload_n hx hb dX0_delete_0 rfl (lv_at hl 0 rfl) ?_
  refine tq_get (C0 := RX0) (T := TX0) (N := 8) (ci := 0) (k := 0) C gX0 inX0 rfl (by decide) rfl fl_X0_31 hK hP 2 rfl rfl dX0_delete_1 ?_
  refine lv_iload_n hx hb dX0_delete_4 rfl (lv_at hl 1 rfl) ?_
  refine tq_callF (va_runV C.fix (As := [.int (nI (en))]) (rest := []) (c_X3_keyOf l D cy (a 1) (a 4) (a 5) (a 6) key tk cp en h1 h2) (tq_cV (n := 1) C ml_X0_75 im_X3_keyOf se_X3_keyOf ini_X3 cd_X3_keyOf ⟨by decide, by decide, by decide +kernel⟩ ⟨Nat.le_of_ble_eq_true rfl, Nat.le_of_ble_eq_true rfl⟩) ⟨tq_Pf.blind, va_recv hK hP (ci := 3) (q0 := 1) rfl rfl, tq_preF C hK (hP.sub [1, 4] rfl)⟩ rfl rfl hl.1 rfl (lv_room (Nat.le_of_ble_eq_true rfl)) dX0_delete_5 ⟨Nat.le_of_ble_eq_true rfl, Nat.le_of_ble_eq_true rfl⟩) (fun r5 hr5 => ?_)
  obtain rfl := hr5
  refine lv_istore_n (lv' := [(2, .int (nI (key en))), (0, .ref (a 2)), (1, .int (nI (en)))]) hx hb dX0_delete_8 rfl hl (by decide) rfl (fun ls hl => ?_)
  refine lv_aload_n hx hb dX0_delete_9 rfl (lv_at hl 1 rfl) ?_
  refine tq_get (C0 := RX0) (T := TX0) (N := 8) (ci := 0) (k := 1) C gX0 inX0 rfl (by decide) rfl fl_X0_40 hK hP 2 rfl rfl dX0_delete_10 ?_
  refine lv_aload_n hx hb dX0_delete_13 rfl (lv_at hl 1 rfl) ?_
  refine lv_iload_n hx hb dX0_delete_14 rfl (lv_at hl 0 rfl) ?_
  refine tq_callF (va_runV C.fix (As := [.int (nI (key en))]) (rest := [.ref (a 7)]) (c_X0_rowFor l D cy a key val ord tk cp efi ela eco ene ldp dp dbl hlv spl mrg lfi lla lco lne lev ptr llo lhi lsp (key en) hXR.2.1.1 hXR.2.2.2.1 hkk) (tq_cV (n := 1) C ml_X0_69 im_X0_rowFor se_X0_rowFor ini_X0 cd_X0_rowFor ⟨by decide, by decide, by decide +kernel⟩ ⟨Nat.le_of_ble_eq_true rfl, Nat.le_of_ble_eq_true rfl⟩) ⟨tq_Pf.blind, va_recv hK hP (ci := 0) (q0 := 2) rfl rfl, tq_preF C hK hP⟩ rfl rfl hl.1 rfl (lv_room (Nat.le_of_ble_eq_true rfl)) dX0_delete_15 ⟨Nat.le_of_ble_eq_true rfl, Nat.le_of_ble_eq_true rfl⟩) (fun r15 hr15 => ?_)
  obtain rfl := hr15
  refine tq_top (y := nI (rowOf dep (key en))) (by rw [(hXR.at _).1]) ?_
  refine lv_iload_n hx hb dX0_delete_18 rfl (lv_at hl 2 rfl) ?_
  refine tq_callV (W3 := fun u => (wC cy a key val ord tk cp u.1 u.2.1 u.2.2.1 u.2.2.2 ldp dp dbl hlv spl mrg lfi lla lco lne lev ptr llo lhi lsp)) (wr := [0, 2, 3, 5, 6, 8, 9, 14, 15, 16, 17].filterMap (fun i => (wC cy a key val ord tk cp efi ela eco ene ldp dp dbl hlv spl mrg lfi lla lco lne lev ptr llo lhi lsp)[i]?)) (va_runV C.fix (As := [.int (nI (rowOf dep (key en))), .int (nI (en))]) (rest := []) ((c_X2_unlink l D cy (a 7) (a 10) (a 11) (a 12) (a 13) (a 1) (a 4) (a 5) (a 6) efi ela eco ene key tk cp (rowOf dep (key en)) en rows hXR.1 hrr0 h1 h2 P Q hL hPn hQn) s.heap.size) (tq_cV (n := 2) C ml_X0_93 im_X2_unlink se_X2_unlink ini_X2 cd_X2_unlink ⟨by decide, by decide, by decide +kernel⟩ ⟨Nat.le_of_ble_eq_true rfl, Nat.le_of_ble_eq_true rfl⟩) ⟨tq_Pc.blind, va_recv hK hP (ci := 2) (q0 := 7) rfl rfl, tq_preC C hK (hP.sub [7, 10, 11, 12, 13, 1, 4] rfl) (hD.sub [7, 10, 11, 12, 13, 1, 4] (by decide) rfl)⟩ rfl rfl hl.1 rfl (lv_room (Nat.le_of_ble_eq_true rfl)) dX0_delete_19 ⟨Nat.le_of_ble_eq_true rfl, Nat.le_of_ble_eq_true rfl⟩) hP hD hS hA [7, 10, 11, 12, 13, 1, 4] [0, 2, 3, 5, 6, 8, 9, 14, 15, 16, 17] [0, 16, 1, 2, 17, 3, 4, 11, 5, 6, 12, 13, 14, 15, 7, 8, 9, 10] rfl rfl (by decide) (by decide) (by decide) (fun _ => rfl) (fun u19 H locs hr19 hP hD hS => ?_)
  obtain ⟨efi2, ela2, eco2, ene2⟩ := u19
  try dsimp only at hr19
  have hP : va_P D vwCl (wC cy a key val ord tk cp efi2 ela2 eco2 ene2 ldp dp dbl hlv spl mrg lfi lla lco lne lev ptr llo lhi lsp) H := hP
  have hD : va_D A (wC cy a key val ord tk cp efi2 ela2 eco2 ene2 ldp dp dbl hlv spl mrg lfi lla lco lne lev ptr llo lhi lsp) := hD
  have hXd := hXR.del hr19 hUen hinj hU
  refine lv_aload_n hx hb dX0_delete_22 rfl (lv_at hl 1 rfl) ?_
  refine lv_aload_n hx hb dX0_delete_23 rfl (lv_at hl 1 rfl) ?_
  refine lv_iload_n hx hb dX0_delete_24 rfl (lv_at hl 0 rfl) ?_
  refine tq_callF (va_runV C.fix (As := [.int (nI (key en))]) (rest := [.ref (a 2)]) (c_X0_slotFor l D cy a key val ord tk cp efi2 ela2 eco2 ene2 ldp dp dbl hlv spl mrg lfi lla lco lne lev ptr llo lhi lsp (key en) hXR.2.1.1 hkk) (tq_cV (n := 1) C ml_X0_66 im_X0_slotFor se_X0_slotFor ini_X0 cd_X0_slotFor ⟨by decide, by decide, by decide +kernel⟩ ⟨Nat.le_of_ble_eq_true rfl, Nat.le_of_ble_eq_true rfl⟩) ⟨tq_Pf.blind, va_recv hK hP (ci := 0) (q0 := 2) rfl rfl, tq_preF C hK hP⟩ rfl rfl hl.1 rfl (lv_room (Nat.le_of_ble_eq_true rfl)) dX0_delete_25 ⟨Nat.le_of_ble_eq_true rfl, Nat.le_of_ble_eq_true rfl⟩) (fun r25 hr25 => ?_)
  obtain rfl := hr25
  refine tq_callF (va_runV C.fix (As := [.int (nI (hs (key en) % 2 ^ dp))]) (rest := []) (c_X0_depthAt l D cy a key val ord tk cp efi2 ela2 eco2 ene2 ldp dp dbl hlv spl mrg lfi lla lco lne lev ptr llo lhi lsp (hs (key en) % 2 ^ dp) (m2 hXR.2.1.1)) (tq_cV (n := 1) C ml_X0_63 im_X0_depthAt se_X0_depthAt ini_X0 cd_X0_depthAt ⟨by decide, by decide, by decide +kernel⟩ ⟨Nat.le_of_ble_eq_true rfl, Nat.le_of_ble_eq_true rfl⟩) ⟨tq_Pf.blind, va_recv hK hP (ci := 0) (q0 := 2) rfl rfl, tq_preF C hK hP⟩ rfl rfl hl.1 rfl (lv_room (Nat.le_of_ble_eq_true rfl)) dX0_delete_28 ⟨Nat.le_of_ble_eq_true rfl, Nat.le_of_ble_eq_true rfl⟩) (fun r28 hr28 => ?_)
  obtain rfl := hr28
  refine tq_top (y := nI (dep (hs (key en) % 256))) (by rw [(hXR.at _).2]) ?_
  refine lv_istore_n (lv' := [(3, .int (nI (dep (hs (key en) % 256)))), (2, .int (nI (key en))), (0, .ref (a 2)), (1, .int (nI (en)))]) hx hb dX0_delete_31 rfl hl (by decide) rfl (fun ls hl => ?_)
  suffices hlp32 : ∀ (n32 : Nat) (k : Nat) (rows1 : Nat → List Nat) (dep1 : Nat → Nat) (E1 : List Nat) (efi1 : Nat → Nat) (ela1 : Nat → Nat) (eco1 : Nat → Nat) (ene1 : Nat → Nat) (ldp1 : Nat → Nat) (mrg1 : Int32), k < n32 → (dep1 (hs (key en) % 256) < k) → (XR key ldp1 dp efi1 ela1 eco1 ene1 rows1 dep1 E1 US2) → (mS cp (hs (key en) % 256) k (dep1, E1, mrg1) = mS cp (hs (key en) % 256) 9 (dep, E.filter (· != key en), mrg)) → ∀ (H : Heap) (locs : List Loc), va_P D vwCl (wC cy a key val ord tk cp efi1 ela1 eco1 ene1 ldp1 dp dbl hlv spl mrg1 lfi lla lco lne lev ptr llo lhi lsp) H → va_D A (wC cy a key val ord tk cp efi1 ela1 eco1 ene1 ldp1 dp dbl hlv spl mrg1 lfi lla lco lne lev ptr llo lhi lsp) → va_S A s.heap H locs → ∀ ls : Array Slot, lv_has ls 4 [(0, .ref (a 2)), (1, .int (nI (en))), (2, .int (nI (key en))), (3, .int (nI (dep1 (hs (key en) % 256))))] → W p l e ({ frames := 5, cells := 0, slots := 0, locals := 115 } : Room) s m args below meth c H locs (0 + 0) (0 + 0) (MQ below (va_Qv (S := (Nat → Nat) × (Nat → Nat) × (Nat → Nat) × (Nat → Nat) × (Nat → Nat) × Nat × Int32 × Int32) (fun u => (∃ rows2, XR key u.2.2.2.2.1 u.2.2.2.2.2.1 u.1 u.2.1 u.2.2.1 u.2.2.2.1 rows2 (mS cp (hs (key en) % 256) 9 (dep, E.filter (· != key en), mrg)).1 (mS cp (hs (key en) % 256) 9 (dep, E.filter (· != key en), mrg)).2.1 US2) ∧ u.2.2.2.2.2.1 = mx (mS cp (hs (key en) % 256) 9 (dep, E.filter (· != key en), mrg)).1 256 ∧ u.2.2.2.2.2.2.2 = (mS cp (hs (key en) % 256) 9 (dep, E.filter (· != key en), mrg)).2.2 ∧ u.2.2.2.2.2.2.1 = hlv + nI (dp - mx (mS cp (hs (key en) % 256) 9 (dep, E.filter (· != key en), mrg)).1 256)) (tq_B D A (fun u => (wC cy a key val ord tk cp u.1 u.2.1 u.2.2.1 u.2.2.2.1 u.2.2.2.2.1 u.2.2.2.2.2.1 dbl u.2.2.2.2.2.2.1 spl u.2.2.2.2.2.2.2 lfi lla lco lne lev ptr llo lhi lsp))) A) args s 0 0 A) (F0 m 32 ls []) from
    hlp32 10 9 (fun r => (rows r).filter (· != en)) dep (E.filter (· != key en)) efi2 ela2 eco2 ene2 ldp mrg (by omega) (by have := hXR.2.1.2.1 _ (mod_lt256 (hs (key en))); have := hXR.2.1.1; omega) (hXd) (rfl) _ _ hP hD hS _ (lv_sub hl [2, 3, 1, 0] rfl)
  intro n32
  induction n32 with
  | zero => intro k rows1 dep1 E1 efi1 ela1 eco1 ene1 ldp1 mrg1 hf; exact absurd hf (Nat.not_lt_zero _)
  | succ n32 ih32 =>
    intro k rows1 dep1 E1 efi1 ela1 eco1 ene1 ldp1 mrg1 hf32 hk hX1 hres H locs hP hD hS ls hl
    have hd8 : dep1 (hs (key en) % 256) ≤ 8 := by have := hX1.2.1.2.1 _ (mod_lt256 (hs (key en))); have := hX1.2.1.1; omega
    refine lv_iload_n hx hb dX0_delete_32 rfl (lv_at hl 3 rfl) ?_
    refine tq_if_le (tgt := 71) C (by omega) dX0_delete_33 (by decide) (fun h33 => ?_) (fun h33 => ?_)
    · have hR9 := mS_end hres (fun h => absurd (show 0 < dep1 (hs (key en) % 256) from (mcond_iff.mp h).1) (by omega))
      refine lv_aload_n hx hb dX0_delete_71 rfl (lv_at hl 0 rfl) ?_
      refine tq_callV (W3 := fun u => (wC cy a key val ord tk cp efi1 ela1 eco1 ene1 ldp1 u.1 dbl u.2 spl mrg1 lfi lla lco lne lev ptr llo lhi lsp)) (wr := []) (va_runV C.fix (As := []) (rest := []) ((c_X0_halveWhilePossible l D cy a key val ord tk cp efi1 ela1 eco1 ene1 ldp1 dp dbl hlv spl mrg1 lfi lla lco lne lev ptr llo lhi lsp hX1.2.1.1 hX1.2.2.2.1) H.size) (tq_cV (n := 0) C ml_X0_102 im_X0_halveWhilePossible se_X0_halveWhilePossible ini_X0 cd_X0_halveWhilePossible ⟨by decide, by decide, by decide +kernel⟩ ⟨Nat.le_of_ble_eq_true rfl, Nat.le_of_ble_eq_true rfl⟩) ⟨tq_Pc.blind, va_recv hK hP (ci := 0) (q0 := 2) rfl rfl, tq_preC C hK hP hD⟩ rfl rfl hl.1 rfl (lv_room (Nat.le_of_ble_eq_true rfl)) dX0_delete_72 ⟨Nat.le_of_ble_eq_true rfl, Nat.le_of_ble_eq_true rfl⟩) hP hD hS hA [0, 1, 2, 3, 4, 5, 6, 7, 8, 9, 10, 11, 12, 13, 14, 15, 16, 17] [] [0, 1, 2, 3, 4, 5, 6, 7, 8, 9, 10, 11, 12, 13, 14, 15, 16, 17] rfl rfl (by decide) (by decide) (by decide) (fun _ => rfl) (fun u72 H locs hr72 hP hD hS => ?_)
      obtain ⟨dp4, hlv4⟩ := u72
      try dsimp only at hr72
      have hP : va_P D vwCl (wC cy a key val ord tk cp efi1 ela1 eco1 ene1 ldp1 dp4 dbl hlv4 spl mrg1 lfi lla lco lne lev ptr llo lhi lsp) H := hP
      have hD : va_D A (wC cy a key val ord tk cp efi1 ela1 eco1 ene1 ldp1 dp4 dbl hlv4 spl mrg1 lfi lla lco lne lev ptr llo lhi lsp) := hD
      have hh := hX1.halve hr72.1 hr72.2.1 hr72.2.2.1
      exact tq_vret C (efi1, ela1, eco1, ene1, ldp1, dp4, hlv4, mrg1) hP hD hS (⟨⟨rows1, by rw [← hR9]; exact hh.2⟩, by rw [← hR9]; exact hh.1, by rw [← hR9], by rw [← hR9, ← hh.1]; exact hr72.2.2.2⟩) (Nat.le_of_ble_eq_true rfl) (Nat.le_of_ble_eq_true rfl) dX0_delete_75
    · refine lv_aload_n hx hb dX0_delete_36 rfl (lv_at hl 0 rfl) ?_
      refine lv_aload_n hx hb dX0_delete_37 rfl (lv_at hl 0 rfl) ?_
      refine lv_iload_n hx hb dX0_delete_38 rfl (lv_at hl 2 rfl) ?_
      refine tq_callF (va_runV C.fix (As := [.int (nI (key en))]) (rest := [.ref (a 2)]) (c_X0_rowFor l D cy a key val ord tk cp efi1 ela1 eco1 ene1 ldp1 dp dbl hlv spl mrg1 lfi lla lco lne lev ptr llo lhi lsp (key en) hX1.2.1.1 hX1.2.2.2.1 hkk) (tq_cV (n := 1) C ml_X0_69 im_X0_rowFor se_X0_rowFor ini_X0 cd_X0_rowFor ⟨by decide, by decide, by decide +kernel⟩ ⟨Nat.le_of_ble_eq_true rfl, Nat.le_of_ble_eq_true rfl⟩) ⟨tq_Pf.blind, va_recv hK hP (ci := 0) (q0 := 2) rfl rfl, tq_preF C hK hP⟩ rfl rfl hl.1 rfl (lv_room (Nat.le_of_ble_eq_true rfl)) dX0_delete_39 ⟨Nat.le_of_ble_eq_true rfl, Nat.le_of_ble_eq_true rfl⟩) (fun r39 hr39 => ?_)
      obtain rfl := hr39
      refine tq_top (y := nI ((hs (key en) % 256) % 2 ^ dep1 (hs (key en) % 256))) (by rw [(hX1.at _).1, rowOf_x hd8]) ?_
      refine tq_callF (va_runV C.fix (As := [.int (nI ((hs (key en) % 256) % 2 ^ dep1 (hs (key en) % 256)))]) (rest := []) (c_X0_canMerge l D cy a key val ord tk cp efi1 ela1 eco1 ene1 ldp1 dp dbl hlv spl mrg1 lfi lla lco lne lev ptr llo lhi lsp ((hs (key en) % 256) % 2 ^ dep1 (hs (key en) % 256)) hX1.2.2.2.1 (m2 hd8) (fun r hr => hX1.co_le hr) hcp2) (tq_cV (n := 1) C ml_X0_96 im_X0_canMerge se_X0_canMerge ini_X0 cd_X0_canMerge ⟨by decide, by decide, by decide +kernel⟩ ⟨Nat.le_of_ble_eq_true rfl, Nat.le_of_ble_eq_true rfl⟩) ⟨tq_Pf.blind, va_recv hK hP (ci := 0) (q0 := 2) rfl rfl, tq_preF C hK hP⟩ rfl rfl hl.1 rfl (lv_room (Nat.le_of_ble_eq_true rfl)) dX0_delete_42 ⟨Nat.le_of_ble_eq_true rfl, Nat.le_of_ble_eq_true rfl⟩) (fun r42 hr42 => ?_)
      rcases hr42 with ⟨hr42, rfl⟩ | ⟨hr42, rfl⟩
      · have hm := (hX1.canM (mrg := mrg1) (mod_lt256 _)).mp hr42
        have hm2 : 0 < dep1 (hs (key en) % 256) ∧ dep1 ((hs (key en) % 256) ^^^ 2 ^ (dep1 (hs (key en) % 256) - 1)) = dep1 (hs (key en) % 256) ∧ _ := mcond_iff.mp hm
        refine lv_if_eq (tgt := 71) hx hb dX0_delete_45 (by decide) (fun h9 => absurd h9 (by decide)) (fun _ => ?_)
        refine lv_aload_n hx hb dX0_delete_48 rfl (lv_at hl 0 rfl) ?_
        refine lv_iload_n hx hb dX0_delete_49 rfl (lv_at hl 2 rfl) ?_
        refine tq_callF (va_runSN C.fix (As := [.int (nI (key en))]) (rest := [.ref (a 2)]) (c_X4_hash l D cy (key en) hkk) (tq_cN (n := 1) C mn_X0_56 sm_X4_hash ini_X4 cd_X4_hash ⟨by decide, by decide, by decide +kernel⟩ ⟨Nat.le_of_ble_eq_true rfl, Nat.le_of_ble_eq_true rfl⟩) ⟨tq_Pf.blind, tq_preF C hK (hP.sub [] rfl)⟩ rfl rfl hl.1 rfl (lv_room (Nat.le_of_ble_eq_true rfl)) dX0_delete_50 ⟨Nat.le_of_ble_eq_true rfl, Nat.le_of_ble_eq_true rfl⟩) (fun r50 hr50 => ?_)
        obtain rfl := hr50
        refine lv_iload_n hx hb dX0_delete_53 rfl (lv_at hl 3 rfl) ?_
        refine lv_iconst (v := nI 1) hx hb dX0_delete_54 (by decide) ?_
        refine tq_isub C (by omega) dX0_delete_55 ?_
        refine tq_callF (va_runSN C.fix (As := [.int (nI (hs (key en))), .int (nI ((dep1 (hs (key en) % 256)) - 1))]) (rest := [.ref (a 2)]) (c_X4_lowBits l D cy (hs (key en)) ((dep1 (hs (key en) % 256)) - 1) (by have := hs_lt (key en); omega) (by omega)) (tq_cN (n := 2) C mn_X0_59 sm_X4_lowBits ini_X4 cd_X4_lowBits ⟨by decide, by decide, by decide +kernel⟩ ⟨Nat.le_of_ble_eq_true rfl, Nat.le_of_ble_eq_true rfl⟩) ⟨tq_Pf.blind, tq_preF C hK (hP.sub [] rfl)⟩ rfl rfl hl.1 rfl (lv_room (Nat.le_of_ble_eq_true rfl)) dX0_delete_56 ⟨Nat.le_of_ble_eq_true rfl, Nat.le_of_ble_eq_true rfl⟩) (fun r56 hr56 => ?_)
        obtain rfl := hr56
        refine lv_iload_n hx hb dX0_delete_59 rfl (lv_at hl 3 rfl) ?_
        refine lv_iconst (v := nI 1) hx hb dX0_delete_60 (by decide) ?_
        refine tq_isub C (by omega) dX0_delete_61 ?_
        refine tq_callV (W3 := fun u => (wC cy a key val ord tk cp u.1 u.2.1 u.2.2.1 u.2.2.2.1 u.2.2.2.2 dp dbl hlv spl (mrg1 + nI 1) lfi lla lco lne lev ptr llo lhi lsp)) (wr := []) (va_runV C.fix (As := [.int (nI ((hs (key en)) % 2 ^ ((dep1 (hs (key en) % 256)) - 1))), .int (nI ((dep1 (hs (key en) % 256)) - 1))]) (rest := []) ((c_X0_mergeBuckets l D cy a key val ord tk cp efi1 ela1 eco1 ene1 ldp1 dp dbl hlv spl mrg1 lfi lla lco lne lev ptr llo lhi lsp ((hs (key en)) % 2 ^ ((dep1 (hs (key en) % 256)) - 1)) ((dep1 (hs (key en) % 256)) - 1) rows1 dep1 E1 US2 hX1 hkey (hs (key en) % 256) (mod_lt256 _) (by omega) (by rw [hm2.2.1]; omega) ((m256 _ (by omega)).symm)) H.size) (tq_cV (n := 2) C ml_X0_99 im_X0_mergeBuckets se_X0_mergeBuckets ini_X0 cd_X0_mergeBuckets ⟨by decide, by decide, by decide +kernel⟩ ⟨Nat.le_of_ble_eq_true rfl, Nat.le_of_ble_eq_true rfl⟩) ⟨tq_Pc.blind, va_recv hK hP (ci := 0) (q0 := 2) rfl rfl, tq_preC C hK hP hD⟩ rfl rfl hl.1 rfl (lv_room (Nat.le_of_ble_eq_true rfl)) dX0_delete_62 ⟨Nat.le_of_ble_eq_true rfl, Nat.le_of_ble_eq_true rfl⟩) hP hD hS hA [0, 1, 2, 3, 4, 5, 6, 7, 8, 9, 10, 11, 12, 13, 14, 15, 16, 17] [] [0, 1, 2, 3, 4, 5, 6, 7, 8, 9, 10, 11, 12, 13, 14, 15, 16, 17] rfl rfl (by decide) (by decide) (by decide) (fun _ => rfl) (fun u62 H locs hr62 hP hD hS => ?_)
        obtain ⟨efi3, ela3, eco3, ene3, ldp3⟩ := u62
        try dsimp only at hr62
        have hP : va_P D vwCl (wC cy a key val ord tk cp efi3 ela3 eco3 ene3 ldp3 dp dbl hlv spl (mrg1 + nI 1) lfi lla lco lne lev ptr llo lhi lsp) H := hP
        have hD : va_D A (wC cy a key val ord tk cp efi3 ela3 eco3 ene3 ldp3 dp dbl hlv spl (mrg1 + nI 1) lfi lla lco lne lev ptr llo lhi lsp) := hD
        obtain ⟨rows3, hX3⟩ := hr62
        refine lv_iinc (v := (nI ((dep1 (hs (key en) % 256)) - 1))) (lv' := [(3, .int (nI ((dep1 (hs (key en) % 256)) - 1))), (0, .ref (a 2)), (1, .int (nI (en))), (2, .int (nI (key en)))]) hx hb dX0_delete_65 hl (k := 3) rfl (tq_dec (by omega)) (by decide) rfl (fun ls hl => ?_)
        refine lv_goto (tgt := 32) hx hb dX0_delete_68 (by decide) ?_
        rw [show dep1 (hs (key en) % 256) - 1 = deepen dep1 (hs (key en) % 256) (dep1 (hs (key en) % 256) - 1) (dep1 (hs (key en) % 256) - 1) (hs (key en) % 256) from (if_pos rfl).symm] at hl
        have hd9 : deepen dep1 (hs (key en) % 256) (dep1 (hs (key en) % 256) - 1) (dep1 (hs (key en) % 256) - 1) (hs (key en) % 256) = dep1 (hs (key en) % 256) - 1 := if_pos rfl
        rw [Nat.sub_add_cancel hm2.1] at hX3
        exact ih32 (k - 1) rows3 (deepen dep1 (hs (key en) % 256) (dep1 (hs (key en) % 256) - 1) (dep1 (hs (key en) % 256) - 1)) (mvB E1 ((hs (key en) % 256) ||| 2 ^ (dep1 (hs (key en) % 256) - 1)) (dep1 (hs (key en) % 256))) efi3 ela3 eco3 ene3 ldp3 (mrg1 + nI 1) (by omega) (by omega) (hX3) (mS_go hres (by omega) hm) _ _ hP hD hS _ (lv_sub hl [1, 2, 3, 0] rfl)
      · have hR9 := mS_end hres (fun h => hr42 ((hX1.canM (mod_lt256 _)).mpr h))
        refine lv_if_eq (tgt := 71) hx hb dX0_delete_45 (by decide) (fun _ => ?_) (fun h9 => absurd (by decide : nI 0 = 0) h9)
        refine lv_aload_n hx hb dX0_delete_71 rfl (lv_at hl 0 rfl) ?_
        refine tq_callV (W3 := fun u => (wC cy a key val ord tk cp efi1 ela1 eco1 ene1 ldp1 u.1 dbl u.2 spl mrg1 lfi lla lco lne lev ptr llo lhi lsp)) (wr := []) (va_runV C.fix (As := []) (rest := []) ((c_X0_halveWhilePossible l D cy a key val ord tk cp efi1 ela1 eco1 ene1 ldp1 dp dbl hlv spl mrg1 lfi lla lco lne lev ptr llo lhi lsp hX1.2.1.1 hX1.2.2.2.1) H.size) (tq_cV (n := 0) C ml_X0_102 im_X0_halveWhilePossible se_X0_halveWhilePossible ini_X0 cd_X0_halveWhilePossible ⟨by decide, by decide, by decide +kernel⟩ ⟨Nat.le_of_ble_eq_true rfl, Nat.le_of_ble_eq_true rfl⟩) ⟨tq_Pc.blind, va_recv hK hP (ci := 0) (q0 := 2) rfl rfl, tq_preC C hK hP hD⟩ rfl rfl hl.1 rfl (lv_room (Nat.le_of_ble_eq_true rfl)) dX0_delete_72 ⟨Nat.le_of_ble_eq_true rfl, Nat.le_of_ble_eq_true rfl⟩) hP hD hS hA [0, 1, 2, 3, 4, 5, 6, 7, 8, 9, 10, 11, 12, 13, 14, 15, 16, 17] [] [0, 1, 2, 3, 4, 5, 6, 7, 8, 9, 10, 11, 12, 13, 14, 15, 16, 17] rfl rfl (by decide) (by decide) (by decide) (fun _ => rfl) (fun u72 H locs hr72 hP hD hS => ?_)
        obtain ⟨dp4, hlv4⟩ := u72
        try dsimp only at hr72
        have hP : va_P D vwCl (wC cy a key val ord tk cp efi1 ela1 eco1 ene1 ldp1 dp4 dbl hlv4 spl mrg1 lfi lla lco lne lev ptr llo lhi lsp) H := hP
        have hD : va_D A (wC cy a key val ord tk cp efi1 ela1 eco1 ene1 ldp1 dp4 dbl hlv4 spl mrg1 lfi lla lco lne lev ptr llo lhi lsp) := hD
        have hh := hX1.halve hr72.1 hr72.2.1 hr72.2.2.1
        exact tq_vret C (efi1, ela1, eco1, ene1, ldp1, dp4, hlv4, mrg1) hP hD hS (⟨⟨rows1, by rw [← hR9]; exact hh.2⟩, by rw [← hR9]; exact hh.1, by rw [← hR9], by rw [← hR9, ← hh.1]; exact hr72.2.2.2⟩) (Nat.le_of_ble_eq_true rfl) (Nat.le_of_ble_eq_true rfl) dX0_delete_75
set_option maxHeartbeats 4000000 in
set_option maxRecDepth 100000 in
theorem c_X0_reset (l : Launch) (D : va_G) (cy : ClassId) (a : Nat → Nat) (key : Nat → Nat) (val : Nat → Nat) (ord : Nat → Nat) (tk : Nat) (cp : Nat) (efi : Nat → Nat) (ela : Nat → Nat) (eco : Nat → Nat) (ene : Nat → Nat) (ldp : Nat → Nat) (dp : Nat) (dbl : Int32) (hlv : Int32) (spl : Int32) (mrg : Int32) (lfi : Nat → Nat) (lla : Nat → Nat) (lco : Nat → Nat) (lne : Nat → Nat) (lev : Nat) (ptr : Nat) (llo : Nat) (lhi : Nat) (lsp : Int32)   : tq_V (S := (Nat → Nat) × (Nat → Nat) × (Nat → Nat)) l yX0_reset cX0_reset 1 3 62 0 0 D cy (wC cy a key val ord tk cp efi ela eco ene ldp dp dbl hlv spl mrg lfi lla lco lne lev ptr llo lhi lsp) [.ref (a 2)] (fun u => RR u.1 u.2.1 u.2.2 ene (fun _ => [])) (fun u => (wC cy a key val ord tk cp u.1 u.2.1 u.2.2 ene (va_up ldp 0 0) 0 dbl hlv spl mrg lfi lla lco lne lev ptr llo lhi lsp)) := by
  refine tq_V.mk (by decide) (Nat.le_of_ble_eq_true rfl) ?_
  intro p e s m args below meth c A C hin hP hK hD hS hA ls hl
  obtain ⟨hx, hb, hml, hown, hrt, hlk, hT⟩ := id C
  have hl : lv_has ls 1 [(0, .ref (a 2))] := hl
  refine lv_aload_n hx hb dX0_reset_0 rfl (lv_at hl 0 rfl) ?_
  refine lv_iconst (v := nI 0) hx hb dX0_reset_1 (by decide) ?_
  refine tq_put (v := .int (nI (0))) (C0 := RX0) (T := TX0) (N := 8) (ci := 0) (k := 3) (ty := .int) C gX0 inX0 tyX0_ok nmX0 rfl (by decide) rfl fl_X0_15 rfl (by decide +kernel) hK hP hD hS 2 rfl rfl rfl (Nat.le_of_ble_eq_true rfl) dX0_reset_2 (fun H locs hP hD hS => ?_)
  have hP : va_P D vwCl (wC cy a key val ord tk cp efi ela eco ene ldp 0 dbl hlv spl mrg lfi lla lco lne lev ptr llo lhi lsp) H := hP
  have hD : va_D A (wC cy a key val ord tk cp efi ela eco ene ldp 0 dbl hlv spl mrg lfi lla lco lne lev ptr llo lhi lsp) := hD
  refine lv_aload_n hx hb dX0_reset_5 rfl (lv_at hl 0 rfl) ?_
  refine lv_iconst (v := nI 0) hx hb dX0_reset_6 (by decide) ?_
  refine lv_iconst (v := nI 0) hx hb dX0_reset_7 (by decide) ?_
  refine tq_callV (W3 := fun u => (wC cy a key val ord tk cp efi ela eco ene (va_up ldp 0 0) 0 dbl hlv spl mrg lfi lla lco lne lev ptr llo lhi lsp)) (wr := []) (va_runV C.fix (As := [.int (nI (0)), .int (nI (0))]) (rest := []) ((c_X0_setDepth l D cy a key val ord tk cp efi ela eco ene ldp 0 dbl hlv spl mrg lfi lla lco lne lev ptr llo lhi lsp 0 0 (by omega)) H.size) (tq_cV (n := 2) C ml_X0_105 im_X0_setDepth se_X0_setDepth ini_X0 cd_X0_setDepth ⟨by decide, by decide, by decide +kernel⟩ ⟨Nat.le_of_ble_eq_true rfl, Nat.le_of_ble_eq_true rfl⟩) ⟨tq_Pc.blind, va_recv hK hP (ci := 0) (q0 := 2) rfl rfl, tq_preC C hK hP hD⟩ rfl rfl hl.1 rfl (lv_room (Nat.le_of_ble_eq_true rfl)) dX0_reset_8 ⟨Nat.le_of_ble_eq_true rfl, Nat.le_of_ble_eq_true rfl⟩) hP hD hS hA [0, 1, 2, 3, 4, 5, 6, 7, 8, 9, 10, 11, 12, 13, 14, 15, 16, 17] [] [0, 1, 2, 3, 4, 5, 6, 7, 8, 9, 10, 11, 12, 13, 14, 15, 16, 17] rfl rfl (by decide) (by decide) (by decide) (fun _ => rfl) (fun u8 H locs hr8 hP hD hS => ?_)
  have hP : va_P D vwCl (wC cy a key val ord tk cp efi ela eco ene (va_up ldp 0 0) 0 dbl hlv spl mrg lfi lla lco lne lev ptr llo lhi lsp) H := hP
  have hD : va_D A (wC cy a key val ord tk cp efi ela eco ene (va_up ldp 0 0) 0 dbl hlv spl mrg lfi lla lco lne lev ptr llo lhi lsp) := hD
  refine lv_aload_n hx hb dX0_reset_11 rfl (lv_at hl 0 rfl) ?_
  refine tq_get (C0 := RX0) (T := TX0) (N := 8) (ci := 0) (k := 1) C gX0 inX0 rfl (by decide) rfl fl_X0_40 hK hP 2 rfl rfl dX0_reset_12 ?_
  refine tq_callV (W3 := fun u => (wC cy a key val ord tk cp u.1 u.2.1 u.2.2 ene (va_up ldp 0 0) 0 dbl hlv spl mrg lfi lla lco lne lev ptr llo lhi lsp)) (wr := [0, 2, 3, 5, 6, 8, 9, 14, 15, 16, 17].filterMap (fun i => (wC cy a key val ord tk cp efi ela eco ene (va_up ldp 0 0) 0 dbl hlv spl mrg lfi lla lco lne lev ptr llo lhi lsp)[i]?)) (va_runV C.fix (As := []) (rest := []) ((c_X2_emptyAllRows l D cy (a 7) (a 10) (a 11) (a 12) (a 13) (a 1) (a 4) (a 5) (a 6) efi ela eco ene key tk cp) H.size) (tq_cV (n := 0) C ml_X0_108 im_X2_emptyAllRows se_X2_emptyAllRows ini_X2 cd_X2_emptyAllRows ⟨by decide, by decide, by decide +kernel⟩ ⟨Nat.le_of_ble_eq_true rfl, Nat.le_of_ble_eq_true rfl⟩) ⟨tq_Pc.blind, va_recv hK hP (ci := 2) (q0 := 7) rfl rfl, tq_preC C hK (hP.sub [7, 10, 11, 12, 13, 1, 4] rfl) (hD.sub [7, 10, 11, 12, 13, 1, 4] (by decide) rfl)⟩ rfl rfl hl.1 rfl (lv_room (Nat.le_of_ble_eq_true rfl)) dX0_reset_15 ⟨Nat.le_of_ble_eq_true rfl, Nat.le_of_ble_eq_true rfl⟩) hP hD hS hA [7, 10, 11, 12, 13, 1, 4] [0, 2, 3, 5, 6, 8, 9, 14, 15, 16, 17] [0, 16, 1, 2, 17, 3, 4, 11, 5, 6, 12, 13, 14, 15, 7, 8, 9, 10] rfl rfl (by decide) (by decide) (by decide) (fun _ => rfl) (fun u15 H locs hr15 hP hD hS => ?_)
  obtain ⟨efi2, ela2, eco2⟩ := u15
  try dsimp only at hr15
  have hP : va_P D vwCl (wC cy a key val ord tk cp efi2 ela2 eco2 ene (va_up ldp 0 0) 0 dbl hlv spl mrg lfi lla lco lne lev ptr llo lhi lsp) H := hP
  have hD : va_D A (wC cy a key val ord tk cp efi2 ela2 eco2 ene (va_up ldp 0 0) 0 dbl hlv spl mrg lfi lla lco lne lev ptr llo lhi lsp) := hD
  exact tq_vret C (efi2, ela2, eco2) hP hD hS (hr15) (Nat.le_of_ble_eq_true rfl) (Nat.le_of_ble_eq_true rfl) dX0_reset_18
set_option maxHeartbeats 4000000 in
set_option maxRecDepth 100000 in
theorem c_X0_countBuckets (l : Launch) (D : va_G) (cy : ClassId) (a : Nat → Nat) (key : Nat → Nat) (val : Nat → Nat) (ord : Nat → Nat) (tk : Nat) (cp : Nat) (efi : Nat → Nat) (ela : Nat → Nat) (eco : Nat → Nat) (ene : Nat → Nat) (ldp : Nat → Nat) (dp : Nat) (dbl : Int32) (hlv : Int32) (spl : Int32) (mrg : Int32) (lfi : Nat → Nat) (lla : Nat → Nat) (lco : Nat → Nat) (lne : Nat → Nat) (lev : Nat) (ptr : Nat) (llo : Nat) (lhi : Nat) (lsp : Int32)  (hdp : dp ≤ 8) (hld : ∀ q, q < 256 → ldp q ≤ 8) : tq_F l yX0_countBuckets cX0_countBuckets 4 (some .int) 3 62 D cy (wC cy a key val ord tk cp efi ela eco ene ldp dp dbl hlv spl mrg lfi lla lco lne lev ptr llo lhi lsp) [.ref (a 2)] (fun r => r = (nI (so (fun q => if q % 2 ^ ldp q = q then 1 else 0) (2 ^ dp)))) := by
  refine tq_F.mk (by decide) (Nat.le_of_ble_eq_true rfl) ?_
  intro p e s m args below meth c C hP hK ls hl
  obtain ⟨hx, hb, hml, hown, hrt, hlk, hT⟩ := id C
  have hl : lv_has ls 4 [(0, .ref (a 2))] := hl
  have hp8 := p8 hdp
  have hp9 := p2_pos dp
  refine lv_aload_n hx hb dX0_countBuckets_0 rfl (lv_at hl 0 rfl) ?_
  refine tq_callF (va_runV C.fix (As := []) (rest := []) (c_X0_countSlots l D cy a key val ord tk cp efi ela eco ene ldp dp dbl hlv spl mrg lfi lla lco lne lev ptr llo lhi lsp hdp) (tq_cV (n := 0) C ml_X0_44 im_X0_countSlots se_X0_countSlots ini_X0 cd_X0_countSlots ⟨by decide, by decide, by decide +kernel⟩ ⟨Nat.le_of_ble_eq_true rfl, Nat.le_of_ble_eq_true rfl⟩) ⟨tq_Pf.blind, va_recv hK hP (ci := 0) (q0 := 2) rfl rfl, tq_preF C hK hP⟩ rfl rfl hl.1 rfl (lv_room (Nat.le_of_ble_eq_true rfl)) dX0_countBuckets_1 ⟨Nat.le_of_ble_eq_true rfl, Nat.le_of_ble_eq_true rfl⟩) (fun r1 hr1 => ?_)
  obtain rfl := hr1
  refine lv_istore_n (lv' := [(1, .int (nI (2 ^ dp))), (0, .ref (a 2))]) hx hb dX0_countBuckets_4 rfl hl (by decide) rfl (fun ls hl => ?_)
  refine lv_iconst (v := nI 0) hx hb dX0_countBuckets_5 (by decide) ?_
  refine lv_istore_n (lv' := [(2, .int (nI (0))), (1, .int (nI (2 ^ dp))), (0, .ref (a 2))]) hx hb dX0_countBuckets_6 rfl hl (by decide) rfl (fun ls hl => ?_)
  refine lv_iconst (v := nI 0) hx hb dX0_countBuckets_7 (by decide) ?_
  refine lv_istore_n (lv' := [(3, .int (nI (0))), (2, .int (nI (0))), (1, .int (nI (2 ^ dp))), (0, .ref (a 2))]) hx hb dX0_countBuckets_8 rfl hl (by decide) rfl (fun ls hl => ?_)
  suffices hlp9 : ∀ (n9 : Nat) (i : Nat), 2 ^ dp - i < n9 → (i ≤ 2 ^ dp) → ∀ ls : Array Slot, lv_has ls 4 [(0, .ref (a 2)), (1, .int (nI (2 ^ dp))), (2, .int (nI (so (fun q => if q % 2 ^ ldp q = q then 1 else 0) i))), (3, .int (nI (i)))] → W p l e ({ frames := 3, cells := 0, slots := 0, locals := 62 } : Room) s m args below meth c s.heap [] 0 0 (MQ below (tq_Qf (fun r => r = (nI (so (fun q => if q % 2 ^ ldp q = q then 1 else 0) (2 ^ dp))))) args s 0 0 (fun _ => False)) (F0 m 9 ls []) from
    hlp9 (2 ^ dp + 1) 0 (by omega) (by omega) _ (lv_sub hl [3, 2, 1, 0] rfl)
  intro n9
  induction n9 with
  | zero => intro i hf; exact absurd hf (Nat.not_lt_zero _)
  | succ n9 ih9 =>
    intro i hf9 hi ls hl
    refine lv_iload_n hx hb dX0_countBuckets_9 rfl (lv_at hl 3 rfl) ?_
    refine lv_iload_n hx hb dX0_countBuckets_10 rfl (lv_at hl 1 rfl) ?_
    refine tq_icmp_ge (tgt := 32) C (by omega) (by omega) dX0_countBuckets_11 (by decide) (fun h11 => ?_) (fun h11 => ?_)
    · refine lv_iload_n hx hb dX0_countBuckets_32 rfl (lv_at hl 2 rfl) ?_
      exact tq_fret (v := (nI (so (fun q => if q % 2 ^ ldp q = q then 1 else 0) i))) C rfl (by rw [show i = 2 ^ dp from by omega]) dX0_countBuckets_33
    · refine lv_aload_n hx hb dX0_countBuckets_14 rfl (lv_at hl 0 rfl) ?_
      refine lv_iload_n hx hb dX0_countBuckets_15 rfl (lv_at hl 3 rfl) ?_
      refine tq_callF (va_runV C.fix (As := [.int (nI (i))]) (rest := []) (c_X0_rowAt l D cy a key val ord tk cp efi ela eco ene ldp dp dbl hlv spl mrg lfi lla lco lne lev ptr llo lhi lsp i hld (by omega)) (tq_cV (n := 1) C ml_X0_48 im_X0_rowAt se_X0_rowAt ini_X0 cd_X0_rowAt ⟨by decide, by decide, by decide +kernel⟩ ⟨Nat.le_of_ble_eq_true rfl, Nat.le_of_ble_eq_true rfl⟩) ⟨tq_Pf.blind, va_recv hK hP (ci := 0) (q0 := 2) rfl rfl, tq_preF C hK hP⟩ rfl rfl hl.1 rfl (lv_room (Nat.le_of_ble_eq_true rfl)) dX0_countBuckets_16 ⟨Nat.le_of_ble_eq_true rfl, Nat.le_of_ble_eq_true rfl⟩) (fun r16 hr16 => ?_)
      obtain rfl := hr16
      refine lv_iload_n hx hb dX0_countBuckets_19 rfl (lv_at hl 3 rfl) ?_
      refine tq_icmp_ne (tgt := 26) C (Nat.lt_of_le_of_lt (Nat.mod_le _ _) (by omega)) (by omega) dX0_countBuckets_20 (by decide) (fun h20 => ?_) (fun h20 => ?_)
      · refine lv_iinc (v := (nI (i + 1))) (lv' := [(3, .int (nI (i + 1))), (0, .ref (a 2)), (1, .int (nI (2 ^ dp))), (2, .int (nI (so (fun q => if q % 2 ^ ldp q = q then 1 else 0) i)))]) hx hb dX0_countBuckets_26 hl (k := 3) rfl (tq_inc1 _) (by decide) rfl (fun ls hl => ?_)
        refine lv_goto (tgt := 9) hx hb dX0_countBuckets_29 (by decide) ?_
        rw [show so (fun q => if q % 2 ^ ldp q = q then 1 else 0) i = so (fun q => if q % 2 ^ ldp q = q then 1 else 0) (i + 1) from by simp [so, h20]] at hl
        exact ih9 (i + 1) (by omega) (by omega) _ (lv_sub hl [1, 2, 3, 0] rfl)
      · refine lv_iinc (v := (nI ((so (fun q => if q % 2 ^ ldp q = q then 1 else 0) i) + 1))) (lv' := [(2, .int (nI ((so (fun q => if q % 2 ^ ldp q = q then 1 else 0) i) + 1))), (0, .ref (a 2)), (1, .int (nI (2 ^ dp))), (3, .int (nI (i)))]) hx hb dX0_countBuckets_23 hl (k := 2) rfl (tq_inc1 _) (by decide) rfl (fun ls hl => ?_)
        refine lv_iinc (v := (nI (i + 1))) (lv' := [(3, .int (nI (i + 1))), (2, .int (nI ((so (fun q => if q % 2 ^ ldp q = q then 1 else 0) i) + 1))), (0, .ref (a 2)), (1, .int (nI (2 ^ dp)))]) hx hb dX0_countBuckets_26 hl (k := 3) rfl (tq_inc1 _) (by decide) rfl (fun ls hl => ?_)
        refine lv_goto (tgt := 9) hx hb dX0_countBuckets_29 (by decide) ?_
        rw [show so (fun q => if q % 2 ^ ldp q = q then 1 else 0) i + 1 = so (fun q => if q % 2 ^ ldp q = q then 1 else 0) (i + 1) from by simp [so, h20]] at hl
        exact ih9 (i + 1) (by omega) (by omega) _ (lv_sub hl [2, 3, 1, 0] rfl)
