def wK (cy : ClassId) (sa : Nat) (ka : Nat) (va : Nat) (oa : Nat) (key : Nat → Nat) (tk : Nat) (cp : Nat) : va_W := [
  (sa, .inr (3, [.ref (ka), .ref (va), .ref (oa), .int (nI (tk)), .int (nI (cp))])),
  (ka, .inl (cy, 121, .inl (fun j => nI (key j))))]
def wR (cy : ClassId) (rr : Nat) (rf : Nat) (rl : Nat) (rc : Nat) (rn : Nat) (sa : Nat) (ka : Nat) (va : Nat) (oa : Nat) (fi : Nat → Nat) (la : Nat → Nat) (co : Nat → Nat) (ne : Nat → Nat) (key : Nat → Nat) (tk : Nat) (cp : Nat) : va_W := [
  (rr, .inr (2, [.ref (sa), .ref (rf), .ref (rl), .ref (rc), .ref (rn)])),
  (rf, .inl (cy, 256, .inl (fun j => nI (fi j)))),
  (rl, .inl (cy, 256, .inl (fun j => nI (la j)))),
  (rc, .inl (cy, 256, .inl (fun j => nI (co j)))),
  (rn, .inl (cy, 121, .inl (fun j => nI (ne j)))),
  (sa, .inr (3, [.ref (ka), .ref (va), .ref (oa), .int (nI (tk)), .int (nI (cp))])),
  (ka, .inl (cy, 121, .inl (fun j => nI (key j))))]
def wC (cy : ClassId) (a : Nat → Nat) (key : Nat → Nat) (val : Nat → Nat) (ord : Nat → Nat) (tk : Nat) (cp : Nat) (efi : Nat → Nat) (ela : Nat → Nat) (eco : Nat → Nat) (ene : Nat → Nat) (ldp : Nat → Nat) (dp : Nat) (dbl : Int32) (hlv : Int32) (spl : Int32) (mrg : Int32) (lfi : Nat → Nat) (lla : Nat → Nat) (lco : Nat → Nat) (lne : Nat → Nat) (lev : Nat) (ptr : Nat) (llo : Nat) (lhi : Nat) (lsp : Int32) : va_W := [
  (a 0, .inr (4, [.ref (a 1), .ref (a 2), .ref (a 3)])),
  (a 1, .inr (3, [.ref (a 4), .ref (a 5), .ref (a 6), .int (nI (tk)), .int (nI (cp))])),
  (a 2, .inr (0, [.ref (a 1), .ref (a 7), .ref (a 8), .int (nI (dp)), .int (dbl), .int (hlv), .int (spl), .int (mrg)])),
  (a 3, .inr (1, [.ref (a 1), .ref (a 9), .int (nI (lev)), .int (nI (ptr)), .int (nI (llo)), .int (nI (lhi)), .int (lsp)])),
  (a 4, .inl (cy, 121, .inl (fun j => nI (key j)))),
  (a 5, .inl (cy, 121, .inl (fun j => nI (val j)))),
  (a 6, .inl (cy, 120, .inl (fun j => nI (ord j)))),
  (a 7, .inr (2, [.ref (a 1), .ref (a 10), .ref (a 11), .ref (a 12), .ref (a 13)])),
  (a 8, .inl (cy, 256, .inl (fun j => nI (ldp j)))),
  (a 9, .inr (2, [.ref (a 1), .ref (a 14), .ref (a 15), .ref (a 16), .ref (a 17)])),
  (a 10, .inl (cy, 256, .inl (fun j => nI (efi j)))),
  (a 11, .inl (cy, 256, .inl (fun j => nI (ela j)))),
  (a 12, .inl (cy, 256, .inl (fun j => nI (eco j)))),
  (a 13, .inl (cy, 121, .inl (fun j => nI (ene j)))),
  (a 14, .inl (cy, 256, .inl (fun j => nI (lfi j)))),
  (a 15, .inl (cy, 256, .inl (fun j => nI (lla j)))),
  (a 16, .inl (cy, 256, .inl (fun j => nI (lco j)))),
  (a 17, .inl (cy, 121, .inl (fun j => nI (lne j))))]
theorem gX0 : (u_ws RX0 TX0 8).all tq_g = true := by decide +kernel
theorem gX1 : (u_ws RX1 TX1 7).all tq_g = true := by decide +kernel
theorem gX2 : (u_ws RX2 TX2 5).all tq_g = true := by decide +kernel
theorem gX3 : (u_ws RX3 TX3 5).all tq_g = true := by decide +kernel
theorem gX4 : (u_ws RX4 TX4 3).all tq_g = true := by decide +kernel
theorem gX5 : (u_ws RX5 TX5 19).all tq_g = true := by decide +kernel
theorem dX3_keyOf_0 : decode cX3_keyOf 0 = .ok (.iload_n 1, 1) := by decide +kernel
theorem dX3_keyOf_1 : decode cX3_keyOf 1 = .ok (.invokestatic 28, 3) := by decide +kernel
theorem dX3_keyOf_4 : decode cX3_keyOf 4 = .ok (.ifCond .eq 12, 3) := by decide +kernel
theorem dX3_keyOf_7 : decode cX3_keyOf 7 = .ok (.aload_n 0, 1) := by decide +kernel
theorem dX3_keyOf_8 : decode cX3_keyOf 8 = .ok (.getfield 9, 3) := by decide +kernel
theorem dX3_keyOf_11 : decode cX3_keyOf 11 = .ok (.iload_n 1, 1) := by decide +kernel
theorem dX3_keyOf_12 : decode cX3_keyOf 12 = .ok (.iaload, 1) := by decide +kernel
theorem dX3_keyOf_13 : decode cX3_keyOf 13 = .ok (.goto 4, 3) := by decide +kernel
theorem dX3_keyOf_16 : decode cX3_keyOf 16 = .ok (.iconst 0, 1) := by decide +kernel
theorem dX3_keyOf_17 : decode cX3_keyOf 17 = .ok (.ireturn, 1) := by decide +kernel
theorem dX2_count_0 : decode cX2_count 0 = .ok (.iload_n 1, 1) := by decide +kernel
theorem dX2_count_1 : decode cX2_count 1 = .ok (.invokestatic 28, 3) := by decide +kernel
theorem dX2_count_4 : decode cX2_count 4 = .ok (.ifCond .eq 12, 3) := by decide +kernel
theorem dX2_count_7 : decode cX2_count 7 = .ok (.aload_n 0, 1) := by decide +kernel
theorem dX2_count_8 : decode cX2_count 8 = .ok (.getfield 18, 3) := by decide +kernel
theorem dX2_count_11 : decode cX2_count 11 = .ok (.iload_n 1, 1) := by decide +kernel
theorem dX2_count_12 : decode cX2_count 12 = .ok (.iaload, 1) := by decide +kernel
theorem dX2_count_13 : decode cX2_count 13 = .ok (.goto 4, 3) := by decide +kernel
theorem dX2_count_16 : decode cX2_count 16 = .ok (.iconst 0, 1) := by decide +kernel
theorem dX2_count_17 : decode cX2_count 17 = .ok (.ireturn, 1) := by decide +kernel
theorem dX2_firstOf_0 : decode cX2_firstOf 0 = .ok (.iload_n 1, 1) := by decide +kernel
theorem dX2_firstOf_1 : decode cX2_firstOf 1 = .ok (.invokestatic 28, 3) := by decide +kernel
theorem dX2_firstOf_4 : decode cX2_firstOf 4 = .ok (.ifCond .eq 12, 3) := by decide +kernel
theorem dX2_firstOf_7 : decode cX2_firstOf 7 = .ok (.aload_n 0, 1) := by decide +kernel
theorem dX2_firstOf_8 : decode cX2_firstOf 8 = .ok (.getfield 9, 3) := by decide +kernel
theorem dX2_firstOf_11 : decode cX2_firstOf 11 = .ok (.iload_n 1, 1) := by decide +kernel
theorem dX2_firstOf_12 : decode cX2_firstOf 12 = .ok (.iaload, 1) := by decide +kernel
theorem dX2_firstOf_13 : decode cX2_firstOf 13 = .ok (.goto 4, 3) := by decide +kernel
theorem dX2_firstOf_16 : decode cX2_firstOf 16 = .ok (.iconst 0, 1) := by decide +kernel
theorem dX2_firstOf_17 : decode cX2_firstOf 17 = .ok (.ireturn, 1) := by decide +kernel
theorem dX2_after_0 : decode cX2_after 0 = .ok (.iload_n 1, 1) := by decide +kernel
theorem dX2_after_1 : decode cX2_after 1 = .ok (.invokestatic 46, 3) := by decide +kernel
theorem dX2_after_4 : decode cX2_after 4 = .ok (.ifCond .eq 12, 3) := by decide +kernel
theorem dX2_after_7 : decode cX2_after 7 = .ok (.aload_n 0, 1) := by decide +kernel
theorem dX2_after_8 : decode cX2_after 8 = .ok (.getfield 21, 3) := by decide +kernel
theorem dX2_after_11 : decode cX2_after 11 = .ok (.iload_n 1, 1) := by decide +kernel
theorem dX2_after_12 : decode cX2_after 12 = .ok (.iaload, 1) := by decide +kernel
theorem dX2_after_13 : decode cX2_after 13 = .ok (.goto 4, 3) := by decide +kernel
theorem dX2_after_16 : decode cX2_after 16 = .ok (.iconst 0, 1) := by decide +kernel
theorem dX2_after_17 : decode cX2_after 17 = .ok (.ireturn, 1) := by decide +kernel
theorem dX2_entryAt_0 : decode cX2_entryAt 0 = .ok (.aload_n 0, 1) := by decide +kernel
theorem dX2_entryAt_1 : decode cX2_entryAt 1 = .ok (.iload_n 1, 1) := by decide +kernel
theorem dX2_entryAt_2 : decode cX2_entryAt 2 = .ok (.invokevirtual 32, 3) := by decide +kernel
theorem dX2_entryAt_5 : decode cX2_entryAt 5 = .ok (.istore_n 3, 1) := by decide +kernel
theorem dX2_entryAt_6 : decode cX2_entryAt 6 = .ok (.iconst 0, 1) := by decide +kernel
theorem dX2_entryAt_7 : decode cX2_entryAt 7 = .ok (.istore 4, 2) := by decide +kernel
theorem dX2_entryAt_9 : decode cX2_entryAt 9 = .ok (.iload 4, 2) := by decide +kernel
theorem dX2_entryAt_11 : decode cX2_entryAt 11 = .ok (.iload_n 2, 1) := by decide +kernel
theorem dX2_entryAt_12 : decode cX2_entryAt 12 = .ok (.if_icmp .ge 15, 3) := by decide +kernel
theorem dX2_entryAt_15 : decode cX2_entryAt 15 = .ok (.aload_n 0, 1) := by decide +kernel
theorem dX2_entryAt_16 : decode cX2_entryAt 16 = .ok (.iload_n 3, 1) := by decide +kernel
theorem dX2_entryAt_17 : decode cX2_entryAt 17 = .ok (.invokevirtual 36, 3) := by decide +kernel
theorem dX2_entryAt_20 : decode cX2_entryAt 20 = .ok (.istore_n 3, 1) := by decide +kernel
theorem dX2_entryAt_21 : decode cX2_entryAt 21 = .ok (.iinc 4 1, 3) := by decide +kernel
theorem dX2_entryAt_24 : decode cX2_entryAt 24 = .ok (.goto (-15), 3) := by decide +kernel
theorem dX2_entryAt_27 : decode cX2_entryAt 27 = .ok (.iload_n 3, 1) := by decide +kernel
theorem dX2_entryAt_28 : decode cX2_entryAt 28 = .ok (.ireturn, 1) := by decide +kernel
theorem dX2_placeOf_0 : decode cX2_placeOf 0 = .ok (.aload_n 0, 1) := by decide +kernel
theorem dX2_placeOf_1 : decode cX2_placeOf 1 = .ok (.iload_n 1, 1) := by decide +kernel
theorem dX2_placeOf_2 : decode cX2_placeOf 2 = .ok (.invokevirtual 56, 3) := by decide +kernel
theorem dX2_placeOf_5 : decode cX2_placeOf 5 = .ok (.istore_n 3, 1) := by decide +kernel
theorem dX2_placeOf_6 : decode cX2_placeOf 6 = .ok (.aload_n 0, 1) := by decide +kernel
theorem dX2_placeOf_7 : decode cX2_placeOf 7 = .ok (.iload_n 1, 1) := by decide +kernel
theorem dX2_placeOf_8 : decode cX2_placeOf 8 = .ok (.invokevirtual 32, 3) := by decide +kernel
theorem dX2_placeOf_11 : decode cX2_placeOf 11 = .ok (.istore 4, 2) := by decide +kernel
theorem dX2_placeOf_13 : decode cX2_placeOf 13 = .ok (.iconst 0, 1) := by decide +kernel
theorem dX2_placeOf_14 : decode cX2_placeOf 14 = .ok (.istore 5, 2) := by decide +kernel
theorem dX2_placeOf_16 : decode cX2_placeOf 16 = .ok (.iload 5, 2) := by decide +kernel
theorem dX2_placeOf_18 : decode cX2_placeOf 18 = .ok (.iload_n 3, 1) := by decide +kernel
theorem dX2_placeOf_19 : decode cX2_placeOf 19 = .ok (.if_icmp .ge 33, 3) := by decide +kernel
theorem dX2_placeOf_22 : decode cX2_placeOf 22 = .ok (.aload_n 0, 1) := by decide +kernel
theorem dX2_placeOf_23 : decode cX2_placeOf 23 = .ok (.getfield 24, 3) := by decide +kernel
theorem dX2_placeOf_26 : decode cX2_placeOf 26 = .ok (.iload 4, 2) := by decide +kernel
theorem dX2_placeOf_28 : decode cX2_placeOf 28 = .ok (.invokevirtual 63, 3) := by decide +kernel
theorem dX2_placeOf_31 : decode cX2_placeOf 31 = .ok (.iload_n 2, 1) := by decide +kernel
theorem dX2_placeOf_32 : decode cX2_placeOf 32 = .ok (.if_icmp .ne 6, 3) := by decide +kernel
theorem dX2_placeOf_35 : decode cX2_placeOf 35 = .ok (.iload 5, 2) := by decide +kernel
theorem dX2_placeOf_37 : decode cX2_placeOf 37 = .ok (.ireturn, 1) := by decide +kernel
theorem dX2_placeOf_38 : decode cX2_placeOf 38 = .ok (.aload_n 0, 1) := by decide +kernel
theorem dX2_placeOf_39 : decode cX2_placeOf 39 = .ok (.iload 4, 2) := by decide +kernel
theorem dX2_placeOf_41 : decode cX2_placeOf 41 = .ok (.invokevirtual 36, 3) := by decide +kernel
theorem dX2_placeOf_44 : decode cX2_placeOf 44 = .ok (.istore 4, 2) := by decide +kernel
theorem dX2_placeOf_46 : decode cX2_placeOf 46 = .ok (.iinc 5 1, 3) := by decide +kernel
theorem dX2_placeOf_49 : decode cX2_placeOf 49 = .ok (.goto (-33), 3) := by decide +kernel
theorem dX2_placeOf_52 : decode cX2_placeOf 52 = .ok (.iconst (-1), 1) := by decide +kernel
theorem dX2_placeOf_53 : decode cX2_placeOf 53 = .ok (.ireturn, 1) := by decide +kernel
theorem dX2_find_0 : decode cX2_find 0 = .ok (.aload_n 0, 1) := by decide +kernel
theorem dX2_find_1 : decode cX2_find 1 = .ok (.iload_n 1, 1) := by decide +kernel
theorem dX2_find_2 : decode cX2_find 2 = .ok (.iload_n 2, 1) := by decide +kernel
theorem dX2_find_3 : decode cX2_find 3 = .ok (.invokevirtual 39, 3) := by decide +kernel
theorem dX2_find_6 : decode cX2_find 6 = .ok (.istore_n 3, 1) := by decide +kernel
theorem dX2_find_7 : decode cX2_find 7 = .ok (.iload_n 3, 1) := by decide +kernel
theorem dX2_find_8 : decode cX2_find 8 = .ok (.iconst (-1), 1) := by decide +kernel
theorem dX2_find_9 : decode cX2_find 9 = .ok (.if_icmp .ne 7, 3) := by decide +kernel
theorem dX2_find_12 : decode cX2_find 12 = .ok (.iconst 0, 1) := by decide +kernel
theorem dX2_find_13 : decode cX2_find 13 = .ok (.goto 9, 3) := by decide +kernel
theorem dX2_find_16 : decode cX2_find 16 = .ok (.aload_n 0, 1) := by decide +kernel
theorem dX2_find_17 : decode cX2_find 17 = .ok (.iload_n 1, 1) := by decide +kernel
theorem dX2_find_18 : decode cX2_find 18 = .ok (.iload_n 3, 1) := by decide +kernel
theorem dX2_find_19 : decode cX2_find 19 = .ok (.invokevirtual 43, 3) := by decide +kernel
theorem dX2_find_22 : decode cX2_find 22 = .ok (.ireturn, 1) := by decide +kernel
theorem dX2_append_0 : decode cX2_append 0 = .ok (.iload_n 1, 1) := by decide +kernel
theorem dX2_append_1 : decode cX2_append 1 = .ok (.invokestatic 28, 3) := by decide +kernel
theorem dX2_append_4 : decode cX2_append 4 = .ok (.ifCond .eq 10, 3) := by decide +kernel
theorem dX2_append_7 : decode cX2_append 7 = .ok (.iload_n 2, 1) := by decide +kernel
theorem dX2_append_8 : decode cX2_append 8 = .ok (.invokestatic 46, 3) := by decide +kernel
theorem dX2_append_11 : decode cX2_append 11 = .ok (.ifCond .ne 4, 3) := by decide +kernel
theorem dX2_append_14 : decode cX2_append 14 = .ok (.return_, 1) := by decide +kernel
theorem dX2_append_15 : decode cX2_append 15 = .ok (.aload_n 0, 1) := by decide +kernel
theorem dX2_append_16 : decode cX2_append 16 = .ok (.getfield 15, 3) := by decide +kernel
theorem dX2_append_19 : decode cX2_append 19 = .ok (.iload_n 1, 1) := by decide +kernel
theorem dX2_append_20 : decode cX2_append 20 = .ok (.iaload, 1) := by decide +kernel
theorem dX2_append_21 : decode cX2_append 21 = .ok (.istore_n 3, 1) := by decide +kernel
theorem dX2_append_22 : decode cX2_append 22 = .ok (.iload_n 3, 1) := by decide +kernel
theorem dX2_append_23 : decode cX2_append 23 = .ok (.invokestatic 46, 3) := by decide +kernel
theorem dX2_append_26 : decode cX2_append 26 = .ok (.ifCond .eq 13, 3) := by decide +kernel
theorem dX2_append_29 : decode cX2_append 29 = .ok (.aload_n 0, 1) := by decide +kernel
theorem dX2_append_30 : decode cX2_append 30 = .ok (.getfield 21, 3) := by decide +kernel
theorem dX2_append_33 : decode cX2_append 33 = .ok (.iload_n 3, 1) := by decide +kernel
theorem dX2_append_34 : decode cX2_append 34 = .ok (.iload_n 2, 1) := by decide +kernel
theorem dX2_append_35 : decode cX2_append 35 = .ok (.iastore, 1) := by decide +kernel
theorem dX2_append_36 : decode cX2_append 36 = .ok (.goto 10, 3) := by decide +kernel
theorem dX2_append_39 : decode cX2_append 39 = .ok (.aload_n 0, 1) := by decide +kernel
theorem dX2_append_40 : decode cX2_append 40 = .ok (.getfield 9, 3) := by decide +kernel
theorem dX2_append_43 : decode cX2_append 43 = .ok (.iload_n 1, 1) := by decide +kernel
theorem dX2_append_44 : decode cX2_append 44 = .ok (.iload_n 2, 1) := by decide +kernel
theorem dX2_append_45 : decode cX2_append 45 = .ok (.iastore, 1) := by decide +kernel
theorem dX2_append_46 : decode cX2_append 46 = .ok (.aload_n 0, 1) := by decide +kernel
theorem dX2_append_47 : decode cX2_append 47 = .ok (.getfield 21, 3) := by decide +kernel
theorem dX2_append_50 : decode cX2_append 50 = .ok (.iload_n 2, 1) := by decide +kernel
theorem dX2_append_51 : decode cX2_append 51 = .ok (.iconst 0, 1) := by decide +kernel
theorem dX2_append_52 : decode cX2_append 52 = .ok (.iastore, 1) := by decide +kernel
theorem dX2_append_53 : decode cX2_append 53 = .ok (.aload_n 0, 1) := by decide +kernel
theorem dX2_append_54 : decode cX2_append 54 = .ok (.getfield 15, 3) := by decide +kernel
theorem dX2_append_57 : decode cX2_append 57 = .ok (.iload_n 1, 1) := by decide +kernel
theorem dX2_append_58 : decode cX2_append 58 = .ok (.iload_n 2, 1) := by decide +kernel
theorem dX2_append_59 : decode cX2_append 59 = .ok (.iastore, 1) := by decide +kernel
theorem dX2_append_60 : decode cX2_append 60 = .ok (.aload_n 0, 1) := by decide +kernel
theorem dX2_append_61 : decode cX2_append 61 = .ok (.getfield 18, 3) := by decide +kernel
theorem dX2_append_64 : decode cX2_append 64 = .ok (.iload_n 1, 1) := by decide +kernel
theorem dX2_append_65 : decode cX2_append 65 = .ok (.dup2, 1) := by decide +kernel
theorem dX2_append_66 : decode cX2_append 66 = .ok (.iaload, 1) := by decide +kernel
theorem dX2_append_67 : decode cX2_append 67 = .ok (.iconst 1, 1) := by decide +kernel
theorem dX2_append_68 : decode cX2_append 68 = .ok (.iadd, 1) := by decide +kernel
theorem dX2_append_69 : decode cX2_append 69 = .ok (.iastore, 1) := by decide +kernel
theorem dX2_append_70 : decode cX2_append 70 = .ok (.return_, 1) := by decide +kernel
theorem dX2_entryBefore_0 : decode cX2_entryBefore 0 = .ok (.iconst 0, 1) := by decide +kernel
theorem dX2_entryBefore_1 : decode cX2_entryBefore 1 = .ok (.istore_n 3, 1) := by decide +kernel
theorem dX2_entryBefore_2 : decode cX2_entryBefore 2 = .ok (.aload_n 0, 1) := by decide +kernel
theorem dX2_entryBefore_3 : decode cX2_entryBefore 3 = .ok (.iload_n 1, 1) := by decide +kernel
theorem dX2_entryBefore_4 : decode cX2_entryBefore 4 = .ok (.invokevirtual 32, 3) := by decide +kernel
theorem dX2_entryBefore_7 : decode cX2_entryBefore 7 = .ok (.istore 4, 2) := by decide +kernel
theorem dX2_entryBefore_9 : decode cX2_entryBefore 9 = .ok (.aload_n 0, 1) := by decide +kernel
theorem dX2_entryBefore_10 : decode cX2_entryBefore 10 = .ok (.iload_n 1, 1) := by decide +kernel
theorem dX2_entryBefore_11 : decode cX2_entryBefore 11 = .ok (.invokevirtual 56, 3) := by decide +kernel
theorem dX2_entryBefore_14 : decode cX2_entryBefore 14 = .ok (.istore 5, 2) := by decide +kernel
theorem dX2_entryBefore_16 : decode cX2_entryBefore 16 = .ok (.iconst 0, 1) := by decide +kernel
theorem dX2_entryBefore_17 : decode cX2_entryBefore 17 = .ok (.istore 6, 2) := by decide +kernel
theorem dX2_entryBefore_19 : decode cX2_entryBefore 19 = .ok (.iload 6, 2) := by decide +kernel
theorem dX2_entryBefore_21 : decode cX2_entryBefore 21 = .ok (.iload 5, 2) := by decide +kernel
theorem dX2_entryBefore_23 : decode cX2_entryBefore 23 = .ok (.if_icmp .ge 26, 3) := by decide +kernel
theorem dX2_entryBefore_26 : decode cX2_entryBefore 26 = .ok (.iload 4, 2) := by decide +kernel
theorem dX2_entryBefore_28 : decode cX2_entryBefore 28 = .ok (.iload_n 2, 1) := by decide +kernel
theorem dX2_entryBefore_29 : decode cX2_entryBefore 29 = .ok (.if_icmp .eq 20, 3) := by decide +kernel
theorem dX2_entryBefore_32 : decode cX2_entryBefore 32 = .ok (.iload 4, 2) := by decide +kernel
theorem dX2_entryBefore_34 : decode cX2_entryBefore 34 = .ok (.istore_n 3, 1) := by decide +kernel
theorem dX2_entryBefore_35 : decode cX2_entryBefore 35 = .ok (.aload_n 0, 1) := by decide +kernel
theorem dX2_entryBefore_36 : decode cX2_entryBefore 36 = .ok (.iload 4, 2) := by decide +kernel
theorem dX2_entryBefore_38 : decode cX2_entryBefore 38 = .ok (.invokevirtual 36, 3) := by decide +kernel
theorem dX2_entryBefore_41 : decode cX2_entryBefore 41 = .ok (.istore 4, 2) := by decide +kernel
theorem dX2_entryBefore_43 : decode cX2_entryBefore 43 = .ok (.iinc 6 1, 3) := by decide +kernel
theorem dX2_entryBefore_46 : decode cX2_entryBefore 46 = .ok (.goto (-27), 3) := by decide +kernel
theorem dX2_entryBefore_49 : decode cX2_entryBefore 49 = .ok (.iload_n 3, 1) := by decide +kernel
theorem dX2_entryBefore_50 : decode cX2_entryBefore 50 = .ok (.ireturn, 1) := by decide +kernel
theorem dX2_unlink_0 : decode cX2_unlink 0 = .ok (.iload_n 1, 1) := by decide +kernel
theorem dX2_unlink_1 : decode cX2_unlink 1 = .ok (.invokestatic 28, 3) := by decide +kernel
theorem dX2_unlink_4 : decode cX2_unlink 4 = .ok (.ifCond .eq 10, 3) := by decide +kernel
theorem dX2_unlink_7 : decode cX2_unlink 7 = .ok (.iload_n 2, 1) := by decide +kernel
theorem dX2_unlink_8 : decode cX2_unlink 8 = .ok (.invokestatic 46, 3) := by decide +kernel
theorem dX2_unlink_11 : decode cX2_unlink 11 = .ok (.ifCond .ne 4, 3) := by decide +kernel
theorem dX2_unlink_14 : decode cX2_unlink 14 = .ok (.return_, 1) := by decide +kernel
theorem dX2_unlink_15 : decode cX2_unlink 15 = .ok (.aload_n 0, 1) := by decide +kernel
theorem dX2_unlink_16 : decode cX2_unlink 16 = .ok (.iload_n 1, 1) := by decide +kernel
theorem dX2_unlink_17 : decode cX2_unlink 17 = .ok (.iload_n 2, 1) := by decide +kernel
theorem dX2_unlink_18 : decode cX2_unlink 18 = .ok (.invokevirtual 49, 3) := by decide +kernel
theorem dX2_unlink_21 : decode cX2_unlink 21 = .ok (.istore_n 3, 1) := by decide +kernel
theorem dX2_unlink_22 : decode cX2_unlink 22 = .ok (.iload_n 3, 1) := by decide +kernel
theorem dX2_unlink_23 : decode cX2_unlink 23 = .ok (.invokestatic 46, 3) := by decide +kernel
theorem dX2_unlink_26 : decode cX2_unlink 26 = .ok (.ifCond .eq 18, 3) := by decide +kernel
theorem dX2_unlink_29 : decode cX2_unlink 29 = .ok (.aload_n 0, 1) := by decide +kernel
theorem dX2_unlink_30 : decode cX2_unlink 30 = .ok (.getfield 21, 3) := by decide +kernel
theorem dX2_unlink_33 : decode cX2_unlink 33 = .ok (.iload_n 3, 1) := by decide +kernel
theorem dX2_unlink_34 : decode cX2_unlink 34 = .ok (.aload_n 0, 1) := by decide +kernel
theorem dX2_unlink_35 : decode cX2_unlink 35 = .ok (.getfield 21, 3) := by decide +kernel
theorem dX2_unlink_38 : decode cX2_unlink 38 = .ok (.iload_n 2, 1) := by decide +kernel
theorem dX2_unlink_39 : decode cX2_unlink 39 = .ok (.iaload, 1) := by decide +kernel
theorem dX2_unlink_40 : decode cX2_unlink 40 = .ok (.iastore, 1) := by decide +kernel
theorem dX2_unlink_41 : decode cX2_unlink 41 = .ok (.goto 15, 3) := by decide +kernel
theorem dX2_unlink_44 : decode cX2_unlink 44 = .ok (.aload_n 0, 1) := by decide +kernel
theorem dX2_unlink_45 : decode cX2_unlink 45 = .ok (.getfield 9, 3) := by decide +kernel
theorem dX2_unlink_48 : decode cX2_unlink 48 = .ok (.iload_n 1, 1) := by decide +kernel
theorem dX2_unlink_49 : decode cX2_unlink 49 = .ok (.aload_n 0, 1) := by decide +kernel
theorem dX2_unlink_50 : decode cX2_unlink 50 = .ok (.getfield 21, 3) := by decide +kernel
theorem dX2_unlink_53 : decode cX2_unlink 53 = .ok (.iload_n 2, 1) := by decide +kernel
theorem dX2_unlink_54 : decode cX2_unlink 54 = .ok (.iaload, 1) := by decide +kernel
theorem dX2_unlink_55 : decode cX2_unlink 55 = .ok (.iastore, 1) := by decide +kernel
theorem dX2_unlink_56 : decode cX2_unlink 56 = .ok (.aload_n 0, 1) := by decide +kernel
theorem dX2_unlink_57 : decode cX2_unlink 57 = .ok (.getfield 15, 3) := by decide +kernel
theorem dX2_unlink_60 : decode cX2_unlink 60 = .ok (.iload_n 1, 1) := by decide +kernel
theorem dX2_unlink_61 : decode cX2_unlink 61 = .ok (.iaload, 1) := by decide +kernel
theorem dX2_unlink_62 : decode cX2_unlink 62 = .ok (.iload_n 2, 1) := by decide +kernel
theorem dX2_unlink_63 : decode cX2_unlink 63 = .ok (.if_icmp .ne 10, 3) := by decide +kernel
theorem dX2_unlink_66 : decode cX2_unlink 66 = .ok (.aload_n 0, 1) := by decide +kernel
theorem dX2_unlink_67 : decode cX2_unlink 67 = .ok (.getfield 15, 3) := by decide +kernel
theorem dX2_unlink_70 : decode cX2_unlink 70 = .ok (.iload_n 1, 1) := by decide +kernel
theorem dX2_unlink_71 : decode cX2_unlink 71 = .ok (.iload_n 3, 1) := by decide +kernel
theorem dX2_unlink_72 : decode cX2_unlink 72 = .ok (.iastore, 1) := by decide +kernel
theorem dX2_unlink_73 : decode cX2_unlink 73 = .ok (.aload_n 0, 1) := by decide +kernel
theorem dX2_unlink_74 : decode cX2_unlink 74 = .ok (.getfield 18, 3) := by decide +kernel
theorem dX2_unlink_77 : decode cX2_unlink 77 = .ok (.iload_n 1, 1) := by decide +kernel
theorem dX2_unlink_78 : decode cX2_unlink 78 = .ok (.dup2, 1) := by decide +kernel
theorem dX2_unlink_79 : decode cX2_unlink 79 = .ok (.iaload, 1) := by decide +kernel
theorem dX2_unlink_80 : decode cX2_unlink 80 = .ok (.iconst 1, 1) := by decide +kernel
theorem dX2_unlink_81 : decode cX2_unlink 81 = .ok (.isub, 1) := by decide +kernel
theorem dX2_unlink_82 : decode cX2_unlink 82 = .ok (.iastore, 1) := by decide +kernel
theorem dX2_unlink_83 : decode cX2_unlink 83 = .ok (.return_, 1) := by decide +kernel
theorem dX2_empty_0 : decode cX2_empty 0 = .ok (.iload_n 1, 1) := by decide +kernel
theorem dX2_empty_1 : decode cX2_empty 1 = .ok (.invokestatic 28, 3) := by decide +kernel
theorem dX2_empty_4 : decode cX2_empty 4 = .ok (.ifCond .eq 24, 3) := by decide +kernel
theorem dX2_empty_7 : decode cX2_empty 7 = .ok (.aload_n 0, 1) := by decide +kernel
theorem dX2_empty_8 : decode cX2_empty 8 = .ok (.getfield 9, 3) := by decide +kernel
theorem dX2_empty_11 : decode cX2_empty 11 = .ok (.iload_n 1, 1) := by decide +kernel
theorem dX2_empty_12 : decode cX2_empty 12 = .ok (.iconst 0, 1) := by decide +kernel
theorem dX2_empty_13 : decode cX2_empty 13 = .ok (.iastore, 1) := by decide +kernel
theorem dX2_empty_14 : decode cX2_empty 14 = .ok (.aload_n 0, 1) := by decide +kernel
theorem dX2_empty_15 : decode cX2_empty 15 = .ok (.getfield 15, 3) := by decide +kernel
theorem dX2_empty_18 : decode cX2_empty 18 = .ok (.iload_n 1, 1) := by decide +kernel
theorem dX2_empty_19 : decode cX2_empty 19 = .ok (.iconst 0, 1) := by decide +kernel
theorem dX2_empty_20 : decode cX2_empty 20 = .ok (.iastore, 1) := by decide +kernel
theorem dX2_empty_21 : decode cX2_empty 21 = .ok (.aload_n 0, 1) := by decide +kernel
theorem dX2_empty_22 : decode cX2_empty 22 = .ok (.getfield 18, 3) := by decide +kernel
theorem dX2_empty_25 : decode cX2_empty 25 = .ok (.iload_n 1, 1) := by decide +kernel
theorem dX2_empty_26 : decode cX2_empty 26 = .ok (.iconst 0, 1) := by decide +kernel
theorem dX2_empty_27 : decode cX2_empty 27 = .ok (.iastore, 1) := by decide +kernel
theorem dX2_empty_28 : decode cX2_empty 28 = .ok (.return_, 1) := by decide +kernel
set_option maxHeartbeats 4000000 in
set_option maxRecDepth 100000 in
theorem c_X3_keyOf (l : Launch) (D : va_G) (cy : ClassId) (sa : Nat) (ka : Nat) (va : Nat) (oa : Nat) (key : Nat → Nat) (tk : Nat) (cp : Nat) (en : Nat) (h1 : 1 ≤ en) (h2 : en ≤ 120) : tq_F l yX3_keyOf cX3_keyOf 2 (some .int) 1 20 D cy (wK cy sa ka va oa key tk cp) [.ref (sa), .int (nI (en))] (fun r => r = (nI (key en))) := by
  refine tq_F.mk (by decide) (Nat.le_of_ble_eq_true rfl) ?_
  intro p e s m args below meth c C hP hK ls hl
  obtain ⟨hx, hb, hml, hown, hrt, hlk, hT⟩ := id C
  have hl : lv_has ls 2 [(0, .ref (sa)), (1, .int (nI (en)))] := hl
  refine lv_iload_n hx hb dX3_keyOf_0 rfl (lv_at hl 1 rfl) ?_
  refine tq_callF (va_runSN C.fix (As := [.int (nI (en))]) (rest := []) (c_X4_isEntry l D cy en h1 h2) (tq_cN (n := 1) C mn_X3_28 sm_X4_isEntry ini_X4 cd_X4_isEntry ⟨by decide, by decide, by decide +kernel⟩ ⟨Nat.le_of_ble_eq_true rfl, Nat.le_of_ble_eq_true rfl⟩) ⟨tq_Pf.blind, tq_preF C hK (hP.sub [] rfl)⟩ rfl rfl hl.1 rfl (lv_room (Nat.le_of_ble_eq_true rfl)) dX3_keyOf_1 ⟨Nat.le_of_ble_eq_true rfl, Nat.le_of_ble_eq_true rfl⟩) (fun r1 hr1 => ?_)
  obtain rfl := hr1
  refine lv_if_eq (tgt := 16) hx hb dX3_keyOf_4 (by decide) (fun h9 => absurd h9 (by decide)) (fun _ => ?_)
  refine lv_aload_n hx hb dX3_keyOf_7 rfl (lv_at hl 0 rfl) ?_
  refine tq_get (C0 := RX3) (T := TX3) (N := 5) (ci := 3) (k := 0) C gX3 inX3 rfl (by decide) rfl fl_X3_9 hK hP 0 rfl rfl dX3_keyOf_8 ?_
  refine lv_iload_n hx hb dX3_keyOf_11 rfl (lv_at hl 1 rfl) ?_
  refine tq_iald (n := 121) (i := en) (f := key) C hK hP 1 0 rfl rfl (by omega) (Nat.le_of_ble_eq_true rfl) dX3_keyOf_12 ?_
  refine lv_goto (tgt := 17) hx hb dX3_keyOf_13 (by decide) ?_
  exact tq_fret (v := (nI (key en))) C rfl (rfl) dX3_keyOf_17
set_option maxHeartbeats 4000000 in
set_option maxRecDepth 100000 in
theorem c_X2_count (l : Launch) (D : va_G) (cy : ClassId) (rr : Nat) (rf : Nat) (rl : Nat) (rc : Nat) (rn : Nat) (sa : Nat) (ka : Nat) (va : Nat) (oa : Nat) (fi : Nat → Nat) (la : Nat → Nat) (co : Nat → Nat) (ne : Nat → Nat) (key : Nat → Nat) (tk : Nat) (cp : Nat) (row : Nat) (hrow : row < 256) : tq_F l yX2_count cX2_count 2 (some .int) 1 20 D cy (wR cy rr rf rl rc rn sa ka va oa fi la co ne key tk cp) [.ref (rr), .int (nI (row))] (fun r => r = (nI (co row))) := by
  refine tq_F.mk (by decide) (Nat.le_of_ble_eq_true rfl) ?_
  intro p e s m args below meth c C hP hK ls hl
  obtain ⟨hx, hb, hml, hown, hrt, hlk, hT⟩ := id C
  have hl : lv_has ls 2 [(0, .ref (rr)), (1, .int (nI (row)))] := hl
  refine lv_iload_n hx hb dX2_count_0 rfl (lv_at hl 1 rfl) ?_
  refine tq_callF (va_runSN C.fix (As := [.int (nI (row))]) (rest := []) (c_X4_isRow l D cy row hrow) (tq_cN (n := 1) C mn_X2_28 sm_X4_isRow ini_X4 cd_X4_isRow ⟨by decide, by decide, by decide +kernel⟩ ⟨Nat.le_of_ble_eq_true rfl, Nat.le_of_ble_eq_true rfl⟩) ⟨tq_Pf.blind, tq_preF C hK (hP.sub [] rfl)⟩ rfl rfl hl.1 rfl (lv_room (Nat.le_of_ble_eq_true rfl)) dX2_count_1 ⟨Nat.le_of_ble_eq_true rfl, Nat.le_of_ble_eq_true rfl⟩) (fun r1 hr1 => ?_)
  obtain rfl := hr1
  refine lv_if_eq (tgt := 16) hx hb dX2_count_4 (by decide) (fun h9 => absurd h9 (by decide)) (fun _ => ?_)
  refine lv_aload_n hx hb dX2_count_7 rfl (lv_at hl 0 rfl) ?_
  refine tq_get (C0 := RX2) (T := TX2) (N := 5) (ci := 2) (k := 3) C gX2 inX2 rfl (by decide) rfl fl_X2_18 hK hP 0 rfl rfl dX2_count_8 ?_
  refine lv_iload_n hx hb dX2_count_11 rfl (lv_at hl 1 rfl) ?_
  refine tq_iald (n := 256) (i := row) (f := co) C hK hP 3 0 rfl rfl (by omega) (Nat.le_of_ble_eq_true rfl) dX2_count_12 ?_
  refine lv_goto (tgt := 17) hx hb dX2_count_13 (by decide) ?_
  exact tq_fret (v := (nI (co row))) C rfl (rfl) dX2_count_17
set_option maxHeartbeats 4000000 in
set_option maxRecDepth 100000 in
theorem c_X2_firstOf (l : Launch) (D : va_G) (cy : ClassId) (rr : Nat) (rf : Nat) (rl : Nat) (rc : Nat) (rn : Nat) (sa : Nat) (ka : Nat) (va : Nat) (oa : Nat) (fi : Nat → Nat) (la : Nat → Nat) (co : Nat → Nat) (ne : Nat → Nat) (key : Nat → Nat) (tk : Nat) (cp : Nat) (row : Nat) (hrow : row < 256) : tq_F l yX2_firstOf cX2_firstOf 2 (some .int) 1 20 D cy (wR cy rr rf rl rc rn sa ka va oa fi la co ne key tk cp) [.ref (rr), .int (nI (row))] (fun r => r = (nI (fi row))) := by
  refine tq_F.mk (by decide) (Nat.le_of_ble_eq_true rfl) ?_
  intro p e s m args below meth c C hP hK ls hl
  obtain ⟨hx, hb, hml, hown, hrt, hlk, hT⟩ := id C
  have hl : lv_has ls 2 [(0, .ref (rr)), (1, .int (nI (row)))] := hl
  refine lv_iload_n hx hb dX2_firstOf_0 rfl (lv_at hl 1 rfl) ?_
  refine tq_callF (va_runSN C.fix (As := [.int (nI (row))]) (rest := []) (c_X4_isRow l D cy row hrow) (tq_cN (n := 1) C mn_X2_28 sm_X4_isRow ini_X4 cd_X4_isRow ⟨by decide, by decide, by decide +kernel⟩ ⟨Nat.le_of_ble_eq_true rfl, Nat.le_of_ble_eq_true rfl⟩) ⟨tq_Pf.blind, tq_preF C hK (hP.sub [] rfl)⟩ rfl rfl hl.1 rfl (lv_room (Nat.le_of_ble_eq_true rfl)) dX2_firstOf_1 ⟨Nat.le_of_ble_eq_true rfl, Nat.le_of_ble_eq_true rfl⟩) (fun r1 hr1 => ?_)
  obtain rfl := hr1
  refine lv_if_eq (tgt := 16) hx hb dX2_firstOf_4 (by decide) (fun h9 => absurd h9 (by decide)) (fun _ => ?_)
  refine lv_aload_n hx hb dX2_firstOf_7 rfl (lv_at hl 0 rfl) ?_
  refine tq_get (C0 := RX2) (T := TX2) (N := 5) (ci := 2) (k := 1) C gX2 inX2 rfl (by decide) rfl fl_X2_9 hK hP 0 rfl rfl dX2_firstOf_8 ?_
  refine lv_iload_n hx hb dX2_firstOf_11 rfl (lv_at hl 1 rfl) ?_
  refine tq_iald (n := 256) (i := row) (f := fi) C hK hP 1 0 rfl rfl (by omega) (Nat.le_of_ble_eq_true rfl) dX2_firstOf_12 ?_
  refine lv_goto (tgt := 17) hx hb dX2_firstOf_13 (by decide) ?_
  exact tq_fret (v := (nI (fi row))) C rfl (rfl) dX2_firstOf_17
set_option maxHeartbeats 4000000 in
set_option maxRecDepth 100000 in
theorem c_X2_after (l : Launch) (D : va_G) (cy : ClassId) (rr : Nat) (rf : Nat) (rl : Nat) (rc : Nat) (rn : Nat) (sa : Nat) (ka : Nat) (va : Nat) (oa : Nat) (fi : Nat → Nat) (la : Nat → Nat) (co : Nat → Nat) (ne : Nat → Nat) (key : Nat → Nat) (tk : Nat) (cp : Nat) (en : Nat) (h2 : en ≤ 120) : tq_F l yX2_after cX2_after 2 (some .int) 1 20 D cy (wR cy rr rf rl rc rn sa ka va oa fi la co ne key tk cp) [.ref (rr), .int (nI (en))] (fun r => r = (nI (nx ne en))) := by
  refine tq_F.mk (by decide) (Nat.le_of_ble_eq_true rfl) ?_
  intro p e s m args below meth c C hP hK ls hl
  obtain ⟨hx, hb, hml, hown, hrt, hlk, hT⟩ := id C
  have hl : lv_has ls 2 [(0, .ref (rr)), (1, .int (nI (en)))] := hl
  rcases Nat.eq_zero_or_pos en with h0 | h0
  · refine lv_iload_n hx hb dX2_after_0 rfl (lv_at hl 1 rfl) ?_
    refine tq_callF (va_runSN C.fix (As := [.int (nI (en))]) (rest := []) (c_X4_isEntry_0 l D cy en h0) (tq_cN (n := 1) C mn_X2_46 sm_X4_isEntry ini_X4 cd_X4_isEntry ⟨by decide, by decide, by decide +kernel⟩ ⟨Nat.le_of_ble_eq_true rfl, Nat.le_of_ble_eq_true rfl⟩) ⟨tq_Pf.blind, tq_preF C hK (hP.sub [] rfl)⟩ rfl rfl hl.1 rfl (lv_room (Nat.le_of_ble_eq_true rfl)) dX2_after_1 ⟨Nat.le_of_ble_eq_true rfl, Nat.le_of_ble_eq_true rfl⟩) (fun r1 hr1 => ?_)
    obtain rfl := hr1
    refine lv_if_eq (tgt := 16) hx hb dX2_after_4 (by decide) (fun _ => ?_) (fun h9 => absurd (by decide : nI 0 = 0) h9)
    refine lv_iconst (v := nI 0) hx hb dX2_after_16 (by decide) ?_
    exact tq_fret (v := (nI (0))) C rfl (by rw [show nx ne en = 0 from if_pos h0]) dX2_after_17
  · refine lv_iload_n hx hb dX2_after_0 rfl (lv_at hl 1 rfl) ?_
    refine tq_callF (va_runSN C.fix (As := [.int (nI (en))]) (rest := []) (c_X4_isEntry l D cy en h0 h2) (tq_cN (n := 1) C mn_X2_46 sm_X4_isEntry ini_X4 cd_X4_isEntry ⟨by decide, by decide, by decide +kernel⟩ ⟨Nat.le_of_ble_eq_true rfl, Nat.le_of_ble_eq_true rfl⟩) ⟨tq_Pf.blind, tq_preF C hK (hP.sub [] rfl)⟩ rfl rfl hl.1 rfl (lv_room (Nat.le_of_ble_eq_true rfl)) dX2_after_1 ⟨Nat.le_of_ble_eq_true rfl, Nat.le_of_ble_eq_true rfl⟩) (fun r1 hr1 => ?_)
    obtain rfl := hr1
    refine lv_if_eq (tgt := 16) hx hb dX2_after_4 (by decide) (fun h9 => absurd h9 (by decide)) (fun _ => ?_)
    refine lv_aload_n hx hb dX2_after_7 rfl (lv_at hl 0 rfl) ?_
    refine tq_get (C0 := RX2) (T := TX2) (N := 5) (ci := 2) (k := 4) C gX2 inX2 rfl (by decide) rfl fl_X2_21 hK hP 0 rfl rfl dX2_after_8 ?_
    refine lv_iload_n hx hb dX2_after_11 rfl (lv_at hl 1 rfl) ?_
    refine tq_iald (n := 121) (i := en) (f := ne) C hK hP 4 0 rfl rfl (by omega) (Nat.le_of_ble_eq_true rfl) dX2_after_12 ?_
    refine lv_goto (tgt := 17) hx hb dX2_after_13 (by decide) ?_
    exact tq_fret (v := (nI (ne en))) C rfl (by rw [show nx ne en = ne en from if_neg (by omega)]) dX2_after_17
set_option maxHeartbeats 4000000 in
set_option maxRecDepth 100000 in
theorem c_X2_entryAt (l : Launch) (D : va_G) (cy : ClassId) (rr : Nat) (rf : Nat) (rl : Nat) (rc : Nat) (rn : Nat) (sa : Nat) (ka : Nat) (va : Nat) (oa : Nat) (fi : Nat → Nat) (la : Nat → Nat) (co : Nat → Nat) (ne : Nat → Nat) (key : Nat → Nat) (tk : Nat) (cp : Nat) (row : Nat) (pl : Nat) (rows : Nat → List Nat) (hRR : RR fi la co ne rows) (hrow : row < 256) (hpl : pl ≤ 120) : tq_F l yX2_entryAt cX2_entryAt 5 (some .int) 2 41 D cy (wR cy rr rf rl rc rn sa ka va oa fi la co ne key tk cp) [.ref (rr), .int (nI (row)), .int (nI (pl))] (fun r => r = (nI ((rows row).getD pl 0))) := by
  refine tq_F.mk (by decide) (Nat.le_of_ble_eq_true rfl) ?_
  intro p e s m args below meth c C hP hK ls hl
  obtain ⟨hx, hb, hml, hown, hrt, hlk, hT⟩ := id C
  have hl : lv_has ls 5 [(0, .ref (rr)), (1, .int (nI (row))), (2, .int (nI (pl)))] := hl
  have hlen := (hRR.1 row hrow).1
  have hle := hRR.len hrow
  refine lv_aload_n hx hb dX2_entryAt_0 rfl (lv_at hl 0 rfl) ?_
  refine lv_iload_n hx hb dX2_entryAt_1 rfl (lv_at hl 1 rfl) ?_
  refine tq_callF (va_runV C.fix (As := [.int (nI (row))]) (rest := []) (c_X2_firstOf l D cy rr rf rl rc rn sa ka va oa fi la co ne key tk cp row hrow) (tq_cV (n := 1) C ml_X2_32 im_X2_firstOf se_X2_firstOf ini_X2 cd_X2_firstOf ⟨by decide, by decide, by decide +kernel⟩ ⟨Nat.le_of_ble_eq_true rfl, Nat.le_of_ble_eq_true rfl⟩) ⟨tq_Pf.blind, va_recv hK hP (ci := 2) (q0 := 0) rfl rfl, tq_preF C hK hP⟩ rfl rfl hl.1 rfl (lv_room (Nat.le_of_ble_eq_true rfl)) dX2_entryAt_2 ⟨Nat.le_of_ble_eq_true rfl, Nat.le_of_ble_eq_true rfl⟩) (fun r2 hr2 => ?_)
  obtain rfl := hr2
  refine tq_top (y := nI ((rows row).getD 0 0)) (by rw [hRR.fst hrow]) ?_
  refine lv_istore_n (lv' := [(3, .int (nI ((rows row).getD 0 0))), (0, .ref (rr)), (1, .int (nI (row))), (2, .int (nI (pl)))]) hx hb dX2_entryAt_5 rfl hl (by decide) rfl (fun ls hl => ?_)
  refine lv_iconst (v := nI 0) hx hb dX2_entryAt_6 (by decide) ?_
  refine lv_istore (lv' := [(4, .int (nI (0))), (3, .int (nI ((rows row).getD 0 0))), (0, .ref (rr)), (1, .int (nI (row))), (2, .int (nI (pl)))]) hx hb dX2_entryAt_7 hl (by decide) rfl (fun ls hl => ?_)
  suffices hlp9 : ∀ (n9 : Nat) (i : Nat), pl - i < n9 → (i ≤ pl) → ∀ ls : Array Slot, lv_has ls 5 [(0, .ref (rr)), (1, .int (nI (row))), (2, .int (nI (pl))), (3, .int (nI ((rows row).getD i 0))), (4, .int (nI (i)))] → W p l e ({ frames := 2, cells := 0, slots := 0, locals := 41 } : Room) s m args below meth c s.heap [] 0 0 (MQ below (tq_Qf (fun r => r = (nI ((rows row).getD pl 0)))) args s 0 0 (fun _ => False)) (F0 m 9 ls []) from
    hlp9 (pl + 1) 0 (by omega) (by omega) _ (lv_sub hl [2, 3, 4, 1, 0] rfl)
  intro n9
  induction n9 with
  | zero => intro i hf; exact absurd hf (Nat.not_lt_zero _)
  | succ n9 ih9 =>
    intro i hf9 hi ls hl
    refine lv_iload hx hb dX2_entryAt_9 (lv_at hl 4 rfl) ?_
    refine lv_iload_n hx hb dX2_entryAt_11 rfl (lv_at hl 2 rfl) ?_
    refine tq_icmp_ge (tgt := 27) C (by omega) (by omega) dX2_entryAt_12 (by decide) (fun h12 => ?_) (fun h12 => ?_)
    · refine lv_iload_n hx hb dX2_entryAt_27 rfl (lv_at hl 3 rfl) ?_
      exact tq_fret (v := (nI ((rows row).getD i 0))) C rfl (by rw [show i = pl from by omega]) dX2_entryAt_28
    · refine lv_aload_n hx hb dX2_entryAt_15 rfl (lv_at hl 0 rfl) ?_
      refine lv_iload_n hx hb dX2_entryAt_16 rfl (lv_at hl 3 rfl) ?_
      refine tq_callF (va_runV C.fix (As := [.int (nI ((rows row).getD i 0))]) (rest := []) (c_X2_after l D cy rr rf rl rc rn sa ka va oa fi la co ne key tk cp ((rows row).getD i 0) ((hRR.get hrow i).1)) (tq_cV (n := 1) C ml_X2_36 im_X2_after se_X2_after ini_X2 cd_X2_after ⟨by decide, by decide, by decide +kernel⟩ ⟨Nat.le_of_ble_eq_true rfl, Nat.le_of_ble_eq_true rfl⟩) ⟨tq_Pf.blind, va_recv hK hP (ci := 2) (q0 := 0) rfl rfl, tq_preF C hK hP⟩ rfl rfl hl.1 rfl (lv_room (Nat.le_of_ble_eq_true rfl)) dX2_entryAt_17 ⟨Nat.le_of_ble_eq_true rfl, Nat.le_of_ble_eq_true rfl⟩) (fun r17 hr17 => ?_)
      obtain rfl := hr17
      refine tq_top (y := nI ((rows row).getD (i + 1) 0)) (by rw [hRR.nxt hrow]) ?_
      refine lv_istore_n (lv' := [(3, .int (nI ((rows row).getD (i + 1) 0))), (0, .ref (rr)), (1, .int (nI (row))), (2, .int (nI (pl))), (4, .int (nI (i)))]) hx hb dX2_entryAt_20 rfl hl (by decide) rfl (fun ls hl => ?_)
      refine lv_iinc (v := (nI (i + 1))) (lv' := [(4, .int (nI (i + 1))), (3, .int (nI ((rows row).getD (i + 1) 0))), (0, .ref (rr)), (1, .int (nI (row))), (2, .int (nI (pl)))]) hx hb dX2_entryAt_21 hl (k := 4) rfl (tq_inc1 _) (by decide) rfl (fun ls hl => ?_)
      refine lv_goto (tgt := 9) hx hb dX2_entryAt_24 (by decide) ?_
      exact ih9 (i + 1) (by omega) (by omega) _ (lv_sub hl [2, 3, 4, 1, 0] rfl)
set_option maxHeartbeats 4000000 in
set_option maxRecDepth 100000 in
theorem c_X2_placeOf (l : Launch) (D : va_G) (cy : ClassId) (rr : Nat) (rf : Nat) (rl : Nat) (rc : Nat) (rn : Nat) (sa : Nat) (ka : Nat) (va : Nat) (oa : Nat) (fi : Nat → Nat) (la : Nat → Nat) (co : Nat → Nat) (ne : Nat → Nat) (key : Nat → Nat) (tk : Nat) (cp : Nat) (row : Nat) (kx : Nat) (rows : Nat → List Nat) (hRR : RR fi la co ne rows) (hkey : ∀ e, 1 ≤ e → e ≤ 120 → key e < 65536) (hrow : row < 256) (hkx : kx < 65536) : tq_F l yX2_placeOf cX2_placeOf 6 (some .int) 2 41 D cy (wR cy rr rf rl rc rn sa ka va oa fi la co ne key tk cp) [.ref (rr), .int (nI (row)), .int (nI (kx))] (fun r => (∃ i, i < (rows row).length ∧ key ((rows row).getD i 0) = kx ∧ (∀ j, j < i → key ((rows row).getD j 0) ≠ kx) ∧ r = nI i) ∨ ((∀ j, j < (rows row).length → key ((rows row).getD j 0) ≠ kx) ∧ r = -1)) := by
  refine tq_F.mk (by decide) (Nat.le_of_ble_eq_true rfl) ?_
  intro p e s m args below meth c C hP hK ls hl
  obtain ⟨hx, hb, hml, hown, hrt, hlk, hT⟩ := id C
  have hl : lv_has ls 6 [(0, .ref (rr)), (1, .int (nI (row))), (2, .int (nI (kx)))] := hl
  have hlen := (hRR.1 row hrow).1
  have hle := hRR.len hrow
  refine lv_aload_n hx hb dX2_placeOf_0 rfl (lv_at hl 0 rfl) ?_
  refine lv_iload_n hx hb dX2_placeOf_1 rfl (lv_at hl 1 rfl) ?_
  refine tq_callF (va_runV C.fix (As := [.int (nI (row))]) (rest := []) (c_X2_count l D cy rr rf rl rc rn sa ka va oa fi la co ne key tk cp row hrow) (tq_cV (n := 1) C ml_X2_56 im_X2_count se_X2_count ini_X2 cd_X2_count ⟨by decide, by decide, by decide +kernel⟩ ⟨Nat.le_of_ble_eq_true rfl, Nat.le_of_ble_eq_true rfl⟩) ⟨tq_Pf.blind, va_recv hK hP (ci := 2) (q0 := 0) rfl rfl, tq_preF C hK hP⟩ rfl rfl hl.1 rfl (lv_room (Nat.le_of_ble_eq_true rfl)) dX2_placeOf_2 ⟨Nat.le_of_ble_eq_true rfl, Nat.le_of_ble_eq_true rfl⟩) (fun r2 hr2 => ?_)
  obtain rfl := hr2
  refine lv_istore_n (lv' := [(3, .int (nI (co row))), (0, .ref (rr)), (1, .int (nI (row))), (2, .int (nI (kx)))]) hx hb dX2_placeOf_5 rfl hl (by decide) rfl (fun ls hl => ?_)
  refine lv_aload_n hx hb dX2_placeOf_6 rfl (lv_at hl 1 rfl) ?_
  refine lv_iload_n hx hb dX2_placeOf_7 rfl (lv_at hl 2 rfl) ?_
  refine tq_callF (va_runV C.fix (As := [.int (nI (row))]) (rest := []) (c_X2_firstOf l D cy rr rf rl rc rn sa ka va oa fi la co ne key tk cp row hrow) (tq_cV (n := 1) C ml_X2_32 im_X2_firstOf se_X2_firstOf ini_X2 cd_X2_firstOf ⟨by decide, by decide, by decide +kernel⟩ ⟨Nat.le_of_ble_eq_true rfl, Nat.le_of_ble_eq_true rfl⟩) ⟨tq_Pf.blind, va_recv hK hP (ci := 2) (q0 := 0) rfl rfl, tq_preF C hK hP⟩ rfl rfl hl.1 rfl (lv_room (Nat.le_of_ble_eq_true rfl)) dX2_placeOf_8 ⟨Nat.le_of_ble_eq_true rfl, Nat.le_of_ble_eq_true rfl⟩) (fun r8 hr8 => ?_)
  obtain rfl := hr8
  refine tq_top (y := nI ((rows row).getD 0 0)) (by rw [hRR.fst hrow]) ?_
  refine lv_istore (lv' := [(4, .int (nI ((rows row).getD 0 0))), (3, .int (nI (co row))), (0, .ref (rr)), (1, .int (nI (row))), (2, .int (nI (kx)))]) hx hb dX2_placeOf_11 hl (by decide) rfl (fun ls hl => ?_)
  refine lv_iconst (v := nI 0) hx hb dX2_placeOf_13 (by decide) ?_
  refine lv_istore (lv' := [(5, .int (nI (0))), (4, .int (nI ((rows row).getD 0 0))), (3, .int (nI (co row))), (0, .ref (rr)), (1, .int (nI (row))), (2, .int (nI (kx)))]) hx hb dX2_placeOf_14 hl (by decide) rfl (fun ls hl => ?_)
  suffices hlp16 : ∀ (n16 : Nat) (i : Nat), (rows row).length - i < n16 → (i ≤ (rows row).length) → (∀ j, j < i → key ((rows row).getD j 0) ≠ kx) → ∀ ls : Array Slot, lv_has ls 6 [(0, .ref (rr)), (1, .int (nI (row))), (2, .int (nI (kx))), (3, .int (nI (co row))), (4, .int (nI ((rows row).getD i 0))), (5, .int (nI (i)))] → W p l e ({ frames := 2, cells := 0, slots := 0, locals := 41 } : Room) s m args below meth c s.heap [] 0 0 (MQ below (tq_Qf (fun r => (∃ i, i < (rows row).length ∧ key ((rows row).getD i 0) = kx ∧ (∀ j, j < i → key ((rows row).getD j 0) ≠ kx) ∧ r = nI i) ∨ ((∀ j, j < (rows row).length → key ((rows row).getD j 0) ≠ kx) ∧ r = -1))) args s 0 0 (fun _ => False)) (F0 m 16 ls []) from
    hlp16 ((rows row).length + 1) 0 (by omega) (by omega) (fun j hj => absurd hj (Nat.not_lt_zero _)) _ (lv_sub hl [3, 4, 5, 2, 1, 0] rfl)
  intro n16
  induction n16 with
  | zero => intro i hf; exact absurd hf (Nat.not_lt_zero _)
  | succ n16 ih16 =>
    intro i hf16 hi hmin ls hl
    refine lv_iload hx hb dX2_placeOf_16 (lv_at hl 5 rfl) ?_
    refine lv_iload_n hx hb dX2_placeOf_18 rfl (lv_at hl 3 rfl) ?_
    refine tq_icmp_ge (tgt := 52) C (by omega) (by omega) dX2_placeOf_19 (by decide) (fun h19 => ?_) (fun h19 => ?_)
    · refine lv_iconst (v := (-1)) hx hb dX2_placeOf_52 (by decide) ?_
      exact tq_fret (v := ((-1))) C rfl (Or.inr ⟨fun j hj => hmin j (by omega), rfl⟩) dX2_placeOf_53
    · have hi2 : i < (rows row).length := by omega
      have hg := hRR.get hrow i
      have hk9 := hkey _ (hg.2 hi2).1 hg.1
      refine lv_aload_n hx hb dX2_placeOf_22 rfl (lv_at hl 0 rfl) ?_
      refine tq_get (C0 := RX2) (T := TX2) (N := 5) (ci := 2) (k := 0) C gX2 inX2 rfl (by decide) rfl fl_X2_24 hK hP 0 rfl rfl dX2_placeOf_23 ?_
      refine lv_iload hx hb dX2_placeOf_26 (lv_at hl 4 rfl) ?_
      refine tq_callF (va_runV C.fix (As := [.int (nI ((rows row).getD i 0))]) (rest := []) (c_X3_keyOf l D cy sa ka va oa key tk cp ((rows row).getD i 0) ((hg.2 hi2).1) hg.1) (tq_cV (n := 1) C ml_X2_63 im_X3_keyOf se_X3_keyOf ini_X3 cd_X3_keyOf ⟨by decide, by decide, by decide +kernel⟩ ⟨Nat.le_of_ble_eq_true rfl, Nat.le_of_ble_eq_true rfl⟩) ⟨tq_Pf.blind, va_recv hK hP (ci := 3) (q0 := 5) rfl rfl, tq_preF C hK (hP.sub [5, 6] rfl)⟩ rfl rfl hl.1 rfl (lv_room (Nat.le_of_ble_eq_true rfl)) dX2_placeOf_28 ⟨Nat.le_of_ble_eq_true rfl, Nat.le_of_ble_eq_true rfl⟩) (fun r28 hr28 => ?_)
      obtain rfl := hr28
      refine lv_iload_n hx hb dX2_placeOf_31 rfl (lv_at hl 2 rfl) ?_
      refine tq_icmp_ne (tgt := 38) C (by omega) (by omega) dX2_placeOf_32 (by decide) (fun h32 => ?_) (fun h32 => ?_)
      · refine lv_aload_n hx hb dX2_placeOf_38 rfl (lv_at hl 0 rfl) ?_
        refine lv_iload hx hb dX2_placeOf_39 (lv_at hl 4 rfl) ?_
        refine tq_callF (va_runV C.fix (As := [.int (nI ((rows row).getD i 0))]) (rest := []) (c_X2_after l D cy rr rf rl rc rn sa ka va oa fi la co ne key tk cp ((rows row).getD i 0) hg.1) (tq_cV (n := 1) C ml_X2_36 im_X2_after se_X2_after ini_X2 cd_X2_after ⟨by decide, by decide, by decide +kernel⟩ ⟨Nat.le_of_ble_eq_true rfl, Nat.le_of_ble_eq_true rfl⟩) ⟨tq_Pf.blind, va_recv hK hP (ci := 2) (q0 := 0) rfl rfl, tq_preF C hK hP⟩ rfl rfl hl.1 rfl (lv_room (Nat.le_of_ble_eq_true rfl)) dX2_placeOf_41 ⟨Nat.le_of_ble_eq_true rfl, Nat.le_of_ble_eq_true rfl⟩) (fun r41 hr41 => ?_)
        obtain rfl := hr41
        refine tq_top (y := nI ((rows row).getD (i + 1) 0)) (by rw [hRR.nxt hrow]) ?_
        refine lv_istore (lv' := [(4, .int (nI ((rows row).getD (i + 1) 0))), (0, .ref (rr)), (1, .int (nI (row))), (2, .int (nI (kx))), (3, .int (nI (co row))), (5, .int (nI (i)))]) hx hb dX2_placeOf_44 hl (by decide) rfl (fun ls hl => ?_)
        refine lv_iinc (v := (nI (i + 1))) (lv' := [(5, .int (nI (i + 1))), (4, .int (nI ((rows row).getD (i + 1) 0))), (0, .ref (rr)), (1, .int (nI (row))), (2, .int (nI (kx))), (3, .int (nI (co row)))]) hx hb dX2_placeOf_46 hl (k := 5) rfl (tq_inc1 _) (by decide) rfl (fun ls hl => ?_)
        refine lv_goto (tgt := 16) hx hb dX2_placeOf_49 (by decide) ?_
        exact ih16 (i + 1) (by omega) (by omega) (fun j hj => (Nat.lt_or_eq_of_le (Nat.le_of_lt_succ hj)).elim (hmin j) (fun q => by rw [q]; exact h32)) _ (lv_sub hl [2, 3, 4, 5, 1, 0] rfl)
      · refine lv_iload hx hb dX2_placeOf_35 (lv_at hl 5 rfl) ?_
        exact tq_fret (v := (nI (i))) C rfl (Or.inl ⟨i, hi2, h32, hmin, rfl⟩) dX2_placeOf_37
set_option maxHeartbeats 4000000 in
set_option maxRecDepth 100000 in
theorem c_X2_find (l : Launch) (D : va_G) (cy : ClassId) (rr : Nat) (rf : Nat) (rl : Nat) (rc : Nat) (rn : Nat) (sa : Nat) (ka : Nat) (va : Nat) (oa : Nat) (fi : Nat → Nat) (la : Nat → Nat) (co : Nat → Nat) (ne : Nat → Nat) (key : Nat → Nat) (tk : Nat) (cp : Nat) (row : Nat) (kx : Nat) (rows : Nat → List Nat) (hRR : RR fi la co ne rows) (hkey : ∀ e, 1 ≤ e → e ≤ 120 → key e < 65536) (hrow : row < 256) (hkx : kx < 65536) : tq_F l yX2_find cX2_find 4 (some .int) 3 66 D cy (wR cy rr rf rl rc rn sa ka va oa fi la co ne key tk cp) [.ref (rr), .int (nI (row)), .int (nI (kx))] (fun r => (∃ en, en ∈ rows row ∧ key en = kx ∧ r = nI en) ∨ ((∀ en, en ∈ rows row → key en ≠ kx) ∧ r = nI 0)) := by
  refine tq_F.mk (by decide) (Nat.le_of_ble_eq_true rfl) ?_
  intro p e s m args below meth c C hP hK ls hl
  obtain ⟨hx, hb, hml, hown, hrt, hlk, hT⟩ := id C
  have hl : lv_has ls 4 [(0, .ref (rr)), (1, .int (nI (row))), (2, .int (nI (kx)))] := hl
  have hlen := (hRR.1 row hrow).1
  have hle := hRR.len hrow
  refine lv_aload_n hx hb dX2_find_0 rfl (lv_at hl 0 rfl) ?_
  refine lv_iload_n hx hb dX2_find_1 rfl (lv_at hl 1 rfl) ?_
  refine lv_iload_n hx hb dX2_find_2 rfl (lv_at hl 2 rfl) ?_
  refine tq_callF (va_runV C.fix (As := [.int (nI (row)), .int (nI (kx))]) (rest := []) (c_X2_placeOf l D cy rr rf rl rc rn sa ka va oa fi la co ne key tk cp row kx rows hRR hkey hrow hkx) (tq_cV (n := 2) C ml_X2_39 im_X2_placeOf se_X2_placeOf ini_X2 cd_X2_placeOf ⟨by decide, by decide, by decide +kernel⟩ ⟨Nat.le_of_ble_eq_true rfl, Nat.le_of_ble_eq_true rfl⟩) ⟨tq_Pf.blind, va_recv hK hP (ci := 2) (q0 := 0) rfl rfl, tq_preF C hK hP⟩ rfl rfl hl.1 rfl (lv_room (Nat.le_of_ble_eq_true rfl)) dX2_find_3 ⟨Nat.le_of_ble_eq_true rfl, Nat.le_of_ble_eq_true rfl⟩) (fun r3 hr3 => ?_)
  rcases hr3 with ⟨i, hi, hki, hmin, rfl⟩ | ⟨hno, rfl⟩
  · refine lv_istore_n (lv' := [(3, .int (nI (i))), (0, .ref (rr)), (1, .int (nI (row))), (2, .int (nI (kx)))]) hx hb dX2_find_6 rfl hl (by decide) rfl (fun ls hl => ?_)
    refine lv_iload_n hx hb dX2_find_7 rfl (lv_at hl 0 rfl) ?_
    refine lv_iconst (v := (-1)) hx hb dX2_find_8 (by decide) ?_
    refine lv_icmp_ne (tgt := 16) hx hb dX2_find_9 (by decide) (fun h9 => ?_) (fun h9 => ?_)
    · refine lv_aload_n hx hb dX2_find_16 rfl (lv_at hl 1 rfl) ?_
      refine lv_iload_n hx hb dX2_find_17 rfl (lv_at hl 2 rfl) ?_
      refine lv_iload_n hx hb dX2_find_18 rfl (lv_at hl 0 rfl) ?_
      refine tq_callF (va_runV C.fix (As := [.int (nI (row)), .int (nI (i))]) (rest := []) (c_X2_entryAt l D cy rr rf rl rc rn sa ka va oa fi la co ne key tk cp row i rows hRR hrow (by omega)) (tq_cV (n := 2) C ml_X2_43 im_X2_entryAt se_X2_entryAt ini_X2 cd_X2_entryAt ⟨by decide, by decide, by decide +kernel⟩ ⟨Nat.le_of_ble_eq_true rfl, Nat.le_of_ble_eq_true rfl⟩) ⟨tq_Pf.blind, va_recv hK hP (ci := 2) (q0 := 0) rfl rfl, tq_preF C hK hP⟩ rfl rfl hl.1 rfl (lv_room (Nat.le_of_ble_eq_true rfl)) dX2_find_19 ⟨Nat.le_of_ble_eq_true rfl, Nat.le_of_ble_eq_true rfl⟩) (fun r19 hr19 => ?_)
      obtain rfl := hr19
      exact tq_fret (v := (nI ((rows row).getD i 0))) C rfl (Or.inl ⟨_, ((hRR.get hrow i).2 hi).2, hki, rfl⟩) dX2_find_22
    · exact absurd h9 (tq_neg1 (by omega))
  · refine lv_istore_n (lv' := [(3, .int (-1)), (0, .ref (rr)), (1, .int (nI (row))), (2, .int (nI (kx)))]) hx hb dX2_find_6 rfl hl (by decide) rfl (fun ls hl => ?_)
    refine lv_iload_n hx hb dX2_find_7 rfl (lv_at hl 0 rfl) ?_
    refine lv_iconst (v := (-1)) hx hb dX2_find_8 (by decide) ?_
    refine lv_icmp_ne (tgt := 16) hx hb dX2_find_9 (by decide) (fun h9 => ?_) (fun h9 => ?_)
    · exact absurd rfl h9
    · refine lv_iconst (v := nI 0) hx hb dX2_find_12 (by decide) ?_
      refine lv_goto (tgt := 22) hx hb dX2_find_13 (by decide) ?_
      exact tq_fret (v := (nI (0))) C rfl (Or.inr ⟨fun en hen => (mem_getD hen).elim fun j hj => hj.2 ▸ hno j hj.1, rfl⟩) dX2_find_22
set_option maxHeartbeats 4000000 in
set_option maxRecDepth 100000 in
theorem c_X2_append (l : Launch) (D : va_G) (cy : ClassId) (rr : Nat) (rf : Nat) (rl : Nat) (rc : Nat) (rn : Nat) (sa : Nat) (ka : Nat) (va : Nat) (oa : Nat) (fi : Nat → Nat) (la : Nat → Nat) (co : Nat → Nat) (ne : Nat → Nat) (key : Nat → Nat) (tk : Nat) (cp : Nat) (row : Nat) (en : Nat) (rows : Nat → List Nat) (hRR : RR fi la co ne rows) (hrow : row < 256) (h1 : 1 ≤ en) (h2 : en ≤ 120) (hf : ∀ r, r < 256 → en ∉ rows r) : tq_V (S := (Nat → Nat) × (Nat → Nat) × (Nat → Nat) × (Nat → Nat)) l yX2_append cX2_append 4 1 20 0 0 D cy (wR cy rr rf rl rc rn sa ka va oa fi la co ne key tk cp) [.ref (rr), .int (nI (row)), .int (nI (en))] (fun u => RR u.1 u.2.1 u.2.2.1 u.2.2.2 (va_up rows row (rows row ++ [en])) ∧ ∀ x, x ∉ rows row → x ≠ en → u.2.2.2 x = ne x) (fun u => (wR cy rr rf rl rc rn sa ka va oa u.1 u.2.1 u.2.2.1 u.2.2.2 key tk cp)) := by
  refine tq_V.mk (by decide) (Nat.le_of_ble_eq_true rfl) ?_
  intro p e s m args below meth c A C hin hP hK hD hS hA ls hl
  obtain ⟨hx, hb, hml, hown, hrt, hlk, hT⟩ := id C
  have hl : lv_has ls 4 [(0, .ref (rr)), (1, .int (nI (row))), (2, .int (nI (en)))] := hl
  refine lv_iload_n hx hb dX2_append_0 rfl (lv_at hl 1 rfl) ?_
  refine tq_callF (va_runSN C.fix (As := [.int (nI (row))]) (rest := []) (c_X4_isRow l D cy row hrow) (tq_cN (n := 1) C mn_X2_28 sm_X4_isRow ini_X4 cd_X4_isRow ⟨by decide, by decide, by decide +kernel⟩ ⟨Nat.le_of_ble_eq_true rfl, Nat.le_of_ble_eq_true rfl⟩) ⟨tq_Pf.blind, tq_preF C hK (hP.sub [] rfl)⟩ rfl rfl hl.1 rfl (lv_room (Nat.le_of_ble_eq_true rfl)) dX2_append_1 ⟨Nat.le_of_ble_eq_true rfl, Nat.le_of_ble_eq_true rfl⟩) (fun r1 hr1 => ?_)
  obtain rfl := hr1
  refine lv_if_eq (tgt := 14) hx hb dX2_append_4 (by decide) (fun h9 => absurd h9 (by decide)) (fun _ => ?_)
  refine lv_iload_n hx hb dX2_append_7 rfl (lv_at hl 2 rfl) ?_
  refine tq_callF (va_runSN C.fix (As := [.int (nI (en))]) (rest := []) (c_X4_isEntry l D cy en h1 h2) (tq_cN (n := 1) C mn_X2_46 sm_X4_isEntry ini_X4 cd_X4_isEntry ⟨by decide, by decide, by decide +kernel⟩ ⟨Nat.le_of_ble_eq_true rfl, Nat.le_of_ble_eq_true rfl⟩) ⟨tq_Pf.blind, tq_preF C hK (hP.sub [] rfl)⟩ rfl rfl hl.1 rfl (lv_room (Nat.le_of_ble_eq_true rfl)) dX2_append_8 ⟨Nat.le_of_ble_eq_true rfl, Nat.le_of_ble_eq_true rfl⟩) (fun r8 hr8 => ?_)
  obtain rfl := hr8
  refine lv_if_ne (tgt := 15) hx hb dX2_append_11 (by decide) (fun _ => ?_) (fun h9 => absurd h9 (by decide))
  refine lv_aload_n hx hb dX2_append_15 rfl (lv_at hl 0 rfl) ?_
  refine tq_get (C0 := RX2) (T := TX2) (N := 5) (ci := 2) (k := 2) C gX2 inX2 rfl (by decide) rfl fl_X2_15 hK hP 0 rfl rfl dX2_append_16 ?_
  refine lv_iload_n hx hb dX2_append_19 rfl (lv_at hl 1 rfl) ?_
  refine tq_iald (n := 256) (i := row) (f := la) C hK hP 2 0 rfl rfl (by omega) (Nat.le_of_ble_eq_true rfl) dX2_append_20 ?_
  refine lv_istore_n (lv' := [(3, .int (nI (la row))), (0, .ref (rr)), (1, .int (nI (row))), (2, .int (nI (en)))]) hx hb dX2_append_21 rfl hl (by decide) rfl (fun ls hl => ?_)
  have hap := hRR.append hrow h1 h2 hf
  rcases Nat.eq_zero_or_pos (la row) with hla | hla
  · refine lv_iload_n hx hb dX2_append_22 rfl (lv_at hl 0 rfl) ?_
    refine tq_callF (va_runSN C.fix (As := [.int (nI (la row))]) (rest := []) (c_X4_isEntry_0 l D cy (la row) hla) (tq_cN (n := 1) C mn_X2_46 sm_X4_isEntry ini_X4 cd_X4_isEntry ⟨by decide, by decide, by decide +kernel⟩ ⟨Nat.le_of_ble_eq_true rfl, Nat.le_of_ble_eq_true rfl⟩) ⟨tq_Pf.blind, tq_preF C hK (hP.sub [] rfl)⟩ rfl rfl hl.1 rfl (lv_room (Nat.le_of_ble_eq_true rfl)) dX2_append_23 ⟨Nat.le_of_ble_eq_true rfl, Nat.le_of_ble_eq_true rfl⟩) (fun r23 hr23 => ?_)
    obtain rfl := hr23
    refine lv_if_eq (tgt := 39) hx hb dX2_append_26 (by decide) (fun _ => ?_) (fun h9 => absurd (by decide : nI 0 = 0) h9)
    refine lv_aload_n hx hb dX2_append_39 rfl (lv_at hl 1 rfl) ?_
    refine tq_get (C0 := RX2) (T := TX2) (N := 5) (ci := 2) (k := 1) C gX2 inX2 rfl (by decide) rfl fl_X2_9 hK hP 0 rfl rfl dX2_append_40 ?_
    refine lv_iload_n hx hb dX2_append_43 rfl (lv_at hl 2 rfl) ?_
    refine lv_iload_n hx hb dX2_append_44 rfl (lv_at hl 3 rfl) ?_
    refine tq_iast (n := 256) (i := row) (v := en) (f := fi) C hK hP hD hS 1 0 rfl rfl (by omega) (Nat.le_of_ble_eq_true rfl) dX2_append_45 (fun H locs hP hD hS => ?_)
    have hP : va_P D vwCl (wR cy rr rf rl rc rn sa ka va oa (va_up fi row en) la co ne key tk cp) H := hP
    have hD : va_D A (wR cy rr rf rl rc rn sa ka va oa (va_up fi row en) la co ne key tk cp) := hD
    refine lv_aload_n hx hb dX2_append_46 rfl (lv_at hl 1 rfl) ?_
    refine tq_get (C0 := RX2) (T := TX2) (N := 5) (ci := 2) (k := 4) C gX2 inX2 rfl (by decide) rfl fl_X2_21 hK hP 0 rfl rfl dX2_append_47 ?_
    refine lv_iload_n hx hb dX2_append_50 rfl (lv_at hl 3 rfl) ?_
    refine lv_iconst (v := nI 0) hx hb dX2_append_51 (by decide) ?_
    refine tq_iast (n := 121) (i := en) (v := 0) (f := ne) C hK hP hD hS 4 0 rfl rfl (Nat.lt_succ_of_le h2) (Nat.le_of_ble_eq_true rfl) dX2_append_52 (fun H locs hP hD hS => ?_)
    have hP : va_P D vwCl (wR cy rr rf rl rc rn sa ka va oa (va_up fi row en) la co (va_up ne en 0) key tk cp) H := hP
    have hD : va_D A (wR cy rr rf rl rc rn sa ka va oa (va_up fi row en) la co (va_up ne en 0) key tk cp) := hD
    refine lv_aload_n hx hb dX2_append_53 rfl (lv_at hl 1 rfl) ?_
    refine tq_get (C0 := RX2) (T := TX2) (N := 5) (ci := 2) (k := 2) C gX2 inX2 rfl (by decide) rfl fl_X2_15 hK hP 0 rfl rfl dX2_append_54 ?_
    refine lv_iload_n hx hb dX2_append_57 rfl (lv_at hl 2 rfl) ?_
    refine lv_iload_n hx hb dX2_append_58 rfl (lv_at hl 3 rfl) ?_
    refine tq_iast (n := 256) (i := row) (v := en) (f := la) C hK hP hD hS 2 0 rfl rfl (by omega) (Nat.le_of_ble_eq_true rfl) dX2_append_59 (fun H locs hP hD hS => ?_)
    have hP : va_P D vwCl (wR cy rr rf rl rc rn sa ka va oa (va_up fi row en) (va_up la row en) co (va_up ne en 0) key tk cp) H := hP
    have hD : va_D A (wR cy rr rf rl rc rn sa ka va oa (va_up fi row en) (va_up la row en) co (va_up ne en 0) key tk cp) := hD
    refine lv_aload_n hx hb dX2_append_60 rfl (lv_at hl 1 rfl) ?_
    refine tq_get (C0 := RX2) (T := TX2) (N := 5) (ci := 2) (k := 3) C gX2 inX2 rfl (by decide) rfl fl_X2_18 hK hP 0 rfl rfl dX2_append_61 ?_
    refine lv_iload_n hx hb dX2_append_64 rfl (lv_at hl 2 rfl) ?_
    refine lv_dup2_11 hx hb dX2_append_65 rfl rfl ?_
    refine tq_iald (n := 256) (i := row) (f := co) C hK hP 3 0 rfl rfl (by omega) (Nat.le_of_ble_eq_true rfl) dX2_append_66 ?_
    refine lv_iconst (v := nI 1) hx hb dX2_append_67 (by decide) ?_
    refine tq_iadd C dX2_append_68 ?_
    refine tq_iast (n := 256) (i := row) (v := ((co row) + 1)) (f := co) C hK hP hD hS 3 0 rfl rfl (by omega) (Nat.le_of_ble_eq_true rfl) dX2_append_69 (fun H locs hP hD hS => ?_)
    have hP : va_P D vwCl (wR cy rr rf rl rc rn sa ka va oa (va_up fi row en) (va_up la row en) (va_up co row ((co row) + 1)) (va_up ne en 0) key tk cp) H := hP
    have hD : va_D A (wR cy rr rf rl rc rn sa ka va oa (va_up fi row en) (va_up la row en) (va_up co row ((co row) + 1)) (va_up ne en 0) key tk cp) := hD
    exact tq_vret C (va_up fi row en, va_up la row en, va_up co row ((co row) + 1), va_up ne en 0) hP hD hS (⟨hap.1 hla, fun x hx hxe => up_n _ _ hxe⟩) (Nat.le_of_ble_eq_true rfl) (Nat.le_of_ble_eq_true rfl) dX2_append_70
  · have hap2 := hap.2 (by omega)
    refine lv_iload_n hx hb dX2_append_22 rfl (lv_at hl 0 rfl) ?_
    refine tq_callF (va_runSN C.fix (As := [.int (nI (la row))]) (rest := []) (c_X4_isEntry l D cy (la row) hap2.1 hap2.2.1) (tq_cN (n := 1) C mn_X2_46 sm_X4_isEntry ini_X4 cd_X4_isEntry ⟨by decide, by decide, by decide +kernel⟩ ⟨Nat.le_of_ble_eq_true rfl, Nat.le_of_ble_eq_true rfl⟩) ⟨tq_Pf.blind, tq_preF C hK (hP.sub [] rfl)⟩ rfl rfl hl.1 rfl (lv_room (Nat.le_of_ble_eq_true rfl)) dX2_append_23 ⟨Nat.le_of_ble_eq_true rfl, Nat.le_of_ble_eq_true rfl⟩) (fun r23 hr23 => ?_)
    obtain rfl := hr23
    refine lv_if_eq (tgt := 39) hx hb dX2_append_26 (by decide) (fun h9 => absurd h9 (by decide)) (fun _ => ?_)
    refine lv_aload_n hx hb dX2_append_29 rfl (lv_at hl 1 rfl) ?_
    refine tq_get (C0 := RX2) (T := TX2) (N := 5) (ci := 2) (k := 4) C gX2 inX2 rfl (by decide) rfl fl_X2_21 hK hP 0 rfl rfl dX2_append_30 ?_
    refine lv_iload_n hx hb dX2_append_33 rfl (lv_at hl 0 rfl) ?_
    refine lv_iload_n hx hb dX2_append_34 rfl (lv_at hl 3 rfl) ?_
    refine tq_iast (n := 121) (i := (la row)) (v := en) (f := ne) C hK hP hD hS 4 0 rfl rfl (Nat.lt_succ_of_le hap2.2.1) (Nat.le_of_ble_eq_true rfl) dX2_append_35 (fun H locs hP hD hS => ?_)
    have hP : va_P D vwCl (wR cy rr rf rl rc rn sa ka va oa fi la co (va_up ne (la row) en) key tk cp) H := hP
    have hD : va_D A (wR cy rr rf rl rc rn sa ka va oa fi la co (va_up ne (la row) en) key tk cp) := hD
    refine lv_goto (tgt := 46) hx hb dX2_append_36 (by decide) ?_
    refine lv_aload_n hx hb dX2_append_46 rfl (lv_at hl 1 rfl) ?_
    refine tq_get (C0 := RX2) (T := TX2) (N := 5) (ci := 2) (k := 4) C gX2 inX2 rfl (by decide) rfl fl_X2_21 hK hP 0 rfl rfl dX2_append_47 ?_
    refine lv_iload_n hx hb dX2_append_50 rfl (lv_at hl 3 rfl) ?_
    refine lv_iconst (v := nI 0) hx hb dX2_append_51 (by decide) ?_
    refine tq_iast (n := 121) (i := en) (v := 0) (f := (va_up ne (la row) en)) C hK hP hD hS 4 0 rfl rfl (Nat.lt_succ_of_le h2) (Nat.le_of_ble_eq_true rfl) dX2_append_52 (fun H locs hP hD hS => ?_)
    have hP : va_P D vwCl (wR cy rr rf rl rc rn sa ka va oa fi la co (va_up (va_up ne (la row) en) en 0) key tk cp) H := hP
    have hD : va_D A (wR cy rr rf rl rc rn sa ka va oa fi la co (va_up (va_up ne (la row) en) en 0) key tk cp) := hD
    refine lv_aload_n hx hb dX2_append_53 rfl (lv_at hl 1 rfl) ?_
    refine tq_get (C0 := RX2) (T := TX2) (N := 5) (ci := 2) (k := 2) C gX2 inX2 rfl (by decide) rfl fl_X2_15 hK hP 0 rfl rfl dX2_append_54 ?_
    refine lv_iload_n hx hb dX2_append_57 rfl (lv_at hl 2 rfl) ?_
    refine lv_iload_n hx hb dX2_append_58 rfl (lv_at hl 3 rfl) ?_
    refine tq_iast (n := 256) (i := row) (v := en) (f := la) C hK hP hD hS 2 0 rfl rfl (by omega) (Nat.le_of_ble_eq_true rfl) dX2_append_59 (fun H locs hP hD hS => ?_)
    have hP : va_P D vwCl (wR cy rr rf rl rc rn sa ka va oa fi (va_up la row en) co (va_up (va_up ne (la row) en) en 0) key tk cp) H := hP
    have hD : va_D A (wR cy rr rf rl rc rn sa ka va oa fi (va_up la row en) co (va_up (va_up ne (la row) en) en 0) key tk cp) := hD
    refine lv_aload_n hx hb dX2_append_60 rfl (lv_at hl 1 rfl) ?_
    refine tq_get (C0 := RX2) (T := TX2) (N := 5) (ci := 2) (k := 3) C gX2 inX2 rfl (by decide) rfl fl_X2_18 hK hP 0 rfl rfl dX2_append_61 ?_
    refine lv_iload_n hx hb dX2_append_64 rfl (lv_at hl 2 rfl) ?_
    refine lv_dup2_11 hx hb dX2_append_65 rfl rfl ?_
    refine tq_iald (n := 256) (i := row) (f := co) C hK hP 3 0 rfl rfl (by omega) (Nat.le_of_ble_eq_true rfl) dX2_append_66 ?_
    refine lv_iconst (v := nI 1) hx hb dX2_append_67 (by decide) ?_
    refine tq_iadd C dX2_append_68 ?_
    refine tq_iast (n := 256) (i := row) (v := ((co row) + 1)) (f := co) C hK hP hD hS 3 0 rfl rfl (by omega) (Nat.le_of_ble_eq_true rfl) dX2_append_69 (fun H locs hP hD hS => ?_)
    have hP : va_P D vwCl (wR cy rr rf rl rc rn sa ka va oa fi (va_up la row en) (va_up co row ((co row) + 1)) (va_up (va_up ne (la row) en) en 0) key tk cp) H := hP
    have hD : va_D A (wR cy rr rf rl rc rn sa ka va oa fi (va_up la row en) (va_up co row ((co row) + 1)) (va_up (va_up ne (la row) en) en 0) key tk cp) := hD
    exact tq_vret C (fi, va_up la row en, va_up co row ((co row) + 1), va_up (va_up ne (la row) en) en 0) hP hD hS (⟨hap2.2.2.2, fun x hx hxe => (up_n _ _ hxe).trans (up_n _ _ (fun z : x = la row => hx (z ▸ hap2.2.2.1)))⟩) (Nat.le_of_ble_eq_true rfl) (Nat.le_of_ble_eq_true rfl) dX2_append_70
set_option maxHeartbeats 4000000 in
set_option maxRecDepth 100000 in
theorem c_X2_entryBefore (l : Launch) (D : va_G) (cy : ClassId) (rr : Nat) (rf : Nat) (rl : Nat) (rc : Nat) (rn : Nat) (sa : Nat) (ka : Nat) (va : Nat) (oa : Nat) (fi : Nat → Nat) (la : Nat → Nat) (co : Nat → Nat) (ne : Nat → Nat) (key : Nat → Nat) (tk : Nat) (cp : Nat) (row : Nat) (en : Nat) (rows : Nat → List Nat) (hRR : RR fi la co ne rows) (hrow : row < 256) (h2 : en ≤ 120) (P Q : List Nat) (hL : rows row = P ++ en :: Q) (hPn : en ∉ P) (hQn : en ∉ Q)  : tq_F l yX2_entryBefore cX2_entryBefore 7 (some .int) 2 41 D cy (wR cy rr rf rl rc rn sa ka va oa fi la co ne key tk cp) [.ref (rr), .int (nI (row)), .int (nI (en))] (fun r => r = (nI (P.getLastD 0))) := by
  refine tq_F.mk (by decide) (Nat.le_of_ble_eq_true rfl) ?_
  intro p e s m args below meth c C hP hK ls hl
  obtain ⟨hx, hb, hml, hown, hrt, hlk, hT⟩ := id C
  have hl : lv_has ls 7 [(0, .ref (rr)), (1, .int (nI (row))), (2, .int (nI (en)))] := hl
  have hlen := (hRR.1 row hrow).1
  have hle := hRR.len hrow
  have hlp : (rows row).length = P.length + (Q.length + 1) := by rw [hL]; simp
  refine lv_iconst (v := nI 0) hx hb dX2_entryBefore_0 (by decide) ?_
  refine lv_istore_n (lv' := [(3, .int (nI (0))), (0, .ref (rr)), (1, .int (nI (row))), (2, .int (nI (en)))]) hx hb dX2_entryBefore_1 rfl hl (by decide) rfl (fun ls hl => ?_)
  refine lv_aload_n hx hb dX2_entryBefore_2 rfl (lv_at hl 1 rfl) ?_
  refine lv_iload_n hx hb dX2_entryBefore_3 rfl (lv_at hl 2 rfl) ?_
  refine tq_callF (va_runV C.fix (As := [.int (nI (row))]) (rest := []) (c_X2_firstOf l D cy rr rf rl rc rn sa ka va oa fi la co ne key tk cp row hrow) (tq_cV (n := 1) C ml_X2_32 im_X2_firstOf se_X2_firstOf ini_X2 cd_X2_firstOf ⟨by decide, by decide, by decide +kernel⟩ ⟨Nat.le_of_ble_eq_true rfl, Nat.le_of_ble_eq_true rfl⟩) ⟨tq_Pf.blind, va_recv hK hP (ci := 2) (q0 := 0) rfl rfl, tq_preF C hK hP⟩ rfl rfl hl.1 rfl (lv_room (Nat.le_of_ble_eq_true rfl)) dX2_entryBefore_4 ⟨Nat.le_of_ble_eq_true rfl, Nat.le_of_ble_eq_true rfl⟩) (fun r4 hr4 => ?_)
  obtain rfl := hr4
  refine tq_top (y := nI ((rows row).getD 0 0)) (by rw [hRR.fst hrow]) ?_
  refine lv_istore (lv' := [(4, .int (nI ((rows row).getD 0 0))), (3, .int (nI (0))), (0, .ref (rr)), (1, .int (nI (row))), (2, .int (nI (en)))]) hx hb dX2_entryBefore_7 hl (by decide) rfl (fun ls hl => ?_)
  refine lv_aload_n hx hb dX2_entryBefore_9 rfl (lv_at hl 2 rfl) ?_
  refine lv_iload_n hx hb dX2_entryBefore_10 rfl (lv_at hl 3 rfl) ?_
  refine tq_callF (va_runV C.fix (As := [.int (nI (row))]) (rest := []) (c_X2_count l D cy rr rf rl rc rn sa ka va oa fi la co ne key tk cp row hrow) (tq_cV (n := 1) C ml_X2_56 im_X2_count se_X2_count ini_X2 cd_X2_count ⟨by decide, by decide, by decide +kernel⟩ ⟨Nat.le_of_ble_eq_true rfl, Nat.le_of_ble_eq_true rfl⟩) ⟨tq_Pf.blind, va_recv hK hP (ci := 2) (q0 := 0) rfl rfl, tq_preF C hK hP⟩ rfl rfl hl.1 rfl (lv_room (Nat.le_of_ble_eq_true rfl)) dX2_entryBefore_11 ⟨Nat.le_of_ble_eq_true rfl, Nat.le_of_ble_eq_true rfl⟩) (fun r11 hr11 => ?_)
  obtain rfl := hr11
  refine lv_istore (lv' := [(5, .int (nI (co row))), (4, .int (nI ((rows row).getD 0 0))), (3, .int (nI (0))), (0, .ref (rr)), (1, .int (nI (row))), (2, .int (nI (en)))]) hx hb dX2_entryBefore_14 hl (by decide) rfl (fun ls hl => ?_)
  refine lv_iconst (v := nI 0) hx hb dX2_entryBefore_16 (by decide) ?_
  refine lv_istore (lv' := [(6, .int (nI (0))), (5, .int (nI (co row))), (4, .int (nI ((rows row).getD 0 0))), (3, .int (nI (0))), (0, .ref (rr)), (1, .int (nI (row))), (2, .int (nI (en)))]) hx hb dX2_entryBefore_17 hl (by decide) rfl (fun ls hl => ?_)
  suffices hlp19 : ∀ (n19 : Nat) (i : Nat), P.length - i < n19 → (i ≤ P.length) → ∀ ls : Array Slot, lv_has ls 7 [(0, .ref (rr)), (1, .int (nI (row))), (2, .int (nI (en))), (3, .int (nI ((P.take i).getLastD 0))), (4, .int (nI ((rows row).getD i 0))), (5, .int (nI (co row))), (6, .int (nI (i)))] → W p l e ({ frames := 2, cells := 0, slots := 0, locals := 41 } : Room) s m args below meth c s.heap [] 0 0 (MQ below (tq_Qf (fun r => r = (nI (P.getLastD 0)))) args s 0 0 (fun _ => False)) (F0 m 19 ls []) from
    hlp19 (P.length + 1) 0 (by omega) (by omega) _ (lv_sub hl [4, 5, 6, 3, 2, 1, 0] rfl)
  intro n19
  induction n19 with
  | zero => intro i hf; exact absurd hf (Nat.not_lt_zero _)
  | succ n19 ih19 =>
    intro i hf19 hi ls hl
    refine lv_iload hx hb dX2_entryBefore_19 (lv_at hl 6 rfl) ?_
    refine lv_iload hx hb dX2_entryBefore_21 (lv_at hl 5 rfl) ?_
    refine tq_icmp_ge (tgt := 49) C (by omega) (by omega) dX2_entryBefore_23 (by decide) (fun h23 => ?_) (fun h23 => ?_)
    · omega
    · have hg := hRR.get hrow i
      refine lv_iload hx hb dX2_entryBefore_26 (lv_at hl 4 rfl) ?_
      refine lv_iload_n hx hb dX2_entryBefore_28 rfl (lv_at hl 2 rfl) ?_
      refine tq_icmp_eq (tgt := 49) C (by have := hg.1; omega) (by omega) dX2_entryBefore_29 (by decide) (fun h29 => ?_) (fun h29 => ?_)
      · have hi4 : i = P.length := by
          rcases Nat.lt_or_ge i P.length with q | q
          · refine absurd (h29 ▸ ?_ : en ∈ P) hPn
            rw [hL, getD_left q]; exact getD_mem q
          · omega
        refine lv_iload_n hx hb dX2_entryBefore_49 rfl (lv_at hl 3 rfl) ?_
        exact tq_fret (v := (nI ((P.take i).getLastD 0))) C rfl (by rw [hi4, List.take_length]) dX2_entryBefore_50
      · have hi3 : i < P.length := by
          rcases Nat.lt_or_ge i P.length with q | q
          · exact q
          · exact absurd (by rw [show i = P.length from by omega, hL]; simp) h29
        refine lv_iload hx hb dX2_entryBefore_32 (lv_at hl 4 rfl) ?_
        refine lv_istore_n (lv' := [(3, .int (nI ((rows row).getD i 0))), (0, .ref (rr)), (1, .int (nI (row))), (2, .int (nI (en))), (4, .int (nI ((rows row).getD i 0))), (5, .int (nI (co row))), (6, .int (nI (i)))]) hx hb dX2_entryBefore_34 rfl hl (by decide) rfl (fun ls hl => ?_)
        refine lv_aload_n hx hb dX2_entryBefore_35 rfl (lv_at hl 1 rfl) ?_
        refine lv_iload hx hb dX2_entryBefore_36 (lv_at hl 4 rfl) ?_
        refine tq_callF (va_runV C.fix (As := [.int (nI ((rows row).getD i 0))]) (rest := []) (c_X2_after l D cy rr rf rl rc rn sa ka va oa fi la co ne key tk cp ((rows row).getD i 0) hg.1) (tq_cV (n := 1) C ml_X2_36 im_X2_after se_X2_after ini_X2 cd_X2_after ⟨by decide, by decide, by decide +kernel⟩ ⟨Nat.le_of_ble_eq_true rfl, Nat.le_of_ble_eq_true rfl⟩) ⟨tq_Pf.blind, va_recv hK hP (ci := 2) (q0 := 0) rfl rfl, tq_preF C hK hP⟩ rfl rfl hl.1 rfl (lv_room (Nat.le_of_ble_eq_true rfl)) dX2_entryBefore_38 ⟨Nat.le_of_ble_eq_true rfl, Nat.le_of_ble_eq_true rfl⟩) (fun r38 hr38 => ?_)
        obtain rfl := hr38
        refine tq_top (y := nI ((rows row).getD (i + 1) 0)) (by rw [hRR.nxt hrow]) ?_
        refine lv_istore (lv' := [(4, .int (nI ((rows row).getD (i + 1) 0))), (3, .int (nI ((rows row).getD i 0))), (0, .ref (rr)), (1, .int (nI (row))), (2, .int (nI (en))), (5, .int (nI (co row))), (6, .int (nI (i)))]) hx hb dX2_entryBefore_41 hl (by decide) rfl (fun ls hl => ?_)
        refine lv_iinc (v := (nI (i + 1))) (lv' := [(6, .int (nI (i + 1))), (4, .int (nI ((rows row).getD (i + 1) 0))), (3, .int (nI ((rows row).getD i 0))), (0, .ref (rr)), (1, .int (nI (row))), (2, .int (nI (en))), (5, .int (nI (co row)))]) hx hb dX2_entryBefore_43 hl (k := 6) rfl (tq_inc1 _) (by decide) rfl (fun ls hl => ?_)
        refine lv_goto (tgt := 19) hx hb dX2_entryBefore_46 (by decide) ?_
        rw [show (rows row).getD i 0 = (P.take (i + 1)).getLastD 0 from by rw [hL, getD_left hi3, take_last hi3]] at hl
        exact ih19 (i + 1) (by omega) (by omega) _ (lv_sub hl [3, 4, 5, 2, 1, 6, 0] rfl)
set_option maxHeartbeats 4000000 in
set_option maxRecDepth 100000 in
theorem c_X2_unlink (l : Launch) (D : va_G) (cy : ClassId) (rr : Nat) (rf : Nat) (rl : Nat) (rc : Nat) (rn : Nat) (sa : Nat) (ka : Nat) (va : Nat) (oa : Nat) (fi : Nat → Nat) (la : Nat → Nat) (co : Nat → Nat) (ne : Nat → Nat) (key : Nat → Nat) (tk : Nat) (cp : Nat) (row : Nat) (en : Nat) (rows : Nat → List Nat) (hRR : RR fi la co ne rows) (hrow : row < 256) (h1 : 1 ≤ en) (h2 : en ≤ 120) (P Q : List Nat) (hL : rows row = P ++ en :: Q) (hPn : en ∉ P) (hQn : en ∉ Q)  : tq_V (S := (Nat → Nat) × (Nat → Nat) × (Nat → Nat) × (Nat → Nat)) l yX2_unlink cX2_unlink 4 3 67 0 0 D cy (wR cy rr rf rl rc rn sa ka va oa fi la co ne key tk cp) [.ref (rr), .int (nI (row)), .int (nI (en))] (fun u => RR u.1 u.2.1 u.2.2.1 u.2.2.2 (fun r => (rows r).filter (· != en))) (fun u => (wR cy rr rf rl rc rn sa ka va oa u.1 u.2.1 u.2.2.1 u.2.2.2 key tk cp)) := by
  refine tq_V.mk (by decide) (Nat.le_of_ble_eq_true rfl) ?_
  intro p e s m args below meth c A C hin hP hK hD hS hA ls hl
  obtain ⟨hx, hb, hml, hown, hrt, hlk, hT⟩ := id C
  have hl : lv_has ls 4 [(0, .ref (rr)), (1, .int (nI (row))), (2, .int (nI (en)))] := hl
  have hlen := (hRR.1 row hrow).1
  have hle := hRR.len hrow
  have hun := hRR.unlink hrow P Q hL hPn hQn
  have hll : (rows row).length = P.length + (Q.length + 1) := by rw [hL]; simp
  refine lv_iload_n hx hb dX2_unlink_0 rfl (lv_at hl 1 rfl) ?_
  refine tq_callF (va_runSN C.fix (As := [.int (nI (row))]) (rest := []) (c_X4_isRow l D cy row hrow) (tq_cN (n := 1) C mn_X2_28 sm_X4_isRow ini_X4 cd_X4_isRow ⟨by decide, by decide, by decide +kernel⟩ ⟨Nat.le_of_ble_eq_true rfl, Nat.le_of_ble_eq_true rfl⟩) ⟨tq_Pf.blind, tq_preF C hK (hP.sub [] rfl)⟩ rfl rfl hl.1 rfl (lv_room (Nat.le_of_ble_eq_true rfl)) dX2_unlink_1 ⟨Nat.le_of_ble_eq_true rfl, Nat.le_of_ble_eq_true rfl⟩) (fun r1 hr1 => ?_)
  obtain rfl := hr1
  refine lv_if_eq (tgt := 14) hx hb dX2_unlink_4 (by decide) (fun h9 => absurd h9 (by decide)) (fun _ => ?_)
  refine lv_iload_n hx hb dX2_unlink_7 rfl (lv_at hl 2 rfl) ?_
  refine tq_callF (va_runSN C.fix (As := [.int (nI (en))]) (rest := []) (c_X4_isEntry l D cy en h1 h2) (tq_cN (n := 1) C mn_X2_46 sm_X4_isEntry ini_X4 cd_X4_isEntry ⟨by decide, by decide, by decide +kernel⟩ ⟨Nat.le_of_ble_eq_true rfl, Nat.le_of_ble_eq_true rfl⟩) ⟨tq_Pf.blind, tq_preF C hK (hP.sub [] rfl)⟩ rfl rfl hl.1 rfl (lv_room (Nat.le_of_ble_eq_true rfl)) dX2_unlink_8 ⟨Nat.le_of_ble_eq_true rfl, Nat.le_of_ble_eq_true rfl⟩) (fun r8 hr8 => ?_)
  obtain rfl := hr8
  refine lv_if_ne (tgt := 15) hx hb dX2_unlink_11 (by decide) (fun _ => ?_) (fun h9 => absurd h9 (by decide))
  refine lv_aload_n hx hb dX2_unlink_15 rfl (lv_at hl 0 rfl) ?_
  refine lv_iload_n hx hb dX2_unlink_16 rfl (lv_at hl 1 rfl) ?_
  refine lv_iload_n hx hb dX2_unlink_17 rfl (lv_at hl 2 rfl) ?_
  refine tq_callF (va_runV C.fix (As := [.int (nI (row)), .int (nI (en))]) (rest := []) (c_X2_entryBefore l D cy rr rf rl rc rn sa ka va oa fi la co ne key tk cp row en rows hRR hrow h2 P Q hL hPn hQn) (tq_cV (n := 2) C ml_X2_49 im_X2_entryBefore se_X2_entryBefore ini_X2 cd_X2_entryBefore ⟨by decide, by decide, by decide +kernel⟩ ⟨Nat.le_of_ble_eq_true rfl, Nat.le_of_ble_eq_true rfl⟩) ⟨tq_Pf.blind, va_recv hK hP (ci := 2) (q0 := 0) rfl rfl, tq_preF C hK hP⟩ rfl rfl hl.1 rfl (lv_room (Nat.le_of_ble_eq_true rfl)) dX2_unlink_18 ⟨Nat.le_of_ble_eq_true rfl, Nat.le_of_ble_eq_true rfl⟩) (fun r18 hr18 => ?_)
  obtain rfl := hr18
  refine lv_istore_n (lv' := [(3, .int (nI (P.getLastD 0))), (0, .ref (rr)), (1, .int (nI (row))), (2, .int (nI (en)))]) hx hb dX2_unlink_21 rfl hl (by decide) rfl (fun ls hl => ?_)
  rcases List.eq_nil_or_concat P with hPe | ⟨P9, b9, hPe⟩
  · have hz9 : P.getLastD 0 = 0 := by rw [hPe]; rfl
    refine lv_iload_n hx hb dX2_unlink_22 rfl (lv_at hl 0 rfl) ?_
    refine tq_callF (va_runSN C.fix (As := [.int (nI (P.getLastD 0))]) (rest := []) (c_X4_isEntry_0 l D cy (P.getLastD 0) hz9) (tq_cN (n := 1) C mn_X2_46 sm_X4_isEntry ini_X4 cd_X4_isEntry ⟨by decide, by decide, by decide +kernel⟩ ⟨Nat.le_of_ble_eq_true rfl, Nat.le_of_ble_eq_true rfl⟩) ⟨tq_Pf.blind, tq_preF C hK (hP.sub [] rfl)⟩ rfl rfl hl.1 rfl (lv_room (Nat.le_of_ble_eq_true rfl)) dX2_unlink_23 ⟨Nat.le_of_ble_eq_true rfl, Nat.le_of_ble_eq_true rfl⟩) (fun r23 hr23 => ?_)
    obtain rfl := hr23
    refine lv_if_eq (tgt := 44) hx hb dX2_unlink_26 (by decide) (fun _ => ?_) (fun h9 => absurd (by decide : nI 0 = 0) h9)
    refine lv_aload_n hx hb dX2_unlink_44 rfl (lv_at hl 1 rfl) ?_
    refine tq_get (C0 := RX2) (T := TX2) (N := 5) (ci := 2) (k := 1) C gX2 inX2 rfl (by decide) rfl fl_X2_9 hK hP 0 rfl rfl dX2_unlink_45 ?_
    refine lv_iload_n hx hb dX2_unlink_48 rfl (lv_at hl 2 rfl) ?_
    refine lv_aload_n hx hb dX2_unlink_49 rfl (lv_at hl 1 rfl) ?_
    refine tq_get (C0 := RX2) (T := TX2) (N := 5) (ci := 2) (k := 4) C gX2 inX2 rfl (by decide) rfl fl_X2_21 hK hP 0 rfl rfl dX2_unlink_50 ?_
    refine lv_iload_n hx hb dX2_unlink_53 rfl (lv_at hl 3 rfl) ?_
    refine tq_iald (n := 121) (i := en) (f := ne) C hK hP 4 0 rfl rfl (Nat.lt_succ_of_le h2) (Nat.le_of_ble_eq_true rfl) dX2_unlink_54 ?_
    refine tq_iast (n := 256) (i := row) (v := (ne en)) (f := fi) C hK hP hD hS 1 0 rfl rfl (by omega) (Nat.le_of_ble_eq_true rfl) dX2_unlink_55 (fun H locs hP hD hS => ?_)
    have hP : va_P D vwCl (wR cy rr rf rl rc rn sa ka va oa (va_up fi row (ne en)) la co ne key tk cp) H := hP
    have hD : va_D A (wR cy rr rf rl rc rn sa ka va oa (va_up fi row (ne en)) la co ne key tk cp) := hD
    refine lv_aload_n hx hb dX2_unlink_56 rfl (lv_at hl 1 rfl) ?_
    refine tq_get (C0 := RX2) (T := TX2) (N := 5) (ci := 2) (k := 2) C gX2 inX2 rfl (by decide) rfl fl_X2_15 hK hP 0 rfl rfl dX2_unlink_57 ?_
    refine lv_iload_n hx hb dX2_unlink_60 rfl (lv_at hl 2 rfl) ?_
    refine tq_iald (n := 256) (i := row) (f := la) C hK hP 2 0 rfl rfl (by omega) (Nat.le_of_ble_eq_true rfl) dX2_unlink_61 ?_
    refine lv_iload_n hx hb dX2_unlink_62 rfl (lv_at hl 3 rfl) ?_
    have hla9 : la row ≤ 120 := by
      rw [(hRR.1 row hrow).2.2.1]; exact ((hRR.1 row hrow).2.2.2.2.1 _ (getLastD_mem (by rw [hL]; simp))).2
    refine tq_icmp_ne (tgt := 73) C (by omega) (by omega) dX2_unlink_63 (by decide) (fun h63 => ?_) (fun h63 => ?_)
    · refine lv_aload_n hx hb dX2_unlink_73 rfl (lv_at hl 1 rfl) ?_
      refine tq_get (C0 := RX2) (T := TX2) (N := 5) (ci := 2) (k := 3) C gX2 inX2 rfl (by decide) rfl fl_X2_18 hK hP 0 rfl rfl dX2_unlink_74 ?_
      refine lv_iload_n hx hb dX2_unlink_77 rfl (lv_at hl 2 rfl) ?_
      refine lv_dup2_11 hx hb dX2_unlink_78 rfl rfl ?_
      refine tq_iald (n := 256) (i := row) (f := co) C hK hP 3 0 rfl rfl (by omega) (Nat.le_of_ble_eq_true rfl) dX2_unlink_79 ?_
      refine lv_iconst (v := nI 1) hx hb dX2_unlink_80 (by decide) ?_
      refine tq_isub C (by omega) dX2_unlink_81 ?_
      refine tq_iast (n := 256) (i := row) (v := ((co row) - 1)) (f := co) C hK hP hD hS 3 0 rfl rfl (by omega) (Nat.le_of_ble_eq_true rfl) dX2_unlink_82 (fun H locs hP hD hS => ?_)
      have hP : va_P D vwCl (wR cy rr rf rl rc rn sa ka va oa (va_up fi row (ne en)) la (va_up co row ((co row) - 1)) ne key tk cp) H := hP
      have hD : va_D A (wR cy rr rf rl rc rn sa ka va oa (va_up fi row (ne en)) la (va_up co row ((co row) - 1)) ne key tk cp) := hD
      exact tq_vret C (va_up fi row (ne en), la, va_up co row ((co row) - 1), ne) hP hD hS (by have h := hun.1 hPe; rwa [if_neg (fun q => h63 (hun.2.2.mpr q))] at h) (Nat.le_of_ble_eq_true rfl) (Nat.le_of_ble_eq_true rfl) dX2_unlink_83
    · refine lv_aload_n hx hb dX2_unlink_66 rfl (lv_at hl 1 rfl) ?_
      refine tq_get (C0 := RX2) (T := TX2) (N := 5) (ci := 2) (k := 2) C gX2 inX2 rfl (by decide) rfl fl_X2_15 hK hP 0 rfl rfl dX2_unlink_67 ?_
      refine lv_iload_n hx hb dX2_unlink_70 rfl (lv_at hl 2 rfl) ?_
      refine lv_iload_n hx hb dX2_unlink_71 rfl (lv_at hl 0 rfl) ?_
      refine tq_iast (n := 256) (i := row) (v := (P.getLastD 0)) (f := la) C hK hP hD hS 2 0 rfl rfl (by omega) (Nat.le_of_ble_eq_true rfl) dX2_unlink_72 (fun H locs hP hD hS => ?_)
      have hP : va_P D vwCl (wR cy rr rf rl rc rn sa ka va oa (va_up fi row (ne en)) (va_up la row (P.getLastD 0)) co ne key tk cp) H := hP
      have hD : va_D A (wR cy rr rf rl rc rn sa ka va oa (va_up fi row (ne en)) (va_up la row (P.getLastD 0)) co ne key tk cp) := hD
      refine lv_aload_n hx hb dX2_unlink_73 rfl (lv_at hl 1 rfl) ?_
      refine tq_get (C0 := RX2) (T := TX2) (N := 5) (ci := 2) (k := 3) C gX2 inX2 rfl (by decide) rfl fl_X2_18 hK hP 0 rfl rfl dX2_unlink_74 ?_
      refine lv_iload_n hx hb dX2_unlink_77 rfl (lv_at hl 2 rfl) ?_
      refine lv_dup2_11 hx hb dX2_unlink_78 rfl rfl ?_
      refine tq_iald (n := 256) (i := row) (f := co) C hK hP 3 0 rfl rfl (by omega) (Nat.le_of_ble_eq_true rfl) dX2_unlink_79 ?_
      refine lv_iconst (v := nI 1) hx hb dX2_unlink_80 (by decide) ?_
      refine tq_isub C (by omega) dX2_unlink_81 ?_
      refine tq_iast (n := 256) (i := row) (v := ((co row) - 1)) (f := co) C hK hP hD hS 3 0 rfl rfl (by omega) (Nat.le_of_ble_eq_true rfl) dX2_unlink_82 (fun H locs hP hD hS => ?_)
      have hP : va_P D vwCl (wR cy rr rf rl rc rn sa ka va oa (va_up fi row (ne en)) (va_up la row (P.getLastD 0)) (va_up co row ((co row) - 1)) ne key tk cp) H := hP
      have hD : va_D A (wR cy rr rf rl rc rn sa ka va oa (va_up fi row (ne en)) (va_up la row (P.getLastD 0)) (va_up co row ((co row) - 1)) ne key tk cp) := hD
      exact tq_vret C (va_up fi row (ne en), va_up la row (P.getLastD 0), va_up co row ((co row) - 1), ne) hP hD hS (by have h := hun.1 hPe; rwa [if_pos (hun.2.2.mp h63)] at h) (Nat.le_of_ble_eq_true rfl) (Nat.le_of_ble_eq_true rfl) dX2_unlink_83
  · have hne9 : P ≠ [] := by rw [hPe]; simp
    have hb9 := (hRR.1 row hrow).2.2.2.2.1 (P.getLastD 0) (by rw [hL]; exact List.mem_append_left _ (getLastD_mem hne9))
    refine lv_iload_n hx hb dX2_unlink_22 rfl (lv_at hl 0 rfl) ?_
    refine tq_callF (va_runSN C.fix (As := [.int (nI (P.getLastD 0))]) (rest := []) (c_X4_isEntry l D cy (P.getLastD 0) hb9.1 hb9.2) (tq_cN (n := 1) C mn_X2_46 sm_X4_isEntry ini_X4 cd_X4_isEntry ⟨by decide, by decide, by decide +kernel⟩ ⟨Nat.le_of_ble_eq_true rfl, Nat.le_of_ble_eq_true rfl⟩) ⟨tq_Pf.blind, tq_preF C hK (hP.sub [] rfl)⟩ rfl rfl hl.1 rfl (lv_room (Nat.le_of_ble_eq_true rfl)) dX2_unlink_23 ⟨Nat.le_of_ble_eq_true rfl, Nat.le_of_ble_eq_true rfl⟩) (fun r23 hr23 => ?_)
    obtain rfl := hr23
    refine lv_if_eq (tgt := 44) hx hb dX2_unlink_26 (by decide) (fun h9 => absurd h9 (by decide)) (fun _ => ?_)
    refine lv_aload_n hx hb dX2_unlink_29 rfl (lv_at hl 1 rfl) ?_
    refine tq_get (C0 := RX2) (T := TX2) (N := 5) (ci := 2) (k := 4) C gX2 inX2 rfl (by decide) rfl fl_X2_21 hK hP 0 rfl rfl dX2_unlink_30 ?_
    refine lv_iload_n hx hb dX2_unlink_33 rfl (lv_at hl 0 rfl) ?_
    refine lv_aload_n hx hb dX2_unlink_34 rfl (lv_at hl 1 rfl) ?_
    refine tq_get (C0 := RX2) (T := TX2) (N := 5) (ci := 2) (k := 4) C gX2 inX2 rfl (by decide) rfl fl_X2_21 hK hP 0 rfl rfl dX2_unlink_35 ?_
    refine lv_iload_n hx hb dX2_unlink_38 rfl (lv_at hl 3 rfl) ?_
    refine tq_iald (n := 121) (i := en) (f := ne) C hK hP 4 0 rfl rfl (Nat.lt_succ_of_le h2) (Nat.le_of_ble_eq_true rfl) dX2_unlink_39 ?_
    refine tq_iast (n := 121) (i := (P.getLastD 0)) (v := (ne en)) (f := ne) C hK hP hD hS 4 0 rfl rfl (Nat.lt_succ_of_le hb9.2) (Nat.le_of_ble_eq_true rfl) dX2_unlink_40 (fun H locs hP hD hS => ?_)
    have hP : va_P D vwCl (wR cy rr rf rl rc rn sa ka va oa fi la co (va_up ne (P.getLastD 0) (ne en)) key tk cp) H := hP
    have hD : va_D A (wR cy rr rf rl rc rn sa ka va oa fi la co (va_up ne (P.getLastD 0) (ne en)) key tk cp) := hD
    refine lv_goto (tgt := 56) hx hb dX2_unlink_41 (by decide) ?_
    refine lv_aload_n hx hb dX2_unlink_56 rfl (lv_at hl 1 rfl) ?_
    refine tq_get (C0 := RX2) (T := TX2) (N := 5) (ci := 2) (k := 2) C gX2 inX2 rfl (by decide) rfl fl_X2_15 hK hP 0 rfl rfl dX2_unlink_57 ?_
    refine lv_iload_n hx hb dX2_unlink_60 rfl (lv_at hl 2 rfl) ?_
    refine tq_iald (n := 256) (i := row) (f := la) C hK hP 2 0 rfl rfl (by omega) (Nat.le_of_ble_eq_true rfl) dX2_unlink_61 ?_
    refine lv_iload_n hx hb dX2_unlink_62 rfl (lv_at hl 3 rfl) ?_
    have hla9 : la row ≤ 120 := by
      rw [(hRR.1 row hrow).2.2.1]; exact ((hRR.1 row hrow).2.2.2.2.1 _ (getLastD_mem (by rw [hL]; simp))).2
    refine tq_icmp_ne (tgt := 73) C (by omega) (by omega) dX2_unlink_63 (by decide) (fun h63 => ?_) (fun h63 => ?_)
    · refine lv_aload_n hx hb dX2_unlink_73 rfl (lv_at hl 1 rfl) ?_
      refine tq_get (C0 := RX2) (T := TX2) (N := 5) (ci := 2) (k := 3) C gX2 inX2 rfl (by decide) rfl fl_X2_18 hK hP 0 rfl rfl dX2_unlink_74 ?_
      refine lv_iload_n hx hb dX2_unlink_77 rfl (lv_at hl 2 rfl) ?_
      refine lv_dup2_11 hx hb dX2_unlink_78 rfl rfl ?_
      refine tq_iald (n := 256) (i := row) (f := co) C hK hP 3 0 rfl rfl (by omega) (Nat.le_of_ble_eq_true rfl) dX2_unlink_79 ?_
      refine lv_iconst (v := nI 1) hx hb dX2_unlink_80 (by decide) ?_
      refine tq_isub C (by omega) dX2_unlink_81 ?_
      refine tq_iast (n := 256) (i := row) (v := ((co row) - 1)) (f := co) C hK hP hD hS 3 0 rfl rfl (by omega) (Nat.le_of_ble_eq_true rfl) dX2_unlink_82 (fun H locs hP hD hS => ?_)
      have hP : va_P D vwCl (wR cy rr rf rl rc rn sa ka va oa fi la (va_up co row ((co row) - 1)) (va_up ne (P.getLastD 0) (ne en)) key tk cp) H := hP
      have hD : va_D A (wR cy rr rf rl rc rn sa ka va oa fi la (va_up co row ((co row) - 1)) (va_up ne (P.getLastD 0) (ne en)) key tk cp) := hD
      exact tq_vret C (fi, la, va_up co row ((co row) - 1), va_up ne (P.getLastD 0) (ne en)) hP hD hS (by have h := hun.2.1 hne9; rwa [if_neg (fun q => h63 (hun.2.2.mpr q))] at h) (Nat.le_of_ble_eq_true rfl) (Nat.le_of_ble_eq_true rfl) dX2_unlink_83
    · refine lv_aload_n hx hb dX2_unlink_66 rfl (lv_at hl 1 rfl) ?_
      refine tq_get (C0 := RX2) (T := TX2) (N := 5) (ci := 2) (k := 2) C gX2 inX2 rfl (by decide) rfl fl_X2_15 hK hP 0 rfl rfl dX2_unlink_67 ?_
      refine lv_iload_n hx hb dX2_unlink_70 rfl (lv_at hl 2 rfl) ?_
      refine lv_iload_n hx hb dX2_unlink_71 rfl (lv_at hl 0 rfl) ?_
      refine tq_iast (n := 256) (i := row) (v := (P.getLastD 0)) (f := la) C hK hP hD hS 2 0 rfl rfl (by omega) (Nat.le_of_ble_eq_true rfl) dX2_unlink_72 (fun H locs hP hD hS => ?_)
      have hP : va_P D vwCl (wR cy rr rf rl rc rn sa ka va oa fi (va_up la row (P.getLastD 0)) co (va_up ne (P.getLastD 0) (ne en)) key tk cp) H := hP
      have hD : va_D A (wR cy rr rf rl rc rn sa ka va oa fi (va_up la row (P.getLastD 0)) co (va_up ne (P.getLastD 0) (ne en)) key tk cp) := hD
      refine lv_aload_n hx hb dX2_unlink_73 rfl (lv_at hl 1 rfl) ?_
      refine tq_get (C0 := RX2) (T := TX2) (N := 5) (ci := 2) (k := 3) C gX2 inX2 rfl (by decide) rfl fl_X2_18 hK hP 0 rfl rfl dX2_unlink_74 ?_
      refine lv_iload_n hx hb dX2_unlink_77 rfl (lv_at hl 2 rfl) ?_
      refine lv_dup2_11 hx hb dX2_unlink_78 rfl rfl ?_
      refine tq_iald (n := 256) (i := row) (f := co) C hK hP 3 0 rfl rfl (by omega) (Nat.le_of_ble_eq_true rfl) dX2_unlink_79 ?_
      refine lv_iconst (v := nI 1) hx hb dX2_unlink_80 (by decide) ?_
      refine tq_isub C (by omega) dX2_unlink_81 ?_
      refine tq_iast (n := 256) (i := row) (v := ((co row) - 1)) (f := co) C hK hP hD hS 3 0 rfl rfl (by omega) (Nat.le_of_ble_eq_true rfl) dX2_unlink_82 (fun H locs hP hD hS => ?_)
      have hP : va_P D vwCl (wR cy rr rf rl rc rn sa ka va oa fi (va_up la row (P.getLastD 0)) (va_up co row ((co row) - 1)) (va_up ne (P.getLastD 0) (ne en)) key tk cp) H := hP
      have hD : va_D A (wR cy rr rf rl rc rn sa ka va oa fi (va_up la row (P.getLastD 0)) (va_up co row ((co row) - 1)) (va_up ne (P.getLastD 0) (ne en)) key tk cp) := hD
      exact tq_vret C (fi, va_up la row (P.getLastD 0), va_up co row ((co row) - 1), va_up ne (P.getLastD 0) (ne en)) hP hD hS (by have h := hun.2.1 hne9; rwa [if_pos (hun.2.2.mp h63)] at h) (Nat.le_of_ble_eq_true rfl) (Nat.le_of_ble_eq_true rfl) dX2_unlink_83
set_option maxHeartbeats 4000000 in
set_option maxRecDepth 100000 in
theorem c_X2_empty (l : Launch) (D : va_G) (cy : ClassId) (rr : Nat) (rf : Nat) (rl : Nat) (rc : Nat) (rn : Nat) (sa : Nat) (ka : Nat) (va : Nat) (oa : Nat) (fi : Nat → Nat) (la : Nat → Nat) (co : Nat → Nat) (ne : Nat → Nat) (key : Nat → Nat) (tk : Nat) (cp : Nat) (row : Nat) (hrow : row < 256) : tq_V (S := Unit) l yX2_empty cX2_empty 2 1 20 0 0 D cy (wR cy rr rf rl rc rn sa ka va oa fi la co ne key tk cp) [.ref (rr), .int (nI (row))] (fun _ => True) (fun u => (wR cy rr rf rl rc rn sa ka va oa (va_up fi row 0) (va_up la row 0) (va_up co row 0) ne key tk cp)) := by
  refine tq_V.mk (by decide) (Nat.le_of_ble_eq_true rfl) ?_
  intro p e s m args below meth c A C hin hP hK hD hS hA ls hl
  obtain ⟨hx, hb, hml, hown, hrt, hlk, hT⟩ := id C
  have hl : lv_has ls 2 [(0, .ref (rr)), (1, .int (nI (row)))] := hl
  refine lv_iload_n hx hb dX2_empty_0 rfl (lv_at hl 1 rfl) ?_
  refine tq_callF (va_runSN C.fix (As := [.int (nI (row))]) (rest := []) (c_X4_isRow l D cy row hrow) (tq_cN (n := 1) C mn_X2_28 sm_X4_isRow ini_X4 cd_X4_isRow ⟨by decide, by decide, by decide +kernel⟩ ⟨Nat.le_of_ble_eq_true rfl, Nat.le_of_ble_eq_true rfl⟩) ⟨tq_Pf.blind, tq_preF C hK (hP.sub [] rfl)⟩ rfl rfl hl.1 rfl (lv_room (Nat.le_of_ble_eq_true rfl)) dX2_empty_1 ⟨Nat.le_of_ble_eq_true rfl, Nat.le_of_ble_eq_true rfl⟩) (fun r1 hr1 => ?_)
  obtain rfl := hr1
  refine lv_if_eq (tgt := 28) hx hb dX2_empty_4 (by decide) (fun h9 => absurd h9 (by decide)) (fun _ => ?_)
  refine lv_aload_n hx hb dX2_empty_7 rfl (lv_at hl 0 rfl) ?_
  refine tq_get (C0 := RX2) (T := TX2) (N := 5) (ci := 2) (k := 1) C gX2 inX2 rfl (by decide) rfl fl_X2_9 hK hP 0 rfl rfl dX2_empty_8 ?_
  refine lv_iload_n hx hb dX2_empty_11 rfl (lv_at hl 1 rfl) ?_
  refine lv_iconst (v := nI 0) hx hb dX2_empty_12 (by decide) ?_
  refine tq_iast (n := 256) (i := row) (v := 0) (f := fi) C hK hP hD hS 1 0 rfl rfl (by omega) (Nat.le_of_ble_eq_true rfl) dX2_empty_13 (fun H locs hP hD hS => ?_)
  have hP : va_P D vwCl (wR cy rr rf rl rc rn sa ka va oa (va_up fi row 0) la co ne key tk cp) H := hP
  have hD : va_D A (wR cy rr rf rl rc rn sa ka va oa (va_up fi row 0) la co ne key tk cp) := hD
  refine lv_aload_n hx hb dX2_empty_14 rfl (lv_at hl 0 rfl) ?_
  refine tq_get (C0 := RX2) (T := TX2) (N := 5) (ci := 2) (k := 2) C gX2 inX2 rfl (by decide) rfl fl_X2_15 hK hP 0 rfl rfl dX2_empty_15 ?_
  refine lv_iload_n hx hb dX2_empty_18 rfl (lv_at hl 1 rfl) ?_
  refine lv_iconst (v := nI 0) hx hb dX2_empty_19 (by decide) ?_
  refine tq_iast (n := 256) (i := row) (v := 0) (f := la) C hK hP hD hS 2 0 rfl rfl (by omega) (Nat.le_of_ble_eq_true rfl) dX2_empty_20 (fun H locs hP hD hS => ?_)
  have hP : va_P D vwCl (wR cy rr rf rl rc rn sa ka va oa (va_up fi row 0) (va_up la row 0) co ne key tk cp) H := hP
  have hD : va_D A (wR cy rr rf rl rc rn sa ka va oa (va_up fi row 0) (va_up la row 0) co ne key tk cp) := hD
  refine lv_aload_n hx hb dX2_empty_21 rfl (lv_at hl 0 rfl) ?_
  refine tq_get (C0 := RX2) (T := TX2) (N := 5) (ci := 2) (k := 3) C gX2 inX2 rfl (by decide) rfl fl_X2_18 hK hP 0 rfl rfl dX2_empty_22 ?_
  refine lv_iload_n hx hb dX2_empty_25 rfl (lv_at hl 1 rfl) ?_
  refine lv_iconst (v := nI 0) hx hb dX2_empty_26 (by decide) ?_
  refine tq_iast (n := 256) (i := row) (v := 0) (f := co) C hK hP hD hS 3 0 rfl rfl (by omega) (Nat.le_of_ble_eq_true rfl) dX2_empty_27 (fun H locs hP hD hS => ?_)
  have hP : va_P D vwCl (wR cy rr rf rl rc rn sa ka va oa (va_up fi row 0) (va_up la row 0) (va_up co row 0) ne key tk cp) H := hP
  have hD : va_D A (wR cy rr rf rl rc rn sa ka va oa (va_up fi row 0) (va_up la row 0) (va_up co row 0) ne key tk cp) := hD
  exact tq_vret C () hP hD hS (trivial) (Nat.le_of_ble_eq_true rfl) (Nat.le_of_ble_eq_true rfl) dX2_empty_28
