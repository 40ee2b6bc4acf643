theorem dX4_checkSlot_0 : decode cX4_checkSlot 0 = .ok (.iload_n 1, 1) := by decide +kernel
theorem dX4_checkSlot_1 : decode cX4_checkSlot 1 = .ok (.aload_n 0, 1) := by decide +kernel
theorem dX4_checkSlot_2 : decode cX4_checkSlot 2 = .ok (.getfield 21, 3) := by decide +kernel
theorem dX4_checkSlot_5 : decode cX4_checkSlot 5 = .ok (.invokevirtual 138, 3) := by decide +kernel
theorem dX4_checkSlot_8 : decode cX4_checkSlot 8 = .ok (.invokestatic 175, 3) := by decide +kernel
theorem dX4_checkSlot_11 : decode cX4_checkSlot 11 = .ok (.return_, 1) := by decide +kernel
theorem dX4_keyOfRow_0 : decode cX4_keyOfRow 0 = .ok (.iload_n 3, 1) := by decide +kernel
theorem dX4_keyOfRow_1 : decode cX4_keyOfRow 1 = .ok (.aload_n 1, 1) := by decide +kernel
theorem dX4_keyOfRow_2 : decode cX4_keyOfRow 2 = .ok (.iload_n 2, 1) := by decide +kernel
theorem dX4_keyOfRow_3 : decode cX4_keyOfRow 3 = .ok (.invokevirtual 123, 3) := by decide +kernel
theorem dX4_keyOfRow_6 : decode cX4_keyOfRow 6 = .ok (.invokestatic 175, 3) := by decide +kernel
theorem dX4_keyOfRow_9 : decode cX4_keyOfRow 9 = .ok (.aload_n 0, 1) := by decide +kernel
theorem dX4_keyOfRow_10 : decode cX4_keyOfRow 10 = .ok (.getfield 10, 3) := by decide +kernel
theorem dX4_keyOfRow_13 : decode cX4_keyOfRow 13 = .ok (.aload_n 1, 1) := by decide +kernel
theorem dX4_keyOfRow_14 : decode cX4_keyOfRow 14 = .ok (.iload_n 2, 1) := by decide +kernel
theorem dX4_keyOfRow_15 : decode cX4_keyOfRow 15 = .ok (.iload_n 3, 1) := by decide +kernel
theorem dX4_keyOfRow_16 : decode cX4_keyOfRow 16 = .ok (.invokevirtual 195, 3) := by decide +kernel
theorem dX4_keyOfRow_19 : decode cX4_keyOfRow 19 = .ok (.invokevirtual 198, 3) := by decide +kernel
theorem dX4_keyOfRow_22 : decode cX4_keyOfRow 22 = .ok (.ireturn, 1) := by decide +kernel
theorem dX4_buckets_0 : decode cX4_buckets 0 = .ok (.aload_n 0, 1) := by decide +kernel
theorem dX4_buckets_1 : decode cX4_buckets 1 = .ok (.getfield 21, 3) := by decide +kernel
theorem dX4_buckets_4 : decode cX4_buckets 4 = .ok (.invokevirtual 107, 3) := by decide +kernel
theorem dX4_buckets_7 : decode cX4_buckets 7 = .ok (.ireturn, 1) := by decide +kernel
theorem dX4_bucketSize_0 : decode cX4_bucketSize 0 = .ok (.aload_n 0, 1) := by decide +kernel
theorem dX4_bucketSize_1 : decode cX4_bucketSize 1 = .ok (.iload_n 1, 1) := by decide +kernel
theorem dX4_bucketSize_2 : decode cX4_bucketSize 2 = .ok (.invokevirtual 110, 3) := by decide +kernel
theorem dX4_bucketSize_5 : decode cX4_bucketSize 5 = .ok (.aload_n 0, 1) := by decide +kernel
theorem dX4_bucketSize_6 : decode cX4_bucketSize 6 = .ok (.getfield 21, 3) := by decide +kernel
theorem dX4_bucketSize_9 : decode cX4_bucketSize 9 = .ok (.getfield 116, 3) := by decide +kernel
theorem dX4_bucketSize_12 : decode cX4_bucketSize 12 = .ok (.aload_n 0, 1) := by decide +kernel
theorem dX4_bucketSize_13 : decode cX4_bucketSize 13 = .ok (.getfield 21, 3) := by decide +kernel
theorem dX4_bucketSize_16 : decode cX4_bucketSize 16 = .ok (.iload_n 1, 1) := by decide +kernel
theorem dX4_bucketSize_17 : decode cX4_bucketSize 17 = .ok (.invokevirtual 120, 3) := by decide +kernel
theorem dX4_bucketSize_20 : decode cX4_bucketSize 20 = .ok (.invokevirtual 123, 3) := by decide +kernel
theorem dX4_bucketSize_23 : decode cX4_bucketSize 23 = .ok (.ireturn, 1) := by decide +kernel
theorem dX4_keyAt_0 : decode cX4_keyAt 0 = .ok (.aload_n 0, 1) := by decide +kernel
theorem dX4_keyAt_1 : decode cX4_keyAt 1 = .ok (.iload_n 1, 1) := by decide +kernel
theorem dX4_keyAt_2 : decode cX4_keyAt 2 = .ok (.invokevirtual 110, 3) := by decide +kernel
theorem dX4_keyAt_5 : decode cX4_keyAt 5 = .ok (.aload_n 0, 1) := by decide +kernel
theorem dX4_keyAt_6 : decode cX4_keyAt 6 = .ok (.aload_n 0, 1) := by decide +kernel
theorem dX4_keyAt_7 : decode cX4_keyAt 7 = .ok (.getfield 21, 3) := by decide +kernel
theorem dX4_keyAt_10 : decode cX4_keyAt 10 = .ok (.getfield 116, 3) := by decide +kernel
theorem dX4_keyAt_13 : decode cX4_keyAt 13 = .ok (.aload_n 0, 1) := by decide +kernel
theorem dX4_keyAt_14 : decode cX4_keyAt 14 = .ok (.getfield 21, 3) := by decide +kernel
theorem dX4_keyAt_17 : decode cX4_keyAt 17 = .ok (.iload_n 1, 1) := by decide +kernel
theorem dX4_keyAt_18 : decode cX4_keyAt 18 = .ok (.invokevirtual 120, 3) := by decide +kernel
theorem dX4_keyAt_21 : decode cX4_keyAt 21 = .ok (.iload_n 2, 1) := by decide +kernel
theorem dX4_keyAt_22 : decode cX4_keyAt 22 = .ok (.invokevirtual 128, 3) := by decide +kernel
theorem dX4_keyAt_25 : decode cX4_keyAt 25 = .ok (.ireturn, 1) := by decide +kernel
theorem dX4_slotAt_0 : decode cX4_slotAt 0 = .ok (.iload_n 1, 1) := by decide +kernel
theorem dX4_slotAt_1 : decode cX4_slotAt 1 = .ok (.iconst 0, 1) := by decide +kernel
theorem dX4_slotAt_2 : decode cX4_slotAt 2 = .ok (.sipush 255, 3) := by decide +kernel
theorem dX4_slotAt_5 : decode cX4_slotAt 5 = .ok (.invokestatic 37, 3) := by decide +kernel
theorem dX4_slotAt_8 : decode cX4_slotAt 8 = .ok (.iload_n 1, 1) := by decide +kernel
theorem dX4_slotAt_9 : decode cX4_slotAt 9 = .ok (.aload_n 0, 1) := by decide +kernel
theorem dX4_slotAt_10 : decode cX4_slotAt 10 = .ok (.getfield 21, 3) := by decide +kernel
theorem dX4_slotAt_13 : decode cX4_slotAt 13 = .ok (.getfield 104, 3) := by decide +kernel
theorem dX4_slotAt_16 : decode cX4_slotAt 16 = .ok (.invokestatic 162, 3) := by decide +kernel
theorem dX4_slotAt_19 : decode cX4_slotAt 19 = .ok (.ireturn, 1) := by decide +kernel
theorem dX4_nextCursor_0 : decode cX4_nextCursor 0 = .ok (.iload_n 1, 1) := by decide +kernel
theorem dX4_nextCursor_1 : decode cX4_nextCursor 1 = .ok (.iconst 0, 1) := by decide +kernel
theorem dX4_nextCursor_2 : decode cX4_nextCursor 2 = .ok (.sipush 255, 3) := by decide +kernel
theorem dX4_nextCursor_5 : decode cX4_nextCursor 5 = .ok (.invokestatic 37, 3) := by decide +kernel
theorem dX4_nextCursor_8 : decode cX4_nextCursor 8 = .ok (.aload_n 0, 1) := by decide +kernel
theorem dX4_nextCursor_9 : decode cX4_nextCursor 9 = .ok (.getfield 21, 3) := by decide +kernel
theorem dX4_nextCursor_12 : decode cX4_nextCursor 12 = .ok (.iload_n 1, 1) := by decide +kernel
theorem dX4_nextCursor_13 : decode cX4_nextCursor 13 = .ok (.aload_n 0, 1) := by decide +kernel
theorem dX4_nextCursor_14 : decode cX4_nextCursor 14 = .ok (.getfield 21, 3) := by decide +kernel
theorem dX4_nextCursor_17 : decode cX4_nextCursor 17 = .ok (.getfield 104, 3) := by decide +kernel
theorem dX4_nextCursor_20 : decode cX4_nextCursor 20 = .ok (.invokestatic 162, 3) := by decide +kernel
theorem dX4_nextCursor_23 : decode cX4_nextCursor 23 = .ok (.invokevirtual 113, 3) := by decide +kernel
theorem dX4_nextCursor_26 : decode cX4_nextCursor 26 = .ok (.istore_n 2, 1) := by decide +kernel
theorem dX4_nextCursor_27 : decode cX4_nextCursor 27 = .ok (.iload_n 1, 1) := by decide +kernel
theorem dX4_nextCursor_28 : decode cX4_nextCursor 28 = .ok (.iload_n 2, 1) := by decide +kernel
theorem dX4_nextCursor_29 : decode cX4_nextCursor 29 = .ok (.invokestatic 165, 3) := by decide +kernel
theorem dX4_nextCursor_32 : decode cX4_nextCursor 32 = .ok (.iconst 1, 1) := by decide +kernel
theorem dX4_nextCursor_33 : decode cX4_nextCursor 33 = .ok (.iadd, 1) := by decide +kernel
theorem dX4_nextCursor_34 : decode cX4_nextCursor 34 = .ok (.istore_n 3, 1) := by decide +kernel
theorem dX4_nextCursor_35 : decode cX4_nextCursor 35 = .ok (.iload_n 3, 1) := by decide +kernel
theorem dX4_nextCursor_36 : decode cX4_nextCursor 36 = .ok (.iconst 1, 1) := by decide +kernel
theorem dX4_nextCursor_37 : decode cX4_nextCursor 37 = .ok (.iload_n 2, 1) := by decide +kernel
theorem dX4_nextCursor_38 : decode cX4_nextCursor 38 = .ok (.ishl, 1) := by decide +kernel
theorem dX4_nextCursor_39 : decode cX4_nextCursor 39 = .ok (.if_icmp .ne 7, 3) := by decide +kernel
theorem dX4_nextCursor_42 : decode cX4_nextCursor 42 = .ok (.iconst 0, 1) := by decide +kernel
theorem dX4_nextCursor_43 : decode cX4_nextCursor 43 = .ok (.goto 8, 3) := by decide +kernel
theorem dX4_nextCursor_46 : decode cX4_nextCursor 46 = .ok (.iload_n 3, 1) := by decide +kernel
theorem dX4_nextCursor_47 : decode cX4_nextCursor 47 = .ok (.iload_n 2, 1) := by decide +kernel
theorem dX4_nextCursor_48 : decode cX4_nextCursor 48 = .ok (.invokestatic 165, 3) := by decide +kernel
theorem dX4_nextCursor_51 : decode cX4_nextCursor 51 = .ok (.ireturn, 1) := by decide +kernel
set_option maxHeartbeats 4000000 in
set_option maxRecDepth 100000 in
theorem c_X4_buckets (l : Launch) (D : va_G) (cy : ClassId) (a : Nat → Nat) (key : Nat → Nat) (val : Nat → Nat) (ord : Nat → Nat) (tk : Nat) (cp : Nat) (efi : Nat → Nat) (ela : Nat → Nat) (eco : Nat → Nat) (ene : Nat → Nat) (ldp : Nat → Nat) (dp : Nat) (dbl : Int32) (hlv : Int32) (spl : Int32) (mrg : Int32) (lfi : Nat → Nat) (lla : Nat → Nat) (lco : Nat → Nat) (lne : Nat → Nat) (lev : Nat) (ptr : Nat) (llo : Nat) (lhi : Nat) (lsp : Int32)  (dep : Nat → Nat) (E L : List Nat) (hCR : CR key val ord tk cp efi ela eco ene ldp dp lfi lla lco lne lev ptr llo lhi dep E L)  : tq_F l yX4_buckets cX4_buckets 1 (some .int) 4 85 D cy (wC cy a key val ord tk cp efi ela eco ene ldp dp dbl hlv spl mrg lfi lla lco lne lev ptr llo lhi lsp) [.ref (a 0)] (fun r => r = nI (so (fun q => if q < 2 ^ dep q then 1 else 0) 256)) := by
  refine tq_F.mk (by decide) (Nat.le_of_ble_eq_true rfl) ?_
  intro p e s m args below meth c C hP hK ls hl
  obtain ⟨hx, hb, hml, hown, hrt, hlk, hT⟩ := id C
  have hl : lv_has ls 1 [(0, .ref (a 0))] := hl
  obtain ⟨hSO, ⟨hcp1, hcp2⟩, ⟨hlo, hh1, hh2⟩, ⟨rX, hXR⟩, ⟨rY, hYR⟩, hEL⟩ := id hCR
  have hky := hSO.keyb
  have hdp := hXR.2.1.1
  have hp8 := p8 hdp
  have hld := hXR.2.2.2.1
  have hY := hYR.2.1
  have hYm := hY.2
  have hYp := hY.1
  have htk9 := hSO.1
  refine lv_aload_n hx hb dX4_buckets_0 rfl (lv_at hl 0 rfl) ?_
  refine tq_get (C0 := RX4) (T := TX4) (N := 3) (ci := 4) (k := 1) C gX4 inX4 rfl (by decide) rfl fl_X4_21 hK hP 0 rfl rfl dX4_buckets_1 ?_
  refine tq_callF (va_runV C.fix (As := []) (rest := []) (c_X0_countBuckets l D cy a key val ord tk cp efi ela eco ene ldp dp dbl hlv spl mrg lfi lla lco lne lev ptr llo lhi lsp hdp hld) (tq_cV (n := 0) C ml_X4_107 im_X0_countBuckets se_X0_countBuckets ini_X0 cd_X0_countBuckets ⟨by decide, by decide, by decide +kernel⟩ ⟨Nat.le_of_ble_eq_true rfl, Nat.le_of_ble_eq_true rfl⟩) ⟨tq_Pf.blind, va_recv hK hP (ci := 0) (q0 := 2) rfl rfl, tq_preF C hK hP⟩ rfl rfl hl.1 rfl (lv_room (Nat.le_of_ble_eq_true rfl)) dX4_buckets_4 ⟨Nat.le_of_ble_eq_true rfl, Nat.le_of_ble_eq_true rfl⟩) (fun r4 hr4 => ?_)
  obtain rfl := hr4
  exact tq_fret (v := (nI (so (fun q => if q % 2 ^ ldp q = q then 1 else 0) (2 ^ dp)))) C rfl (by rw [hXR.bkt]) dX4_buckets_7
