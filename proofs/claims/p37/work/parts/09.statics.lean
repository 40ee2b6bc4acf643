theorem dX4_isRow_0 : decode cX4_isRow 0 = .ok (.iload_n 0, 1) := by decide +kernel
theorem dX4_isRow_1 : decode cX4_isRow 1 = .ok (.ifCond .lt 14, 3) := by decide +kernel
theorem dX4_isRow_4 : decode cX4_isRow 4 = .ok (.iload_n 0, 1) := by decide +kernel
theorem dX4_isRow_5 : decode cX4_isRow 5 = .ok (.sipush 256, 3) := by decide +kernel
theorem dX4_isRow_8 : decode cX4_isRow 8 = .ok (.if_icmp .ge 7, 3) := by decide +kernel
theorem dX4_isRow_11 : decode cX4_isRow 11 = .ok (.iconst 1, 1) := by decide +kernel
theorem dX4_isRow_12 : decode cX4_isRow 12 = .ok (.goto 4, 3) := by decide +kernel
theorem dX4_isRow_15 : decode cX4_isRow 15 = .ok (.iconst 0, 1) := by decide +kernel
theorem dX4_isRow_16 : decode cX4_isRow 16 = .ok (.ireturn, 1) := by decide +kernel
theorem dX4_isEntry_0 : decode cX4_isEntry 0 = .ok (.iload_n 0, 1) := by decide +kernel
theorem dX4_isEntry_1 : decode cX4_isEntry 1 = .ok (.ifCond .le 13, 3) := by decide +kernel
theorem dX4_isEntry_4 : decode cX4_isEntry 4 = .ok (.iload_n 0, 1) := by decide +kernel
theorem dX4_isEntry_5 : decode cX4_isEntry 5 = .ok (.bipush 120, 2) := by decide +kernel
theorem dX4_isEntry_7 : decode cX4_isEntry 7 = .ok (.if_icmp .gt 7, 3) := by decide +kernel
theorem dX4_isEntry_10 : decode cX4_isEntry 10 = .ok (.iconst 1, 1) := by decide +kernel
theorem dX4_isEntry_11 : decode cX4_isEntry 11 = .ok (.goto 4, 3) := by decide +kernel
theorem dX4_isEntry_14 : decode cX4_isEntry 14 = .ok (.iconst 0, 1) := by decide +kernel
theorem dX4_isEntry_15 : decode cX4_isEntry 15 = .ok (.ireturn, 1) := by decide +kernel
theorem dX4_lowBits_0 : decode cX4_lowBits 0 = .ok (.iload_n 0, 1) := by decide +kernel
theorem dX4_lowBits_1 : decode cX4_lowBits 1 = .ok (.iconst 1, 1) := by decide +kernel
theorem dX4_lowBits_2 : decode cX4_lowBits 2 = .ok (.iload_n 1, 1) := by decide +kernel
theorem dX4_lowBits_3 : decode cX4_lowBits 3 = .ok (.ishl, 1) := by decide +kernel
theorem dX4_lowBits_4 : decode cX4_lowBits 4 = .ok (.iconst 1, 1) := by decide +kernel
theorem dX4_lowBits_5 : decode cX4_lowBits 5 = .ok (.isub, 1) := by decide +kernel
theorem dX4_lowBits_6 : decode cX4_lowBits 6 = .ok (.iand, 1) := by decide +kernel
theorem dX4_lowBits_7 : decode cX4_lowBits 7 = .ok (.ireturn, 1) := by decide +kernel
theorem dX4_hash_0 : decode cX4_hash 0 = .ok (.iload_n 0, 1) := by decide +kernel
theorem dX4_hash_1 : decode cX4_hash 1 = .ok (.ldc 212, 2) := by decide +kernel
theorem dX4_hash_3 : decode cX4_hash 3 = .ok (.imul, 1) := by decide +kernel
theorem dX4_hash_4 : decode cX4_hash 4 = .ok (.bipush 16, 2) := by decide +kernel
theorem dX4_hash_6 : decode cX4_hash 6 = .ok (.invokestatic 162, 3) := by decide +kernel
theorem dX4_hash_9 : decode cX4_hash 9 = .ok (.ireturn, 1) := by decide +kernel
theorem dX4_bitAt_0 : decode cX4_bitAt 0 = .ok (.iload_n 0, 1) := by decide +kernel
theorem dX4_bitAt_1 : decode cX4_bitAt 1 = .ok (.iload_n 1, 1) := by decide +kernel
theorem dX4_bitAt_2 : decode cX4_bitAt 2 = .ok (.ishr, 1) := by decide +kernel
theorem dX4_bitAt_3 : decode cX4_bitAt 3 = .ok (.iconst 1, 1) := by decide +kernel
theorem dX4_bitAt_4 : decode cX4_bitAt 4 = .ok (.iand, 1) := by decide +kernel
theorem dX4_bitAt_5 : decode cX4_bitAt 5 = .ok (.ireturn, 1) := by decide +kernel
theorem dX4_reverseBits_0 : decode cX4_reverseBits 0 = .ok (.iconst 0, 1) := by decide +kernel
theorem dX4_reverseBits_1 : decode cX4_reverseBits 1 = .ok (.istore_n 2, 1) := by decide +kernel
theorem dX4_reverseBits_2 : decode cX4_reverseBits 2 = .ok (.iconst 0, 1) := by decide +kernel
theorem dX4_reverseBits_3 : decode cX4_reverseBits 3 = .ok (.istore_n 3, 1) := by decide +kernel
theorem dX4_reverseBits_4 : decode cX4_reverseBits 4 = .ok (.iload_n 3, 1) := by decide +kernel
theorem dX4_reverseBits_5 : decode cX4_reverseBits 5 = .ok (.iload_n 1, 1) := by decide +kernel
theorem dX4_reverseBits_6 : decode cX4_reverseBits 6 = .ok (.if_icmp .ge 19, 3) := by decide +kernel
theorem dX4_reverseBits_9 : decode cX4_reverseBits 9 = .ok (.iconst 2, 1) := by decide +kernel
theorem dX4_reverseBits_10 : decode cX4_reverseBits 10 = .ok (.iload_n 2, 1) := by decide +kernel
theorem dX4_reverseBits_11 : decode cX4_reverseBits 11 = .ok (.imul, 1) := by decide +kernel
theorem dX4_reverseBits_12 : decode cX4_reverseBits 12 = .ok (.iload_n 0, 1) := by decide +kernel
theorem dX4_reverseBits_13 : decode cX4_reverseBits 13 = .ok (.iload_n 3, 1) := by decide +kernel
theorem dX4_reverseBits_14 : decode cX4_reverseBits 14 = .ok (.invokestatic 213, 3) := by decide +kernel
theorem dX4_reverseBits_17 : decode cX4_reverseBits 17 = .ok (.iadd, 1) := by decide +kernel
theorem dX4_reverseBits_18 : decode cX4_reverseBits 18 = .ok (.istore_n 2, 1) := by decide +kernel
theorem dX4_reverseBits_19 : decode cX4_reverseBits 19 = .ok (.iinc 3 1, 3) := by decide +kernel
theorem dX4_reverseBits_22 : decode cX4_reverseBits 22 = .ok (.goto (-18), 3) := by decide +kernel
theorem dX4_reverseBits_25 : decode cX4_reverseBits 25 = .ok (.iload_n 2, 1) := by decide +kernel
theorem dX4_reverseBits_26 : decode cX4_reverseBits 26 = .ok (.ireturn, 1) := by decide +kernel
theorem dX4_checkRange_0 : decode cX4_checkRange 0 = .ok (.iload_n 0, 1) := by decide +kernel
theorem dX4_checkRange_1 : decode cX4_checkRange 1 = .ok (.iload_n 1, 1) := by decide +kernel
theorem dX4_checkRange_2 : decode cX4_checkRange 2 = .ok (.if_icmp .lt 8, 3) := by decide +kernel
theorem dX4_checkRange_5 : decode cX4_checkRange 5 = .ok (.iload_n 0, 1) := by decide +kernel
theorem dX4_checkRange_6 : decode cX4_checkRange 6 = .ok (.iload_n 2, 1) := by decide +kernel
theorem dX4_checkRange_7 : decode cX4_checkRange 7 = .ok (.if_icmp .le 13, 3) := by decide +kernel
theorem dX4_checkRange_10 : decode cX4_checkRange 10 = .ok (.new 202, 3) := by decide +kernel
theorem dX4_checkRange_13 : decode cX4_checkRange 13 = .ok (.dup, 1) := by decide +kernel
theorem dX4_checkRange_14 : decode cX4_checkRange 14 = .ok (.ldc 204, 2) := by decide +kernel
theorem dX4_checkRange_16 : decode cX4_checkRange 16 = .ok (.invokespecial 206, 3) := by decide +kernel
theorem dX4_checkRange_19 : decode cX4_checkRange 19 = .ok (.athrow, 1) := by decide +kernel
theorem dX4_checkRange_20 : decode cX4_checkRange 20 = .ok (.return_, 1) := by decide +kernel
theorem dX4_checkIndex_0 : decode cX4_checkIndex 0 = .ok (.iload_n 0, 1) := by decide +kernel
theorem dX4_checkIndex_1 : decode cX4_checkIndex 1 = .ok (.ifCond .lt 8, 3) := by decide +kernel
theorem dX4_checkIndex_4 : decode cX4_checkIndex 4 = .ok (.iload_n 0, 1) := by decide +kernel
theorem dX4_checkIndex_5 : decode cX4_checkIndex 5 = .ok (.iload_n 1, 1) := by decide +kernel
theorem dX4_checkIndex_6 : decode cX4_checkIndex 6 = .ok (.if_icmp .lt 13, 3) := by decide +kernel
theorem dX4_checkIndex_9 : decode cX4_checkIndex 9 = .ok (.new 207, 3) := by decide +kernel
theorem dX4_checkIndex_12 : decode cX4_checkIndex 12 = .ok (.dup, 1) := by decide +kernel
theorem dX4_checkIndex_13 : decode cX4_checkIndex 13 = .ok (.ldc 209, 2) := by decide +kernel
theorem dX4_checkIndex_15 : decode cX4_checkIndex 15 = .ok (.invokespecial 211, 3) := by decide +kernel
theorem dX4_checkIndex_18 : decode cX4_checkIndex 18 = .ok (.athrow, 1) := by decide +kernel
theorem dX4_checkIndex_19 : decode cX4_checkIndex 19 = .ok (.return_, 1) := by decide +kernel
theorem dX4_checkKey_0 : decode cX4_checkKey 0 = .ok (.iload_n 0, 1) := by decide +kernel
theorem dX4_checkKey_1 : decode cX4_checkKey 1 = .ok (.iconst 0, 1) := by decide +kernel
theorem dX4_checkKey_2 : decode cX4_checkKey 2 = .ok (.ldc 201, 2) := by decide +kernel
theorem dX4_checkKey_4 : decode cX4_checkKey 4 = .ok (.invokestatic 37, 3) := by decide +kernel
theorem dX4_checkKey_7 : decode cX4_checkKey 7 = .ok (.return_, 1) := by decide +kernel
set_option maxHeartbeats 4000000 in
set_option maxRecDepth 100000 in
theorem c_X4_isRow (l : Launch) (D : va_G) (cy : ClassId)  (row : Nat) (hrow : row < 256) : tq_F l yX4_isRow cX4_isRow 1 (some .boolean) 0 0 D cy [] [.int (nI (row))] (fun r => r = (nI (1))) := by
  refine tq_F.mk (by decide) (Nat.le_of_ble_eq_true rfl) ?_
  intro p e s m args below meth c C hP hK ls hl
  obtain ⟨hx, hb, hml, hown, hrt, hlk, hT⟩ := id C
  have hl : lv_has ls 1 [(0, .int (nI (row)))] := hl
  refine lv_iload_n hx hb dX4_isRow_0 rfl (lv_at hl 0 rfl) ?_
  refine tq_if_lt (tgt := 15) C (by omega) dX4_isRow_1 (by decide) ?_
  refine lv_iload_n hx hb dX4_isRow_4 rfl (lv_at hl 0 rfl) ?_
  refine lv_sipush (v := nI 256) hx hb dX4_isRow_5 (by decide) ?_
  refine tq_icmp_ge (tgt := 15) C (by omega) (by omega) dX4_isRow_8 (by decide) (fun h8 => ?_) (fun h8 => ?_)
  · omega
  · refine lv_iconst (v := nI 1) hx hb dX4_isRow_11 (by decide) ?_
    refine lv_goto (tgt := 16) hx hb dX4_isRow_12 (by decide) ?_
    exact tq_fret (v := (nI (1))) C (by decide) (rfl) dX4_isRow_16
set_option maxHeartbeats 4000000 in
set_option maxRecDepth 100000 in
theorem c_X4_isEntry (l : Launch) (D : va_G) (cy : ClassId)  (en : Nat) (h1 : 1 ≤ en) (h2 : en ≤ 120) : tq_F l yX4_isEntry cX4_isEntry 1 (some .boolean) 0 0 D cy [] [.int (nI (en))] (fun r => r = (nI (1))) := by
  refine tq_F.mk (by decide) (Nat.le_of_ble_eq_true rfl) ?_
  intro p e s m args below meth c C hP hK ls hl
  obtain ⟨hx, hb, hml, hown, hrt, hlk, hT⟩ := id C
  have hl : lv_has ls 1 [(0, .int (nI (en)))] := hl
  refine lv_iload_n hx hb dX4_isEntry_0 rfl (lv_at hl 0 rfl) ?_
  refine tq_if_le (tgt := 14) C (by omega) dX4_isEntry_1 (by decide) (fun h1 => ?_) (fun h1 => ?_)
  · omega
  · refine lv_iload_n hx hb dX4_isEntry_4 rfl (lv_at hl 0 rfl) ?_
    refine lv_bipush (v := nI 120) hx hb dX4_isEntry_5 (by decide) ?_
    refine tq_icmp_gt (tgt := 14) C (by omega) (by omega) dX4_isEntry_7 (by decide) (fun h7 => ?_) (fun h7 => ?_)
    · omega
    · refine lv_iconst (v := nI 1) hx hb dX4_isEntry_10 (by decide) ?_
      refine lv_goto (tgt := 15) hx hb dX4_isEntry_11 (by decide) ?_
      exact tq_fret (v := (nI (1))) C (by decide) (rfl) dX4_isEntry_15
set_option maxHeartbeats 4000000 in
set_option maxRecDepth 100000 in
theorem c_X4_isEntry_0 (l : Launch) (D : va_G) (cy : ClassId)  (en : Nat) (h0 : en = 0) : tq_F l yX4_isEntry cX4_isEntry 1 (some .boolean) 0 0 D cy [] [.int (nI (en))] (fun r => r = (nI (0))) := by
  refine tq_F.mk (by decide) (Nat.le_of_ble_eq_true rfl) ?_
  intro p e s m args below meth c C hP hK ls hl
  obtain ⟨hx, hb, hml, hown, hrt, hlk, hT⟩ := id C
  have hl : lv_has ls 1 [(0, .int (nI (en)))] := hl
  refine lv_iload_n hx hb dX4_isEntry_0 rfl (lv_at hl 0 rfl) ?_
  refine tq_if_le (tgt := 14) C (by omega) dX4_isEntry_1 (by decide) (fun h1 => ?_) (fun h1 => ?_)
  · refine lv_iconst (v := nI 0) hx hb dX4_isEntry_14 (by decide) ?_
    exact tq_fret (v := (nI (0))) C (by decide) (rfl) dX4_isEntry_15
  · omega
set_option maxHeartbeats 4000000 in
set_option maxRecDepth 100000 in
theorem c_X4_lowBits (l : Launch) (D : va_G) (cy : ClassId)  (x : Nat) (b : Nat) (hxb : x < 2 ^ 32) (hbb : b ≤ 16) : tq_F l yX4_lowBits cX4_lowBits 2 (some .int) 0 0 D cy [] [.int (nI (x)), .int (nI (b))] (fun r => r = (nI (x % 2 ^ b))) := by
  refine tq_F.mk (by decide) (Nat.le_of_ble_eq_true rfl) ?_
  intro p e s m args below meth c C hP hK ls hl
  obtain ⟨hx, hb, hml, hown, hrt, hlk, hT⟩ := id C
  have hl : lv_has ls 2 [(0, .int (nI (x))), (1, .int (nI (b)))] := hl
  refine lv_iload_n hx hb dX4_lowBits_0 rfl (lv_at hl 0 rfl) ?_
  refine lv_iconst (v := nI 1) hx hb dX4_lowBits_1 (by decide) ?_
  refine lv_iload_n hx hb dX4_lowBits_2 rfl (lv_at hl 1 rfl) ?_
  refine tq_ishl C (by omega) (by have := p2_le hbb; omega) dX4_lowBits_3 ?_
  refine tq_top (y := nI (2 ^ b)) (by rw [Nat.one_mul]) ?_
  refine lv_iconst (v := nI 1) hx hb dX4_lowBits_4 (by decide) ?_
  refine tq_isub C (p2_pos b) dX4_lowBits_5 ?_
  refine tq_iandM (b := b) C (by omega) rfl hxb dX4_lowBits_6 ?_
  exact tq_fret (v := (nI (x % 2 ^ b))) C rfl (rfl) dX4_lowBits_7
set_option maxHeartbeats 4000000 in
set_option maxRecDepth 100000 in
theorem c_X4_hash (l : Launch) (D : va_G) (cy : ClassId)  (key : Nat) (hkey : key < 65536) : tq_F l yX4_hash cX4_hash 1 (some .int) 1 21 D cy [] [.int (nI (key))] (fun r => r = (nI (hs key))) := by
  refine tq_F.mk (by decide) (Nat.le_of_ble_eq_true rfl) ?_
  intro p e s m args below meth c C hP hK ls hl
  obtain ⟨hx, hb, hml, hown, hrt, hlk, hT⟩ := id C
  have hl : lv_has ls 1 [(0, .int (nI (key)))] := hl
  refine lv_iload_n hx hb dX4_hash_0 rfl (lv_at hl 0 rfl) ?_
  refine lv_ldc (v := 40503) hx hb hown (hT.use kc_X4_212 rfl) dX4_hash_1 ?_
  refine tq_top (y := nI 40503) (by decide) ?_
  refine tq_imul C dX4_hash_3 ?_
  refine lv_bipush (v := nI 16) hx hb dX4_hash_4 (by decide) ?_
  refine tq_callF (va_runS C.fix (As := [.int (nI (key * 40503)), .int (nI (16))]) (rest := []) (c_X4_lowBits l D cy (key * 40503) 16 (by omega) (by decide)) (tq_cS (n := 2) C ml_X4_162 sm_X4_lowBits ini_X4 cd_X4_lowBits ⟨by decide, by decide, by decide +kernel⟩ ⟨Nat.le_of_ble_eq_true rfl, Nat.le_of_ble_eq_true rfl⟩) ⟨tq_Pf.blind, tq_preF C hK (hP.sub [] rfl)⟩ rfl rfl hl.1 rfl (lv_room (Nat.le_of_ble_eq_true rfl)) dX4_hash_6 ⟨Nat.le_of_ble_eq_true rfl, Nat.le_of_ble_eq_true rfl⟩) (fun r6 hr6 => ?_)
  obtain rfl := hr6
  exact tq_fret (v := (nI ((key * 40503) % 2 ^ 16))) C rfl (rfl) dX4_hash_9
set_option maxHeartbeats 4000000 in
set_option maxRecDepth 100000 in
theorem c_X4_bitAt (l : Launch) (D : va_G) (cy : ClassId)  (x : Nat) (b : Nat) (hxb : x < 2 ^ 31) (hbb : b < 32) : tq_F l yX4_bitAt cX4_bitAt 2 (some .int) 0 0 D cy [] [.int (nI (x)), .int (nI (b))] (fun r => r = (nI (x / 2 ^ b % 2 ^ 1))) := by
  refine tq_F.mk (by decide) (Nat.le_of_ble_eq_true rfl) ?_
  intro p e s m args below meth c C hP hK ls hl
  obtain ⟨hx, hb, hml, hown, hrt, hlk, hT⟩ := id C
  have hl : lv_has ls 2 [(0, .int (nI (x))), (1, .int (nI (b)))] := hl
  refine lv_iload_n hx hb dX4_bitAt_0 rfl (lv_at hl 0 rfl) ?_
  refine lv_iload_n hx hb dX4_bitAt_1 rfl (lv_at hl 1 rfl) ?_
  refine tq_ishr C (by omega) (by omega) dX4_bitAt_2 ?_
  refine lv_iconst (v := nI 1) hx hb dX4_bitAt_3 (by decide) ?_
  refine tq_iandM (b := 1) C (by omega) (by decide) (Nat.lt_of_le_of_lt (Nat.div_le_self _ _) (by omega)) dX4_bitAt_4 ?_
  exact tq_fret (v := (nI ((x / 2 ^ b) % 2 ^ 1))) C rfl (rfl) dX4_bitAt_5
set_option maxHeartbeats 4000000 in
set_option maxRecDepth 100000 in
theorem c_X4_reverseBits (l : Launch) (D : va_G) (cy : ClassId)  (x : Nat) (b : Nat) (hxb : x < 2 ^ 31) (hbb : b ≤ 16) : tq_F l yX4_reverseBits cX4_reverseBits 4 (some .int) 1 21 D cy [] [.int (nI (x)), .int (nI (b))] (fun r => r = (nI (rv x b))) := by
  refine tq_F.mk (by decide) (Nat.le_of_ble_eq_true rfl) ?_
  intro p e s m args below meth c C hP hK ls hl
  obtain ⟨hx, hb, hml, hown, hrt, hlk, hT⟩ := id C
  have hl : lv_has ls 4 [(0, .int (nI (x))), (1, .int (nI (b)))] := hl
  refine lv_iconst (v := nI 0) hx hb dX4_reverseBits_0 (by decide) ?_
  refine lv_istore_n (lv' := [(2, .int (nI (0))), (0, .int (nI (x))), (1, .int (nI (b)))]) hx hb dX4_reverseBits_1 rfl hl (by decide) rfl (fun ls hl => ?_)
  refine lv_iconst (v := nI 0) hx hb dX4_reverseBits_2 (by decide) ?_
  refine lv_istore_n (lv' := [(3, .int (nI (0))), (2, .int (nI (0))), (0, .int (nI (x))), (1, .int (nI (b)))]) hx hb dX4_reverseBits_3 rfl hl (by decide) rfl (fun ls hl => ?_)
  suffices hlp4 : ∀ (n4 : Nat) (i : Nat), b - i < n4 → (i ≤ b) → ∀ ls : Array Slot, lv_has ls 4 [(0, .int (nI (x))), (1, .int (nI (b))), (2, .int (nI (rv x i))), (3, .int (nI (i)))] → W p l e ({ frames := 1, cells := 0, slots := 0, locals := 21 } : Room) s m args below meth c s.heap [] 0 0 (MQ below (tq_Qf (fun r => r = (nI (rv x b)))) args s 0 0 (fun _ => False)) (F0 m 4 ls []) from
    hlp4 (b + 1) 0 (by omega) (by omega) _ (lv_sub hl [2, 3, 1, 0] rfl)
  intro n4
  induction n4 with
  | zero => intro i hf; exact absurd hf (Nat.not_lt_zero _)
  | succ n4 ih4 =>
    intro i hf4 hi ls hl
    refine lv_iload_n hx hb dX4_reverseBits_4 rfl (lv_at hl 3 rfl) ?_
    refine lv_iload_n hx hb dX4_reverseBits_5 rfl (lv_at hl 1 rfl) ?_
    refine tq_icmp_ge (tgt := 25) C (by omega) (by omega) dX4_reverseBits_6 (by decide) (fun h6 => ?_) (fun h6 => ?_)
    · refine lv_iload_n hx hb dX4_reverseBits_25 rfl (lv_at hl 2 rfl) ?_
      exact tq_fret (v := (nI (rv x i))) C rfl (by rw [show i = b from by omega]) dX4_reverseBits_26
    · refine lv_iconst (v := nI 2) hx hb dX4_reverseBits_9 (by decide) ?_
      refine lv_iload_n hx hb dX4_reverseBits_10 rfl (lv_at hl 2 rfl) ?_
      refine tq_imul C dX4_reverseBits_11 ?_
      refine lv_iload_n hx hb dX4_reverseBits_12 rfl (lv_at hl 0 rfl) ?_
      refine lv_iload_n hx hb dX4_reverseBits_13 rfl (lv_at hl 3 rfl) ?_
      refine tq_callF (va_runS C.fix (As := [.int (nI (x)), .int (nI (i))]) (rest := [.int (nI (2 * (rv x i)))]) (c_X4_bitAt l D cy x i (by omega) (by omega)) (tq_cS (n := 2) C ml_X4_213 sm_X4_bitAt ini_X4 cd_X4_bitAt ⟨by decide, by decide, by decide +kernel⟩ ⟨Nat.le_of_ble_eq_true rfl, Nat.le_of_ble_eq_true rfl⟩) ⟨tq_Pf.blind, tq_preF C hK (hP.sub [] rfl)⟩ rfl rfl hl.1 rfl (lv_room (Nat.le_of_ble_eq_true rfl)) dX4_reverseBits_14 ⟨Nat.le_of_ble_eq_true rfl, Nat.le_of_ble_eq_true rfl⟩) (fun r14 hr14 => ?_)
      obtain rfl := hr14
      refine tq_iadd C dX4_reverseBits_17 ?_
      refine lv_istore_n (lv' := [(2, .int (nI ((2 * (rv x i)) + (x / 2 ^ i % 2 ^ 1)))), (0, .int (nI (x))), (1, .int (nI (b))), (3, .int (nI (i)))]) hx hb dX4_reverseBits_18 rfl hl (by decide) rfl (fun ls hl => ?_)
      refine lv_iinc (v := (nI (i + 1))) (lv' := [(3, .int (nI (i + 1))), (2, .int (nI ((2 * (rv x i)) + (x / 2 ^ i % 2 ^ 1)))), (0, .int (nI (x))), (1, .int (nI (b)))]) hx hb dX4_reverseBits_19 hl (k := 3) rfl (tq_inc1 _) (by decide) rfl (fun ls hl => ?_)
      refine lv_goto (tgt := 4) hx hb dX4_reverseBits_22 (by decide) ?_
      exact ih4 (i + 1) (by omega) (by omega) _ (lv_sub hl [2, 3, 1, 0] rfl)
