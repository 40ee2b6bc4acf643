set_option maxHeartbeats 4000000 in
set_option maxRecDepth 100000 in
theorem c_X4_checkRange (l : Launch) (D : va_G) (cy : ClassId)  (nu : Nat) (le : Nat) (mo : Nat) (h1 : le ≤ nu) (h2 : nu ≤ mo) (h3 : mo < 2 ^ 31) : tq_U l yX4_checkRange cX4_checkRange 3 0 0 D cy [] [.int (nI (nu)), .int (nI (le)), .int (nI (mo))] := by
  refine tq_U.mk (by decide) (Nat.le_of_ble_eq_true rfl) ?_
  intro p e s m args below meth c C hP hK ls hl
  obtain ⟨hx, hb, hml, hown, hrt, hlk, hT⟩ := id C
  have hl : lv_has ls 3 [(0, .int (nI (nu))), (1, .int (nI (le))), (2, .int (nI (mo)))] := hl
  refine lv_iload_n hx hb dX4_checkRange_0 rfl (lv_at hl 0 rfl) ?_
  refine lv_iload_n hx hb dX4_checkRange_1 rfl (lv_at hl 1 rfl) ?_
  refine tq_icmp_lt (tgt := 10) C (by omega) (by omega) dX4_checkRange_2 (by decide) (fun h2 => ?_) (fun h2 => ?_)
  · omega
  · refine lv_iload_n hx hb dX4_checkRange_5 rfl (lv_at hl 0 rfl) ?_
    refine lv_iload_n hx hb dX4_checkRange_6 rfl (lv_at hl 2 rfl) ?_
    refine tq_icmp_le (tgt := 20) C (by omega) (by omega) dX4_checkRange_7 (by decide) (fun h7 => ?_) (fun h7 => ?_)
    · exact tq_uret C dX4_checkRange_20
    · omega
set_option maxHeartbeats 4000000 in
set_option maxRecDepth 100000 in
theorem c_X4_checkIndex (l : Launch) (D : va_G) (cy : ClassId)  (ix : Nat) (cnt : Nat) (h1 : ix < cnt) (h2 : cnt < 2 ^ 31) : tq_U l yX4_checkIndex cX4_checkIndex 2 0 0 D cy [] [.int (nI (ix)), .int (nI (cnt))] := by
  refine tq_U.mk (by decide) (Nat.le_of_ble_eq_true rfl) ?_
  intro p e s m args below meth c C hP hK ls hl
  obtain ⟨hx, hb, hml, hown, hrt, hlk, hT⟩ := id C
  have hl : lv_has ls 2 [(0, .int (nI (ix))), (1, .int (nI (cnt)))] := hl
  refine lv_iload_n hx hb dX4_checkIndex_0 rfl (lv_at hl 0 rfl) ?_
  refine tq_if_lt (tgt := 9) C (by omega) dX4_checkIndex_1 (by decide) ?_
  refine lv_iload_n hx hb dX4_checkIndex_4 rfl (lv_at hl 0 rfl) ?_
  refine lv_iload_n hx hb dX4_checkIndex_5 rfl (lv_at hl 1 rfl) ?_
  refine tq_icmp_lt (tgt := 19) C (by omega) (by omega) dX4_checkIndex_6 (by decide) (fun h6 => ?_) (fun h6 => ?_)
  · exact tq_uret C dX4_checkIndex_19
  · omega
set_option maxHeartbeats 4000000 in
set_option maxRecDepth 100000 in
theorem c_X4_checkKey (l : Launch) (D : va_G) (cy : ClassId)  (key : Nat) (hk : key < 65536) : tq_U l yX4_checkKey cX4_checkKey 1 1 22 D cy [] [.int (nI (key))] := by
  refine tq_U.mk (by decide) (Nat.le_of_ble_eq_true rfl) ?_
  intro p e s m args below meth c C hP hK ls hl
  obtain ⟨hx, hb, hml, hown, hrt, hlk, hT⟩ := id C
  have hl : lv_has ls 1 [(0, .int (nI (key)))] := hl
  refine lv_iload_n hx hb dX4_checkKey_0 rfl (lv_at hl 0 rfl) ?_
  refine lv_iconst (v := nI 0) hx hb dX4_checkKey_1 (by decide) ?_
  refine lv_ldc (v := 65535) hx hb hown (hT.use kc_X4_201 rfl) dX4_checkKey_2 ?_
  refine tq_top (y := nI 65535) (by decide) ?_
  refine tq_callU (va_runS C.fix (As := [.int (nI (key)), .int (nI (0)), .int (nI (65535))]) (rest := []) (c_X4_checkRange l D cy key 0 65535 (by omega) (by omega) (by decide)) (tq_cS (n := 3) C ml_X4_37 sm_X4_checkRange ini_X4 cd_X4_checkRange ⟨by decide, by decide, by decide +kernel⟩ ⟨Nat.le_of_ble_eq_true rfl, Nat.le_of_ble_eq_true rfl⟩) ⟨tq_Pf.blind, tq_preF C hK (hP.sub [] rfl)⟩ rfl rfl hl.1 rfl (lv_room (Nat.le_of_ble_eq_true rfl)) dX4_checkKey_4 ⟨Nat.le_of_ble_eq_true rfl, Nat.le_of_ble_eq_true rfl⟩) ?_
  exact tq_uret C dX4_checkKey_7
set_option maxHeartbeats 4000000 in
set_option maxRecDepth 100000 in
theorem c_X4_checkSlot (l : Launch) (D : va_G) (cy : ClassId) (a : Nat → Nat) (key : Nat → Nat) (val : Nat → Nat) (ord : Nat → Nat) (tk : Nat) (cp : Nat) (efi : Nat → Nat) (ela : Nat → Nat) (eco : Nat → Nat) (ene : Nat → Nat) (ldp : Nat → Nat) (dp : Nat) (dbl : Int32) (hlv : Int32) (spl : Int32) (mrg : Int32) (lfi : Nat → Nat) (lla : Nat → Nat) (lco : Nat → Nat) (lne : Nat → Nat) (lev : Nat) (ptr : Nat) (llo : Nat) (lhi : Nat) (lsp : Int32) (sl : Nat) (hdp : dp ≤ 8) (hs9 : sl < 2 ^ dp) : tq_U l yX4_checkSlot cX4_checkSlot 2 1 21 D cy (wC cy a key val ord tk cp efi ela eco ene ldp dp dbl hlv spl mrg lfi lla lco lne lev ptr llo lhi lsp) [.ref (a 0), .int (nI (sl))] := by
  refine tq_U.mk (by decide) (Nat.le_of_ble_eq_true rfl) ?_
  intro p e s m args below meth c C hP hK ls hl
  obtain ⟨hx, hb, hml, hown, hrt, hlk, hT⟩ := id C
  have hl : lv_has ls 2 [(0, .ref (a 0)), (1, .int (nI (sl)))] := hl
  refine lv_iload_n hx hb dX4_checkSlot_0 rfl (lv_at hl 1 rfl) ?_
  refine lv_aload_n hx hb dX4_checkSlot_1 rfl (lv_at hl 0 rfl) ?_
  refine tq_get (C0 := RX4) (T := TX4) (N := 3) (ci := 4) (k := 1) C gX4 inX4 rfl (by decide) rfl fl_X4_21 hK hP 0 rfl rfl dX4_checkSlot_2 ?_
  refine tq_callF (va_runV C.fix (As := []) (rest := [.int (nI (sl))]) (c_X0_countSlots l D cy a key val ord tk cp efi ela eco ene ldp dp dbl hlv spl mrg lfi lla lco lne lev ptr llo lhi lsp hdp) (tq_cV (n := 0) C ml_X4_138 im_X0_countSlots se_X0_countSlots ini_X0 cd_X0_countSlots ⟨by decide, by decide, by decide +kernel⟩ ⟨Nat.le_of_ble_eq_true rfl, Nat.le_of_ble_eq_true rfl⟩) ⟨tq_Pf.blind, va_recv hK hP (ci := 0) (q0 := 2) rfl rfl, tq_preF C hK hP⟩ rfl rfl hl.1 rfl (lv_room (Nat.le_of_ble_eq_true rfl)) dX4_checkSlot_5 ⟨Nat.le_of_ble_eq_true rfl, Nat.le_of_ble_eq_true rfl⟩) (fun r5 hr5 => ?_)
  obtain rfl := hr5
  refine tq_callU (va_runS C.fix (As := [.int (nI (sl)), .int (nI (2 ^ dp))]) (rest := []) (c_X4_checkIndex l D cy sl (2 ^ dp) hs9 (by have := p8 hdp; omega)) (tq_cS (n := 2) C ml_X4_175 sm_X4_checkIndex ini_X4 cd_X4_checkIndex ⟨by decide, by decide, by decide +kernel⟩ ⟨Nat.le_of_ble_eq_true rfl, Nat.le_of_ble_eq_true rfl⟩) ⟨tq_Pf.blind, tq_preF C hK (hP.sub [] rfl)⟩ rfl rfl hl.1 rfl (lv_room (Nat.le_of_ble_eq_true rfl)) dX4_checkSlot_8 ⟨Nat.le_of_ble_eq_true rfl, Nat.le_of_ble_eq_true rfl⟩) ?_
  exact tq_uret C dX4_checkSlot_11
set_option maxHeartbeats 4000000 in
set_option maxRecDepth 100000 in
theorem c_X4_keyOfRow (l : Launch) (D : va_G) (cy : ClassId) (a : Nat → Nat) (key : Nat → Nat) (val : Nat → Nat) (ord : Nat → Nat) (tk : Nat) (cp : Nat) (efi : Nat → Nat) (ela : Nat → Nat) (eco : Nat → Nat) (ene : Nat → Nat) (ldp : Nat → Nat) (dp : Nat) (dbl : Int32) (hlv : Int32) (spl : Int32) (mrg : Int32) (lfi : Nat → Nat) (lla : Nat → Nat) (lco : Nat → Nat) (lne : Nat → Nat) (lev : Nat) (ptr : Nat) (llo : Nat) (lhi : Nat) (lsp : Int32) (row : Nat) (pl : Nat) (rows : Nat → List Nat) (hkey : ∀ e, 1 ≤ e → e ≤ 120 → key e < 65536) (hrow : row < 256) (hRR : RR efi ela eco ene rows) (hpl : pl < (rows row).length) : tq_F l yX4_keyOfRow cX4_keyOfRow 4 (some .int) 3 65 D cy (wC cy a key val ord tk cp efi ela eco ene ldp dp dbl hlv spl mrg lfi lla lco lne lev ptr llo lhi lsp) [.ref (a 0), .ref (a 7), .int (nI (row)), .int (nI (pl))] (fun r => r = nI (key ((rows row).getD pl 0))) := by
  refine tq_F.mk (by decide) (Nat.le_of_ble_eq_true rfl) ?_
  intro p e s m args below meth c C hP hK ls hl
  obtain ⟨hx, hb, hml, hown, hrt, hlk, hT⟩ := id C
  have hl : lv_has ls 4 [(0, .ref (a 0)), (1, .ref (a 7)), (2, .int (nI (row))), (3, .int (nI (pl)))] := hl
  have hlen := (hRR.1 row hrow).1
  have hle := hRR.len hrow
  have hg := hRR.get hrow pl
  refine lv_iload_n hx hb dX4_keyOfRow_0 rfl (lv_at hl 3 rfl) ?_
  refine lv_aload_n hx hb dX4_keyOfRow_1 rfl (lv_at hl 1 rfl) ?_
  refine lv_iload_n hx hb dX4_keyOfRow_2 rfl (lv_at hl 2 rfl) ?_
  refine tq_callF (va_runV C.fix (As := [.int (nI (row))]) (rest := [.int (nI (pl))]) (c_X2_count l D cy (a 7) (a 10) (a 11) (a 12) (a 13) (a 1) (a 4) (a 5) (a 6) efi ela eco ene key tk cp row hrow) (tq_cV (n := 1) C ml_X4_123 im_X2_count se_X2_count ini_X2 cd_X2_count ⟨by decide, by decide, by decide +kernel⟩ ⟨Nat.le_of_ble_eq_true rfl, Nat.le_of_ble_eq_true rfl⟩) ⟨tq_Pf.blind, va_recv hK hP (ci := 2) (q0 := 7) rfl rfl, tq_preF C hK (hP.sub [7, 10, 11, 12, 13, 1, 4] rfl)⟩ rfl rfl hl.1 rfl (lv_room (Nat.le_of_ble_eq_true rfl)) dX4_keyOfRow_3 ⟨Nat.le_of_ble_eq_true rfl, Nat.le_of_ble_eq_true rfl⟩) (fun r3 hr3 => ?_)
  obtain rfl := hr3
  refine tq_callU (va_runS C.fix (As := [.int (nI (pl)), .int (nI (eco row))]) (rest := []) (c_X4_checkIndex l D cy pl (eco row) (by omega) (by omega)) (tq_cS (n := 2) C ml_X4_175 sm_X4_checkIndex ini_X4 cd_X4_checkIndex ⟨by decide, by decide, by decide +kernel⟩ ⟨Nat.le_of_ble_eq_true rfl, Nat.le_of_ble_eq_true rfl⟩) ⟨tq_Pf.blind, tq_preF C hK (hP.sub [] rfl)⟩ rfl rfl hl.1 rfl (lv_room (Nat.le_of_ble_eq_true rfl)) dX4_keyOfRow_6 ⟨Nat.le_of_ble_eq_true rfl, Nat.le_of_ble_eq_true rfl⟩) ?_
  refine lv_aload_n hx hb dX4_keyOfRow_9 rfl (lv_at hl 0 rfl) ?_
  refine tq_get (C0 := RX4) (T := TX4) (N := 3) (ci := 4) (k := 0) C gX4 inX4 rfl (by decide) rfl fl_X4_10 hK hP 0 rfl rfl dX4_keyOfRow_10 ?_
  refine lv_aload_n hx hb dX4_keyOfRow_13 rfl (lv_at hl 1 rfl) ?_
  refine lv_iload_n hx hb dX4_keyOfRow_14 rfl (lv_at hl 2 rfl) ?_
  refine lv_iload_n hx hb dX4_keyOfRow_15 rfl (lv_at hl 3 rfl) ?_
  refine tq_callF (va_runV C.fix (As := [.int (nI (row)), .int (nI (pl))]) (rest := [.ref (a 1)]) (c_X2_entryAt l D cy (a 7) (a 10) (a 11) (a 12) (a 13) (a 1) (a 4) (a 5) (a 6) efi ela eco ene key tk cp row pl rows hRR hrow (by omega)) (tq_cV (n := 2) C ml_X4_195 im_X2_entryAt se_X2_entryAt ini_X2 cd_X2_entryAt ⟨by decide, by decide, by decide +kernel⟩ ⟨Nat.le_of_ble_eq_true rfl, Nat.le_of_ble_eq_true rfl⟩) ⟨tq_Pf.blind, va_recv hK hP (ci := 2) (q0 := 7) rfl rfl, tq_preF C hK (hP.sub [7, 10, 11, 12, 13, 1, 4] rfl)⟩ rfl rfl hl.1 rfl (lv_room (Nat.le_of_ble_eq_true rfl)) dX4_keyOfRow_16 ⟨Nat.le_of_ble_eq_true rfl, Nat.le_of_ble_eq_true rfl⟩) (fun r16 hr16 => ?_)
  obtain rfl := hr16
  refine tq_callF (va_runV C.fix (As := [.int (nI ((rows row).getD pl 0))]) (rest := []) (c_X3_keyOf l D cy (a 1) (a 4) (a 5) (a 6) key tk cp ((rows row).getD pl 0) ((hg.2 (by omega)).1) hg.1) (tq_cV (n := 1) C ml_X4_198 im_X3_keyOf se_X3_keyOf ini_X3 cd_X3_keyOf ⟨by decide, by decide, by decide +kernel⟩ ⟨Nat.le_of_ble_eq_true rfl, Nat.le_of_ble_eq_true rfl⟩) ⟨tq_Pf.blind, va_recv hK hP (ci := 3) (q0 := 1) rfl rfl, tq_preF C hK (hP.sub [1, 4] rfl)⟩ rfl rfl hl.1 rfl (lv_room (Nat.le_of_ble_eq_true rfl)) dX4_keyOfRow_19 ⟨Nat.le_of_ble_eq_true rfl, Nat.le_of_ble_eq_true rfl⟩) (fun r19 hr19 => ?_)
  obtain rfl := hr19
  exact tq_fret (v := (nI (key ((rows row).getD pl 0)))) C rfl (rfl) dX4_keyOfRow_22
set_option maxHeartbeats 4000000 in
set_option maxRecDepth 100000 in
theorem c_X4_bucketSize (l : Launch) (D : va_G) (cy : ClassId) (a : Nat → Nat) (key : Nat → Nat) (val : Nat → Nat) (ord : Nat → Nat) (tk : Nat) (cp : Nat) (efi : Nat → Nat) (ela : Nat → Nat) (eco : Nat → Nat) (ene : Nat → Nat) (ldp : Nat → Nat) (dp : Nat) (dbl : Int32) (hlv : Int32) (spl : Int32) (mrg : Int32) (lfi : Nat → Nat) (lla : Nat → Nat) (lco : Nat → Nat) (lne : Nat → Nat) (lev : Nat) (ptr : Nat) (llo : Nat) (lhi : Nat) (lsp : Int32) (sl : Nat) (dep : Nat → Nat) (E L : List Nat) (hCR : CR key val ord tk cp efi ela eco ene ldp dp lfi lla lco lne lev ptr llo lhi dep E L) (hs9 : sl < 2 ^ dp) : tq_F l yX4_bucketSize cX4_bucketSize 2 (some .int) 3 62 D cy (wC cy a key val ord tk cp efi ela eco ene ldp dp dbl hlv spl mrg lfi lla lco lne lev ptr llo lhi lsp) [.ref (a 0), .int (nI (sl))] (fun r => r = (nI ((clB E sl (dep sl)).length))) := by
  refine tq_F.mk (by decide) (Nat.le_of_ble_eq_true rfl) ?_
  intro p e s m args below meth c C hP hK ls hl
  obtain ⟨hx, hb, hml, hown, hrt, hlk, hT⟩ := id C
  have hl : lv_has ls 2 [(0, .ref (a 0)), (1, .int (nI (sl)))] := hl
  obtain ⟨hSO, ⟨hcp1, hcp2⟩, ⟨hlo, hh1, hh2⟩, ⟨rX, hXR⟩, ⟨rY, hYR⟩, hEL⟩ := id hCR
  have hky := hSO.keyb
  have hdp := hXR.2.1.1
  have hp8 := p8 hdp
  have hld := hXR.2.2.2.1
  have hY := hYR.2.1
  have hYm := hY.2
  have hYp := hY.1
  have htk9 := hSO.1
  have hk2 : sl < 256 := by omega
  have hlk := hXR.2.2.1 sl hs9
  have hd8 : dep sl ≤ 8 := by have := hXR.2.1.2.1 sl hk2; omega
  refine lv_aload_n hx hb dX4_bucketSize_0 rfl (lv_at hl 0 rfl) ?_
  refine lv_iload_n hx hb dX4_bucketSize_1 rfl (lv_at hl 1 rfl) ?_
  refine tq_callU (va_runV C.fix (As := [.int (nI (sl))]) (rest := []) (c_X4_checkSlot l D cy a key val ord tk cp efi ela eco ene ldp dp dbl hlv spl mrg lfi lla lco lne lev ptr llo lhi lsp sl hdp hs9) (tq_cV (n := 1) C ml_X4_110 im_X4_checkSlot se_X4_checkSlot ini_X4 cd_X4_checkSlot ⟨by decide, by decide, by decide +kernel⟩ ⟨Nat.le_of_ble_eq_true rfl, Nat.le_of_ble_eq_true rfl⟩) ⟨tq_Pf.blind, va_recv hK hP (ci := 4) (q0 := 0) rfl rfl, tq_preF C hK hP⟩ rfl rfl hl.1 rfl (lv_room (Nat.le_of_ble_eq_true rfl)) dX4_bucketSize_2 ⟨Nat.le_of_ble_eq_true rfl, Nat.le_of_ble_eq_true rfl⟩) ?_
  refine lv_aload_n hx hb dX4_bucketSize_5 rfl (lv_at hl 0 rfl) ?_
  refine tq_get (C0 := RX4) (T := TX4) (N := 3) (ci := 4) (k := 1) C gX4 inX4 rfl (by decide) rfl fl_X4_21 hK hP 0 rfl rfl dX4_bucketSize_6 ?_
  refine tq_getN (C0 := RX0) (T := TX0) (N := 8) (ci := 0) (k := 1) C gX0 inX0 rfl (by decide) rfl fn_X4_116 hK hP 2 rfl rfl dX4_bucketSize_9 ?_
  refine lv_aload_n hx hb dX4_bucketSize_12 rfl (lv_at hl 0 rfl) ?_
  refine tq_get (C0 := RX4) (T := TX4) (N := 3) (ci := 4) (k := 1) C gX4 inX4 rfl (by decide) rfl fl_X4_21 hK hP 0 rfl rfl dX4_bucketSize_13 ?_
  refine lv_iload_n hx hb dX4_bucketSize_16 rfl (lv_at hl 1 rfl) ?_
  refine tq_callF (va_runV C.fix (As := [.int (nI (sl))]) (rest := [.ref (a 7)]) (c_X0_rowAt l D cy a key val ord tk cp efi ela eco ene ldp dp dbl hlv spl mrg lfi lla lco lne lev ptr llo lhi lsp sl hld hk2) (tq_cV (n := 1) C ml_X4_120 im_X0_rowAt se_X0_rowAt ini_X0 cd_X0_rowAt ⟨by decide, by decide, by decide +kernel⟩ ⟨Nat.le_of_ble_eq_true rfl, Nat.le_of_ble_eq_true rfl⟩) ⟨tq_Pf.blind, va_recv hK hP (ci := 0) (q0 := 2) rfl rfl, tq_preF C hK hP⟩ rfl rfl hl.1 rfl (lv_room (Nat.le_of_ble_eq_true rfl)) dX4_bucketSize_17 ⟨Nat.le_of_ble_eq_true rfl, Nat.le_of_ble_eq_true rfl⟩) (fun r17 hr17 => ?_)
  obtain rfl := hr17
  refine tq_top (y := nI (sl % 2 ^ dep sl)) (by rw [hlk]) ?_
  refine tq_callF (va_runV C.fix (As := [.int (nI (sl % 2 ^ dep sl))]) (rest := []) (c_X2_count l D cy (a 7) (a 10) (a 11) (a 12) (a 13) (a 1) (a 4) (a 5) (a 6) efi ela eco ene key tk cp (sl % 2 ^ dep sl) (m2 hd8)) (tq_cV (n := 1) C ml_X4_123 im_X2_count se_X2_count ini_X2 cd_X2_count ⟨by decide, by decide, by decide +kernel⟩ ⟨Nat.le_of_ble_eq_true rfl, Nat.le_of_ble_eq_true rfl⟩) ⟨tq_Pf.blind, va_recv hK hP (ci := 2) (q0 := 7) rfl rfl, tq_preF C hK (hP.sub [7, 10, 11, 12, 13, 1, 4] rfl)⟩ rfl rfl hl.1 rfl (lv_room (Nat.le_of_ble_eq_true rfl)) dX4_bucketSize_20 ⟨Nat.le_of_ble_eq_true rfl, Nat.le_of_ble_eq_true rfl⟩) (fun r20 hr20 => ?_)
  obtain rfl := hr20
  exact tq_fret (v := (nI (eco (sl % 2 ^ dep sl)))) C rfl (by rw [hXR.cnt hk2]; rfl) dX4_bucketSize_23
set_option maxHeartbeats 4000000 in
set_option maxRecDepth 100000 in
theorem c_X4_keyAt (l : Launch) (D : va_G) (cy : ClassId) (a : Nat → Nat) (key : Nat → Nat) (val : Nat → Nat) (ord : Nat → Nat) (tk : Nat) (cp : Nat) (efi : Nat → Nat) (ela : Nat → Nat) (eco : Nat → Nat) (ene : Nat → Nat) (ldp : Nat → Nat) (dp : Nat) (dbl : Int32) (hlv : Int32) (spl : Int32) (mrg : Int32) (lfi : Nat → Nat) (lla : Nat → Nat) (lco : Nat → Nat) (lne : Nat → Nat) (lev : Nat) (ptr : Nat) (llo : Nat) (lhi : Nat) (lsp : Int32) (sl : Nat) (pl : Nat) (dep : Nat → Nat) (E L : List Nat) (hCR : CR key val ord tk cp efi ela eco ene ldp dp lfi lla lco lne lev ptr llo lhi dep E L) (hs9 : sl < 2 ^ dp) (hpl : pl < (clB E sl (dep sl)).length) : tq_F l yX4_keyAt cX4_keyAt 3 (some .int) 4 88 D cy (wC cy a key val ord tk cp efi ela eco ene ldp dp dbl hlv spl mrg lfi lla lco lne lev ptr llo lhi lsp) [.ref (a 0), .int (nI (sl)), .int (nI (pl))] (fun r => r = (nI ((clB E sl (dep sl)).getD pl 0))) := by
  refine tq_F.mk (by decide) (Nat.le_of_ble_eq_true rfl) ?_
  intro p e s m args below meth c C hP hK ls hl
  obtain ⟨hx, hb, hml, hown, hrt, hlk, hT⟩ := id C
  have hl : lv_has ls 3 [(0, .ref (a 0)), (1, .int (nI (sl))), (2, .int (nI (pl)))] := hl
  obtain ⟨hSO, ⟨hcp1, hcp2⟩, ⟨hlo, hh1, hh2⟩, ⟨rX, hXR⟩, ⟨rY, hYR⟩, hEL⟩ := id hCR
  have hky := hSO.keyb
  have hdp := hXR.2.1.1
  have hp8 := p8 hdp
  have hld := hXR.2.2.2.1
  have hY := hYR.2.1
  have hYm := hY.2
  have hYp := hY.1
  have htk9 := hSO.1
  have hk2 : sl < 256 := by omega
  have hlk := hXR.2.2.1 sl hs9
  have hd8 : dep sl ≤ 8 := by have := hXR.2.1.2.1 sl hk2; omega
  have hcl := hXR.cls hk2
  have hcn : (clB E sl (dep sl)).length = (rX (sl % 2 ^ dep sl)).length := by rw [← hcl, List.length_map]
  refine lv_aload_n hx hb dX4_keyAt_0 rfl (lv_at hl 0 rfl) ?_
  refine lv_iload_n hx hb dX4_keyAt_1 rfl (lv_at hl 1 rfl) ?_
  refine tq_callU (va_runV C.fix (As := [.int (nI (sl))]) (rest := []) (c_X4_checkSlot l D cy a key val ord tk cp efi ela eco ene ldp dp dbl hlv spl mrg lfi lla lco lne lev ptr llo lhi lsp sl hdp hs9) (tq_cV (n := 1) C ml_X4_110 im_X4_checkSlot se_X4_checkSlot ini_X4 cd_X4_checkSlot ⟨by decide, by decide, by decide +kernel⟩ ⟨Nat.le_of_ble_eq_true rfl, Nat.le_of_ble_eq_true rfl⟩) ⟨tq_Pf.blind, va_recv hK hP (ci := 4) (q0 := 0) rfl rfl, tq_preF C hK hP⟩ rfl rfl hl.1 rfl (lv_room (Nat.le_of_ble_eq_true rfl)) dX4_keyAt_2 ⟨Nat.le_of_ble_eq_true rfl, Nat.le_of_ble_eq_true rfl⟩) ?_
  refine lv_aload_n hx hb dX4_keyAt_5 rfl (lv_at hl 0 rfl) ?_
  refine lv_aload_n hx hb dX4_keyAt_6 rfl (lv_at hl 0 rfl) ?_
  refine tq_get (C0 := RX4) (T := TX4) (N := 3) (ci := 4) (k := 1) C gX4 inX4 rfl (by decide) rfl fl_X4_21 hK hP 0 rfl rfl dX4_keyAt_7 ?_
  refine tq_getN (C0 := RX0) (T := TX0) (N := 8) (ci := 0) (k := 1) C gX0 inX0 rfl (by decide) rfl fn_X4_116 hK hP 2 rfl rfl dX4_keyAt_10 ?_
  refine lv_aload_n hx hb dX4_keyAt_13 rfl (lv_at hl 0 rfl) ?_
  refine tq_get (C0 := RX4) (T := TX4) (N := 3) (ci := 4) (k := 1) C gX4 inX4 rfl (by decide) rfl fl_X4_21 hK hP 0 rfl rfl dX4_keyAt_14 ?_
  refine lv_iload_n hx hb dX4_keyAt_17 rfl (lv_at hl 1 rfl) ?_
  refine tq_callF (va_runV C.fix (As := [.int (nI (sl))]) (rest := [.ref (a 7), .ref (a 0)]) (c_X0_rowAt l D cy a key val ord tk cp efi ela eco ene ldp dp dbl hlv spl mrg lfi lla lco lne lev ptr llo lhi lsp sl hld hk2) (tq_cV (n := 1) C ml_X4_120 im_X0_rowAt se_X0_rowAt ini_X0 cd_X0_rowAt ⟨by decide, by decide, by decide +kernel⟩ ⟨Nat.le_of_ble_eq_true rfl, Nat.le_of_ble_eq_true rfl⟩) ⟨tq_Pf.blind, va_recv hK hP (ci := 0) (q0 := 2) rfl rfl, tq_preF C hK hP⟩ rfl rfl hl.1 rfl (lv_room (Nat.le_of_ble_eq_true rfl)) dX4_keyAt_18 ⟨Nat.le_of_ble_eq_true rfl, Nat.le_of_ble_eq_true rfl⟩) (fun r18 hr18 => ?_)
  obtain rfl := hr18
  refine tq_top (y := nI (sl % 2 ^ dep sl)) (by rw [hlk]) ?_
  refine lv_iload_n hx hb dX4_keyAt_21 rfl (lv_at hl 2 rfl) ?_
  refine tq_callF (va_runV C.fix (As := [.ref (a 7), .int (nI (sl % 2 ^ dep sl)), .int (nI (pl))]) (rest := []) (c_X4_keyOfRow l D cy a key val ord tk cp efi ela eco ene ldp dp dbl hlv spl mrg lfi lla lco lne lev ptr llo lhi lsp (sl % 2 ^ dep sl) pl rX hky (m2 hd8) hXR.1 (by rw [← hcn]; exact hpl)) (tq_cV (n := 3) C ml_X4_128 im_X4_keyOfRow se_X4_keyOfRow ini_X4 cd_X4_keyOfRow ⟨by decide, by decide, by decide +kernel⟩ ⟨Nat.le_of_ble_eq_true rfl, Nat.le_of_ble_eq_true rfl⟩) ⟨tq_Pf.blind, va_recv hK hP (ci := 4) (q0 := 0) rfl rfl, tq_preF C hK hP⟩ rfl rfl hl.1 rfl (lv_room (Nat.le_of_ble_eq_true rfl)) dX4_keyAt_22 ⟨Nat.le_of_ble_eq_true rfl, Nat.le_of_ble_eq_true rfl⟩) (fun r22 hr22 => ?_)
  exact tq_fret (v := (r22)) C rfl (by rw [hr22, ← hcl, getD_map (key := key) (by rw [← hcn]; exact hpl)]) dX4_keyAt_25
set_option maxHeartbeats 4000000 in
set_option maxRecDepth 100000 in
theorem c_X4_slotAt (l : Launch) (D : va_G) (cy : ClassId) (a : Nat → Nat) (key : Nat → Nat) (val : Nat → Nat) (ord : Nat → Nat) (tk : Nat) (cp : Nat) (efi : Nat → Nat) (ela : Nat → Nat) (eco : Nat → Nat) (ene : Nat → Nat) (ldp : Nat → Nat) (dp : Nat) (dbl : Int32) (hlv : Int32) (spl : Int32) (mrg : Int32) (lfi : Nat → Nat) (lla : Nat → Nat) (lco : Nat → Nat) (lne : Nat → Nat) (lev : Nat) (ptr : Nat) (llo : Nat) (lhi : Nat) (lsp : Int32) (cu : Nat) (hdp : dp ≤ 8) (hcu : cu < 256) : tq_F l yX4_slotAt cX4_slotAt 2 (some .int) 1 22 D cy (wC cy a key val ord tk cp efi ela eco ene ldp dp dbl hlv spl mrg lfi lla lco lne lev ptr llo lhi lsp) [.ref (a 0), .int (nI (cu))] (fun r => r = (nI (cu % 2 ^ dp))) := by
  refine tq_F.mk (by decide) (Nat.le_of_ble_eq_true rfl) ?_
  intro p e s m args below meth c C hP hK ls hl
  obtain ⟨hx, hb, hml, hown, hrt, hlk, hT⟩ := id C
  have hl : lv_has ls 2 [(0, .ref (a 0)), (1, .int (nI (cu)))] := hl
  refine lv_iload_n hx hb dX4_slotAt_0 rfl (lv_at hl 1 rfl) ?_
  refine lv_iconst (v := nI 0) hx hb dX4_slotAt_1 (by decide) ?_
  refine lv_sipush (v := nI 255) hx hb dX4_slotAt_2 (by decide) ?_
  refine tq_callU (va_runS C.fix (As := [.int (nI (cu)), .int (nI (0)), .int (nI (255))]) (rest := []) (c_X4_checkRange l D cy cu 0 255 (by omega) (by omega) (by decide)) (tq_cS (n := 3) C ml_X4_37 sm_X4_checkRange ini_X4 cd_X4_checkRange ⟨by decide, by decide, by decide +kernel⟩ ⟨Nat.le_of_ble_eq_true rfl, Nat.le_of_ble_eq_true rfl⟩) ⟨tq_Pf.blind, tq_preF C hK (hP.sub [] rfl)⟩ rfl rfl hl.1 rfl (lv_room (Nat.le_of_ble_eq_true rfl)) dX4_slotAt_5 ⟨Nat.le_of_ble_eq_true rfl, Nat.le_of_ble_eq_true rfl⟩) ?_
  refine lv_iload_n hx hb dX4_slotAt_8 rfl (lv_at hl 1 rfl) ?_
  refine lv_aload_n hx hb dX4_slotAt_9 rfl (lv_at hl 0 rfl) ?_
  refine tq_get (C0 := RX4) (T := TX4) (N := 3) (ci := 4) (k := 1) C gX4 inX4 rfl (by decide) rfl fl_X4_21 hK hP 0 rfl rfl dX4_slotAt_10 ?_
  refine tq_getN (C0 := RX0) (T := TX0) (N := 8) (ci := 0) (k := 3) C gX0 inX0 rfl (by decide) rfl fn_X4_104 hK hP 2 rfl rfl dX4_slotAt_13 ?_
  refine tq_callF (va_runS C.fix (As := [.int (nI (cu)), .int (nI (dp))]) (rest := []) (c_X4_lowBits l D cy cu dp (by omega) (by omega)) (tq_cS (n := 2) C ml_X4_162 sm_X4_lowBits ini_X4 cd_X4_lowBits ⟨by decide, by decide, by decide +kernel⟩ ⟨Nat.le_of_ble_eq_true rfl, Nat.le_of_ble_eq_true rfl⟩) ⟨tq_Pf.blind, tq_preF C hK (hP.sub [] rfl)⟩ rfl rfl hl.1 rfl (lv_room (Nat.le_of_ble_eq_true rfl)) dX4_slotAt_16 ⟨Nat.le_of_ble_eq_true rfl, Nat.le_of_ble_eq_true rfl⟩) (fun r16 hr16 => ?_)
  obtain rfl := hr16
  exact tq_fret (v := (nI (cu % 2 ^ dp))) C rfl (rfl) dX4_slotAt_19
set_option maxHeartbeats 4000000 in
set_option maxRecDepth 100000 in
theorem c_X4_nextCursor (l : Launch) (D : va_G) (cy : ClassId) (a : Nat → Nat) (key : Nat → Nat) (val : Nat → Nat) (ord : Nat → Nat) (tk : Nat) (cp : Nat) (efi : Nat → Nat) (ela : Nat → Nat) (eco : Nat → Nat) (ene : Nat → Nat) (ldp : Nat → Nat) (dp : Nat) (dbl : Int32) (hlv : Int32) (spl : Int32) (mrg : Int32) (lfi : Nat → Nat) (lla : Nat → Nat) (lco : Nat → Nat) (lne : Nat → Nat) (lev : Nat) (ptr : Nat) (llo : Nat) (lhi : Nat) (lsp : Int32) (cu : Nat) (dep : Nat → Nat) (E L : List Nat) (hCR : CR key val ord tk cp efi ela eco ene ldp dp lfi lla lco lne lev ptr llo lhi dep E L) (hcu : cu < 256) : tq_F l yX4_nextCursor cX4_nextCursor 4 (some .int) 2 44 D cy (wC cy a key val ord tk cp efi ela eco ene ldp dp dbl hlv spl mrg lfi lla lco lne lev ptr llo lhi lsp) [.ref (a 0), .int (nI (cu))] (fun r => r = (nI (nxc (dep (cu % 2 ^ dp)) cu))) := by
  refine tq_F.mk (by decide) (Nat.le_of_ble_eq_true rfl) ?_
  intro p e s m args below meth c C hP hK ls hl
  obtain ⟨hx, hb, hml, hown, hrt, hlk, hT⟩ := id C
  have hl : lv_has ls 4 [(0, .ref (a 0)), (1, .int (nI (cu)))] := hl
  obtain ⟨hSO, ⟨hcp1, hcp2⟩, ⟨hlo, hh1, hh2⟩, ⟨rX, hXR⟩, ⟨rY, hYR⟩, hEL⟩ := id hCR
  have hky := hSO.keyb
  have hdp := hXR.2.1.1
  have hp8 := p8 hdp
  have hld := hXR.2.2.2.1
  have hY := hYR.2.1
  have hYm := hY.2
  have hYp := hY.1
  have htk9 := hSO.1
  refine lv_iload_n hx hb dX4_nextCursor_0 rfl (lv_at hl 1 rfl) ?_
  refine lv_iconst (v := nI 0) hx hb dX4_nextCursor_1 (by decide) ?_
  refine lv_sipush (v := nI 255) hx hb dX4_nextCursor_2 (by decide) ?_
  refine tq_callU (va_runS C.fix (As := [.int (nI (cu)), .int (nI (0)), .int (nI (255))]) (rest := []) (c_X4_checkRange l D cy cu 0 255 (by omega) (by omega) (by decide)) (tq_cS (n := 3) C ml_X4_37 sm_X4_checkRange ini_X4 cd_X4_checkRange ⟨by decide, by decide, by decide +kernel⟩ ⟨Nat.le_of_ble_eq_true rfl, Nat.le_of_ble_eq_true rfl⟩) ⟨tq_Pf.blind, tq_preF C hK (hP.sub [] rfl)⟩ rfl rfl hl.1 rfl (lv_room (Nat.le_of_ble_eq_true rfl)) dX4_nextCursor_5 ⟨Nat.le_of_ble_eq_true rfl, Nat.le_of_ble_eq_true rfl⟩) ?_
  refine lv_aload_n hx hb dX4_nextCursor_8 rfl (lv_at hl 0 rfl) ?_
  refine tq_get (C0 := RX4) (T := TX4) (N := 3) (ci := 4) (k := 1) C gX4 inX4 rfl (by decide) rfl fl_X4_21 hK hP 0 rfl rfl dX4_nextCursor_9 ?_
  refine lv_iload_n hx hb dX4_nextCursor_12 rfl (lv_at hl 1 rfl) ?_
  refine lv_aload_n hx hb dX4_nextCursor_13 rfl (lv_at hl 0 rfl) ?_
  refine tq_get (C0 := RX4) (T := TX4) (N := 3) (ci := 4) (k := 1) C gX4 inX4 rfl (by decide) rfl fl_X4_21 hK hP 0 rfl rfl dX4_nextCursor_14 ?_
  refine tq_getN (C0 := RX0) (T := TX0) (N := 8) (ci := 0) (k := 3) C gX0 inX0 rfl (by decide) rfl fn_X4_104 hK hP 2 rfl rfl dX4_nextCursor_17 ?_
  refine tq_callF (va_runS C.fix (As := [.int (nI (cu)), .int (nI (dp))]) (rest := [.ref (a 2)]) (c_X4_lowBits l D cy cu dp (by omega) (by omega)) (tq_cS (n := 2) C ml_X4_162 sm_X4_lowBits ini_X4 cd_X4_lowBits ⟨by decide, by decide, by decide +kernel⟩ ⟨Nat.le_of_ble_eq_true rfl, Nat.le_of_ble_eq_true rfl⟩) ⟨tq_Pf.blind, tq_preF C hK (hP.sub [] rfl)⟩ rfl rfl hl.1 rfl (lv_room (Nat.le_of_ble_eq_true rfl)) dX4_nextCursor_20 ⟨Nat.le_of_ble_eq_true rfl, Nat.le_of_ble_eq_true rfl⟩) (fun r20 hr20 => ?_)
  obtain rfl := hr20
  refine tq_callF (va_runV C.fix (As := [.int (nI (cu % 2 ^ dp))]) (rest := []) (c_X0_depthAt l D cy a key val ord tk cp efi ela eco ene ldp dp dbl hlv spl mrg lfi lla lco lne lev ptr llo lhi lsp (cu % 2 ^ dp) (m2 hdp)) (tq_cV (n := 1) C ml_X4_113 im_X0_depthAt se_X0_depthAt ini_X0 cd_X0_depthAt ⟨by decide, by decide, by decide +kernel⟩ ⟨Nat.le_of_ble_eq_true rfl, Nat.le_of_ble_eq_true rfl⟩) ⟨tq_Pf.blind, va_recv hK hP (ci := 0) (q0 := 2) rfl rfl, tq_preF C hK hP⟩ rfl rfl hl.1 rfl (lv_room (Nat.le_of_ble_eq_true rfl)) dX4_nextCursor_23 ⟨Nat.le_of_ble_eq_true rfl, Nat.le_of_ble_eq_true rfl⟩) (fun r23 hr23 => ?_)
  obtain rfl := hr23
  refine tq_top (y := nI (dep (cu % 2 ^ dp))) (by rw [hXR.2.2.1 _ (Nat.mod_lt _ (Nat.two_pow_pos _))]) ?_
  have hd8 : dep (cu % 2 ^ dp) ≤ 8 := by have := hXR.2.1.2.1 (cu % 2 ^ dp) (m2 hdp); omega
  have hpd := p8 hd8
  have hrv := rv_lt cu (dep (cu % 2 ^ dp))
  refine lv_istore_n (lv' := [(2, .int (nI (dep (cu % 2 ^ dp)))), (0, .ref (a 0)), (1, .int (nI (cu)))]) hx hb dX4_nextCursor_26 rfl hl (by decide) rfl (fun ls hl => ?_)
  refine lv_iload_n hx hb dX4_nextCursor_27 rfl (lv_at hl 2 rfl) ?_
  refine lv_iload_n hx hb dX4_nextCursor_28 rfl (lv_at hl 0 rfl) ?_
  refine tq_callF (va_runS C.fix (As := [.int (nI (cu)), .int (nI (dep (cu % 2 ^ dp)))]) (rest := []) (c_X4_reverseBits l D cy cu (dep (cu % 2 ^ dp)) (by omega) (by omega)) (tq_cS (n := 2) C ml_X4_165 sm_X4_reverseBits ini_X4 cd_X4_reverseBits ⟨by decide, by decide, by decide +kernel⟩ ⟨Nat.le_of_ble_eq_true rfl, Nat.le_of_ble_eq_true rfl⟩) ⟨tq_Pf.blind, tq_preF C hK (hP.sub [] rfl)⟩ rfl rfl hl.1 rfl (lv_room (Nat.le_of_ble_eq_true rfl)) dX4_nextCursor_29 ⟨Nat.le_of_ble_eq_true rfl, Nat.le_of_ble_eq_true rfl⟩) (fun r29 hr29 => ?_)
  obtain rfl := hr29
  refine lv_iconst (v := nI 1) hx hb dX4_nextCursor_32 (by decide) ?_
  refine tq_iadd C dX4_nextCursor_33 ?_
  refine lv_istore_n (lv' := [(3, .int (nI ((rv cu (dep (cu % 2 ^ dp))) + 1))), (2, .int (nI (dep (cu % 2 ^ dp)))), (0, .ref (a 0)), (1, .int (nI (cu)))]) hx hb dX4_nextCursor_34 rfl hl (by decide) rfl (fun ls hl => ?_)
  refine lv_iload_n hx hb dX4_nextCursor_35 rfl (lv_at hl 0 rfl) ?_
  refine lv_iconst (v := nI 1) hx hb dX4_nextCursor_36 (by decide) ?_
  refine lv_iload_n hx hb dX4_nextCursor_37 rfl (lv_at hl 1 rfl) ?_
  refine tq_ishl C (by omega) (by omega) dX4_nextCursor_38 ?_
  refine tq_top (y := nI (2 ^ (dep (cu % 2 ^ dp)))) (by rw [Nat.one_mul]) ?_
  refine tq_icmp_ne (tgt := 46) C (by omega) (by omega) dX4_nextCursor_39 (by decide) (fun h39 => ?_) (fun h39 => ?_)
  · refine lv_iload_n hx hb dX4_nextCursor_46 rfl (lv_at hl 0 rfl) ?_
    refine lv_iload_n hx hb dX4_nextCursor_47 rfl (lv_at hl 1 rfl) ?_
    refine tq_callF (va_runS C.fix (As := [.int (nI ((rv cu (dep (cu % 2 ^ dp))) + 1)), .int (nI (dep (cu % 2 ^ dp)))]) (rest := []) (c_X4_reverseBits l D cy ((rv cu (dep (cu % 2 ^ dp))) + 1) (dep (cu % 2 ^ dp)) (by omega) (by omega)) (tq_cS (n := 2) C ml_X4_165 sm_X4_reverseBits ini_X4 cd_X4_reverseBits ⟨by decide, by decide, by decide +kernel⟩ ⟨Nat.le_of_ble_eq_true rfl, Nat.le_of_ble_eq_true rfl⟩) ⟨tq_Pf.blind, tq_preF C hK (hP.sub [] rfl)⟩ rfl rfl hl.1 rfl (lv_room (Nat.le_of_ble_eq_true rfl)) dX4_nextCursor_48 ⟨Nat.le_of_ble_eq_true rfl, Nat.le_of_ble_eq_true rfl⟩) (fun r48 hr48 => ?_)
    obtain rfl := hr48
    exact tq_fret (v := (nI (rv ((rv cu (dep (cu % 2 ^ dp))) + 1) (dep (cu % 2 ^ dp))))) C rfl (by rw [show nxc (dep (cu % 2 ^ dp)) cu = _ from if_neg h39]) dX4_nextCursor_51
  · refine lv_iconst (v := nI 0) hx hb dX4_nextCursor_42 (by decide) ?_
    refine lv_goto (tgt := 51) hx hb dX4_nextCursor_43 (by decide) ?_
    exact tq_fret (v := (nI (0))) C rfl (by rw [show nxc (dep (cu % 2 ^ dp)) cu = _ from if_pos h39]) dX4_nextCursor_51
set_option maxHeartbeats 4000000 in
set_option maxRecDepth 100000 in
theorem c_X4_put (l : Launch) (D : va_G) (cy : ClassId) (a : Nat → Nat) (key : Nat → Nat) (val : Nat → Nat) (ord : Nat → Nat) (tk : Nat) (cp : Nat) (efi : Nat → Nat) (ela : Nat → Nat) (eco : Nat → Nat) (ene : Nat → Nat) (ldp : Nat → Nat) (dp : Nat) (dbl : Int32) (hlv : Int32) (spl : Int32) (mrg : Int32) (lfi : Nat → Nat) (lla : Nat → Nat) (lco : Nat → Nat) (lne : Nat → Nat) (lev : Nat) (ptr : Nat) (llo : Nat) (lhi : Nat) (lsp : Int32) (k : Nat) (v : Nat) (dep : Nat → Nat) (E L : List Nat) (hCR : CR key val ord tk cp efi ela eco ene ldp dp lfi lla lco lne lev ptr llo lhi dep E L) (hk : k < 65536) (hv : v < 1000000) (htk : tk < 120) : tq_I (S := (Nat → Nat) × (Nat → Nat) × (Nat → Nat) × Nat × (Nat → Nat) × (Nat → Nat) × (Nat → Nat) × (Nat → Nat) × (Nat → Nat) × Nat × Int32 × Int32 × (Nat → Nat) × (Nat → Nat) × (Nat → Nat) × (Nat → Nat) × Nat × Nat × Int32) l yX4_put cX4_put 4 (some .int) 6 137 0 0 D cy (wC cy a key val ord tk cp efi ela eco ene ldp dp dbl hlv spl mrg lfi lla lco lne lev ptr llo lhi lsp) [.ref (a 0), .int (nI (k)), .int (nI (v))] (fun r u => (∃ w, (k, w) ∈ (stl key val ord tk) ∧ r = nI w ∧ ∃ dep2 E2 L2, CR u.1 u.2.1 u.2.2.1 u.2.2.2.1 cp u.2.2.2.2.1 u.2.2.2.2.2.1 u.2.2.2.2.2.2.1 u.2.2.2.2.2.2.2.1 u.2.2.2.2.2.2.2.2.1 u.2.2.2.2.2.2.2.2.2.1 u.2.2.2.2.2.2.2.2.2.2.2.2.1 u.2.2.2.2.2.2.2.2.2.2.2.2.2.1 u.2.2.2.2.2.2.2.2.2.2.2.2.2.2.1 u.2.2.2.2.2.2.2.2.2.2.2.2.2.2.2.1 u.2.2.2.2.2.2.2.2.2.2.2.2.2.2.2.2.1 u.2.2.2.2.2.2.2.2.2.2.2.2.2.2.2.2.2.1 llo lhi dep2 E2 L2 ∧ mkA u.1 u.2.1 u.2.2.1 u.2.2.2.1 cp dep2 u.2.2.2.2.2.2.2.2.2.1 E2 u.2.2.2.2.2.2.2.2.2.2.1 hlv u.2.2.2.2.2.2.2.2.2.2.2.1 mrg L2 u.2.2.2.2.2.2.2.2.2.2.2.2.2.2.2.2.1 u.2.2.2.2.2.2.2.2.2.2.2.2.2.2.2.2.2.1 llo lhi u.2.2.2.2.2.2.2.2.2.2.2.2.2.2.2.2.2.2 = arep (mkA key val ord tk cp dep dp E dbl hlv spl mrg L lev ptr llo lhi lsp) k v) ∨ ((∀ w, (k, w) ∉ (stl key val ord tk)) ∧ r = -1 ∧ ∃ dep2 E2 L2, CR u.1 u.2.1 u.2.2.1 u.2.2.2.1 cp u.2.2.2.2.1 u.2.2.2.2.2.1 u.2.2.2.2.2.2.1 u.2.2.2.2.2.2.2.1 u.2.2.2.2.2.2.2.2.1 u.2.2.2.2.2.2.2.2.2.1 u.2.2.2.2.2.2.2.2.2.2.2.2.1 u.2.2.2.2.2.2.2.2.2.2.2.2.2.1 u.2.2.2.2.2.2.2.2.2.2.2.2.2.2.1 u.2.2.2.2.2.2.2.2.2.2.2.2.2.2.2.1 u.2.2.2.2.2.2.2.2.2.2.2.2.2.2.2.2.1 u.2.2.2.2.2.2.2.2.2.2.2.2.2.2.2.2.2.1 llo lhi dep2 E2 L2 ∧ mkA u.1 u.2.1 u.2.2.1 u.2.2.2.1 cp dep2 u.2.2.2.2.2.2.2.2.2.1 E2 u.2.2.2.2.2.2.2.2.2.2.1 hlv u.2.2.2.2.2.2.2.2.2.2.2.1 mrg L2 u.2.2.2.2.2.2.2.2.2.2.2.2.2.2.2.2.1 u.2.2.2.2.2.2.2.2.2.2.2.2.2.2.2.2.2.1 llo lhi u.2.2.2.2.2.2.2.2.2.2.2.2.2.2.2.2.2.2 = aadd (mkA key val ord tk cp dep dp E dbl hlv spl mrg L lev ptr llo lhi lsp) k v)) (fun u => (wC cy a u.1 u.2.1 u.2.2.1 u.2.2.2.1 cp u.2.2.2.2.1 u.2.2.2.2.2.1 u.2.2.2.2.2.2.1 u.2.2.2.2.2.2.2.1 u.2.2.2.2.2.2.2.2.1 u.2.2.2.2.2.2.2.2.2.1 u.2.2.2.2.2.2.2.2.2.2.1 hlv u.2.2.2.2.2.2.2.2.2.2.2.1 mrg u.2.2.2.2.2.2.2.2.2.2.2.2.1 u.2.2.2.2.2.2.2.2.2.2.2.2.2.1 u.2.2.2.2.2.2.2.2.2.2.2.2.2.2.1 u.2.2.2.2.2.2.2.2.2.2.2.2.2.2.2.1 u.2.2.2.2.2.2.2.2.2.2.2.2.2.2.2.2.1 u.2.2.2.2.2.2.2.2.2.2.2.2.2.2.2.2.2.1 llo lhi u.2.2.2.2.2.2.2.2.2.2.2.2.2.2.2.2.2.2)) := by
  refine tq_I.mk (by decide) (Nat.le_of_ble_eq_true rfl) ?_
  intro p e s m args below meth c A C hP hK hD hS hA ls hl
  obtain ⟨hx, hb, hml, hown, hrt, hlk, hT⟩ := id C
  have hl : lv_has ls 4 [(0, .ref (a 0)), (1, .int (nI (k))), (2, .int (nI (v)))] := hl
  obtain ⟨hSO, ⟨hcp1, hcp2⟩, ⟨hlo, hh1, hh2⟩, ⟨rX, hXR⟩, ⟨rY, hYR⟩, hEL⟩ := id hCR
  have hky := hSO.keyb
  have hdp := hXR.2.1.1
  have hp8 := p8 hdp
  have hld := hXR.2.2.2.1
  have hY := hYR.2.1
  have hYm := hY.2
  have hYp := hY.1
  have htk9 := hSO.1
  refine lv_iload_n hx hb dX4_put_0 rfl (lv_at hl 1 rfl) ?_
  refine tq_callU (va_runS C.fix (As := [.int (nI (k))]) (rest := []) (c_X4_checkKey l D cy k hk) (tq_cS (n := 1) C ml_X4_32 sm_X4_checkKey ini_X4 cd_X4_checkKey ⟨by decide, by decide, by decide +kernel⟩ ⟨Nat.le_of_ble_eq_true rfl, Nat.le_of_ble_eq_true rfl⟩) ⟨tq_Pf.blind, tq_preF C hK (hP.sub [] rfl)⟩ rfl rfl hl.1 rfl (lv_room (Nat.le_of_ble_eq_true rfl)) dX4_put_1 ⟨Nat.le_of_ble_eq_true rfl, Nat.le_of_ble_eq_true rfl⟩) ?_
  refine lv_iload_n hx hb dX4_put_4 rfl (lv_at hl 2 rfl) ?_
  refine lv_iconst (v := nI 0) hx hb dX4_put_5 (by decide) ?_
  refine lv_ldc (v := 999999) hx hb hown (hT.use kc_X4_36 rfl) dX4_put_6 ?_
  refine tq_top (y := nI 999999) (by decide) ?_
  refine tq_callU (va_runS C.fix (As := [.int (nI (v)), .int (nI (0)), .int (nI (999999))]) (rest := []) (c_X4_checkRange l D cy v 0 999999 (by omega) (by omega) (by decide)) (tq_cS (n := 3) C ml_X4_37 sm_X4_checkRange ini_X4 cd_X4_checkRange ⟨by decide, by decide, by decide +kernel⟩ ⟨Nat.le_of_ble_eq_true rfl, Nat.le_of_ble_eq_true rfl⟩) ⟨tq_Pf.blind, tq_preF C hK (hP.sub [] rfl)⟩ rfl rfl hl.1 rfl (lv_room (Nat.le_of_ble_eq_true rfl)) dX4_put_8 ⟨Nat.le_of_ble_eq_true rfl, Nat.le_of_ble_eq_true rfl⟩) ?_
  refine lv_aload_n hx hb dX4_put_11 rfl (lv_at hl 0 rfl) ?_
  refine tq_get (C0 := RX4) (T := TX4) (N := 3) (ci := 4) (k := 1) C gX4 inX4 rfl (by decide) rfl fl_X4_21 hK hP 0 rfl rfl dX4_put_12 ?_
  refine lv_iload_n hx hb dX4_put_15 rfl (lv_at hl 1 rfl) ?_
  refine tq_callF (va_runV C.fix (As := [.int (nI (k))]) (rest := []) (c_X0_find l D cy a key val ord tk cp efi ela eco ene ldp dp dbl hlv spl mrg lfi lla lco lne lev ptr llo lhi lsp k hdp hld rX hXR.1 hky hk) (tq_cV (n := 1) C ml_X4_41 im_X0_find se_X0_find ini_X0 cd_X0_find ⟨by decide, by decide, by decide +kernel⟩ ⟨Nat.le_of_ble_eq_true rfl, Nat.le_of_ble_eq_true rfl⟩) ⟨tq_Pf.blind, va_recv hK hP (ci := 0) (q0 := 2) rfl rfl, tq_preF C hK hP⟩ rfl rfl hl.1 rfl (lv_room (Nat.le_of_ble_eq_true rfl)) dX4_put_16 ⟨Nat.le_of_ble_eq_true rfl, Nat.le_of_ble_eq_true rfl⟩) (fun r16 hr16 => ?_)
  rcases hr16 with ⟨en, hm, hke, rfl⟩ | ⟨hno, rfl⟩
  · have hmm := hXR.mem hm hke
    refine lv_istore_n (lv' := [(3, .int (nI (en))), (0, .ref (a 0)), (1, .int (nI (k))), (2, .int (nI (v)))]) hx hb dX4_put_19 rfl hl (by decide) rfl (fun ls hl => ?_)
    refine lv_iload_n hx hb dX4_put_20 rfl (lv_at hl 0 rfl) ?_
    refine tq_if_eq (tgt := 34) C (by omega) dX4_put_21 (by decide) (fun h21 => ?_) (fun h21 => ?_)
    · exact absurd h21 (by have := hmm.1; omega)
    · refine lv_aload_n hx hb dX4_put_24 rfl (lv_at hl 1 rfl) ?_
      refine tq_get (C0 := RX4) (T := TX4) (N := 3) (ci := 4) (k := 0) C gX4 inX4 rfl (by decide) rfl fl_X4_10 hK hP 0 rfl rfl dX4_put_25 ?_
      refine lv_iload_n hx hb dX4_put_28 rfl (lv_at hl 0 rfl) ?_
      refine lv_iload_n hx hb dX4_put_29 rfl (lv_at hl 3 rfl) ?_
      refine tq_callI (W3 := fun u => (wC cy a key (va_up val en v) ord tk cp efi ela eco ene ldp dp dbl hlv spl mrg lfi lla lco lne lev ptr llo lhi lsp)) (wr := []) (va_runV C.fix (As := [.int (nI (en)), .int (nI (v))]) (rest := []) ((c_X3_replaceValue l D cy a key val ord tk cp efi ela eco ene ldp dp dbl hlv spl mrg lfi lla lco lne lev ptr llo lhi lsp en v hmm.1 hmm.2.1) s.heap.size) (tq_cV (n := 2) C ml_X4_45 im_X3_replaceValue se_X3_replaceValue ini_X3 cd_X3_replaceValue ⟨by decide, by decide, by decide +kernel⟩ ⟨Nat.le_of_ble_eq_true rfl, Nat.le_of_ble_eq_true rfl⟩) ⟨tq_Pc.blind, va_recv hK hP (ci := 3) (q0 := 1) rfl rfl, tq_preC C hK hP hD⟩ rfl rfl hl.1 rfl (lv_room (Nat.le_of_ble_eq_true rfl)) dX4_put_30 ⟨Nat.le_of_ble_eq_true rfl, Nat.le_of_ble_eq_true rfl⟩) hP hD hS hA [0, 1, 2, 3, 4, 5, 6, 7, 8, 9, 10, 11, 12, 13, 14, 15, 16, 17] [] [0, 1, 2, 3, 4, 5, 6, 7, 8, 9, 10, 11, 12, 13, 14, 15, 16, 17] rfl rfl (by decide) (by decide) (by decide) (fun _ => rfl) (fun r30 u30 H locs hr30 hP hD hS => ?_)
      have hP : va_P D vwCl (wC cy a key (va_up val en v) ord tk cp efi ela eco ene ldp dp dbl hlv spl mrg lfi lla lco lne lev ptr llo lhi lsp) H := hP
      have hD : va_D A (wC cy a key (va_up val en v) ord tk cp efi ela eco ene ldp dp dbl hlv spl mrg lfi lla lco lne lev ptr llo lhi lsp) := hD
      obtain rfl := hr30.symm
      have hSO2 : SO key (va_up val en v) ord tk := ⟨hSO.1, hSO.2.1, hSO.2.2.1, hSO.2.2.2.1, fun e9 => ⟨(hSO.2.2.2.2 e9).1, (by
        by_cases z : e9 = en
        · rw [z, up_s]; omega
        · rw [up_n _ _ z]; exact (hSO.2.2.2.2 e9).2)⟩⟩
      have hA2 : mkA key (va_up val en v) ord tk cp dep dp E dbl hlv spl mrg L lev ptr llo lhi lsp = arep (mkA key val ord tk cp dep dp E dbl hlv spl mrg L lev ptr llo lhi lsp) k v := by
        unfold mkA arep; dsimp only; rw [stl_rep hSO hmm.2.2.1 hke]
      exact tq_iret (v := (nI (val en))) C rfl (key, va_up val en v, ord, tk, efi, ela, eco, ene, ldp, dp, dbl, spl, lfi, lla, lco, lne, lev, ptr, lsp) hP hD hS (Or.inl ⟨val en, (hSO.get hmm.2.2.1 hke _).mpr rfl, rfl, dep, E, L, ⟨hSO2, ⟨hcp1, hcp2⟩, ⟨hlo, hh1, hh2⟩, ⟨rX, hXR⟩, ⟨rY, hYR⟩, hEL⟩, hA2⟩) (Nat.le_of_ble_eq_true rfl) (Nat.le_of_ble_eq_true rfl) dX4_put_33
  · have hnE := hXR.nomem hno
    refine lv_istore_n (lv' := [(3, .int (nI (0))), (0, .ref (a 0)), (1, .int (nI (k))), (2, .int (nI (v)))]) hx hb dX4_put_19 rfl hl (by decide) rfl (fun ls hl => ?_)
    refine lv_iload_n hx hb dX4_put_20 rfl (lv_at hl 0 rfl) ?_
    refine lv_if_eq (tgt := 34) hx hb dX4_put_21 (by decide) (fun _ => ?_) (fun h9 => absurd (by decide : nI 0 = 0) h9)
    refine lv_aload_n hx hb dX4_put_34 rfl (lv_at hl 1 rfl) ?_
    refine tq_get (C0 := RX4) (T := TX4) (N := 3) (ci := 4) (k := 0) C gX4 inX4 rfl (by decide) rfl fl_X4_10 hK hP 0 rfl rfl dX4_put_35 ?_
    refine tq_getN (C0 := RX3) (T := TX3) (N := 5) (ci := 3) (k := 3) C gX3 inX3 rfl (by decide) rfl fn_X4_49 hK hP 1 rfl rfl dX4_put_38 ?_
    refine lv_bipush (v := nI 120) hx hb dX4_put_41 (by decide) ?_
    refine tq_icmp_lt (tgt := 56) C (by omega) (by omega) dX4_put_43 (by decide) (fun h43 => ?_) (fun h43 => ?_)
    · refine lv_aload_n hx hb dX4_put_56 rfl (lv_at hl 1 rfl) ?_
      refine lv_aload_n hx hb dX4_put_57 rfl (lv_at hl 1 rfl) ?_
      refine tq_get (C0 := RX4) (T := TX4) (N := 3) (ci := 4) (k := 0) C gX4 inX4 rfl (by decide) rfl fl_X4_10 hK hP 0 rfl rfl dX4_put_58 ?_
      refine lv_iload_n hx hb dX4_put_61 rfl (lv_at hl 2 rfl) ?_
      refine lv_iload_n hx hb dX4_put_62 rfl (lv_at hl 3 rfl) ?_
      refine tq_callI (W3 := fun u => (wC cy a (va_up key (ord tk) k) (va_up val (ord tk) v) u (tk + 1) cp efi ela eco ene ldp dp dbl hlv spl mrg lfi lla lco lne lev ptr llo lhi lsp)) (wr := []) (va_runV C.fix (As := [.int (nI (k)), .int (nI (v))]) (rest := [.ref (a 0)]) ((c_X3_take l D cy a key val ord tk cp efi ela eco ene ldp dp dbl hlv spl mrg lfi lla lco lne lev ptr llo lhi lsp k v hSO h43 hk (fun i hi q => hnE (q ▸ (hEL i hi).1))) s.heap.size) (tq_cV (n := 2) C ml_X4_60 im_X3_take se_X3_take ini_X3 cd_X3_take ⟨by decide, by decide, by decide +kernel⟩ ⟨Nat.le_of_ble_eq_true rfl, Nat.le_of_ble_eq_true rfl⟩) ⟨tq_Pc.blind, va_recv hK hP (ci := 3) (q0 := 1) rfl rfl, tq_preC C hK hP hD⟩ rfl rfl hl.1 rfl (lv_room (Nat.le_of_ble_eq_true rfl)) dX4_put_63 ⟨Nat.le_of_ble_eq_true rfl, Nat.le_of_ble_eq_true rfl⟩) hP hD hS hA [0, 1, 2, 3, 4, 5, 6, 7, 8, 9, 10, 11, 12, 13, 14, 15, 16, 17] [] [0, 1, 2, 3, 4, 5, 6, 7, 8, 9, 10, 11, 12, 13, 14, 15, 16, 17] rfl rfl (by decide) (by decide) (by decide) (fun _ => rfl) (fun r63 u63 H locs hr63 hP hD hS => ?_)
      obtain ⟨ord2, rfl⟩ : ∃ z, z = u63 := ⟨_, rfl⟩
      try dsimp only at hr63
      have hP : va_P D vwCl (wC cy a (va_up key (ord tk) k) (va_up val (ord tk) v) ord2 (tk + 1) cp efi ela eco ene ldp dp dbl hlv spl mrg lfi lla lco lne lev ptr llo lhi lsp) H := hP
      have hD : va_D A (wC cy a (va_up key (ord tk) k) (va_up val (ord tk) v) ord2 (tk + 1) cp efi ela eco ene ldp dp dbl hlv spl mrg lfi lla lco lne lev ptr llo lhi lsp) := hD
      obtain rfl := hr63.1.symm
      obtain ⟨pl, p0, p1, p2, p3, p4⟩ := hr63.2
      obtain ⟨q1, q2, q3, q4, q5, q6⟩ := hSO.take (v := v) h43 hk (by omega) (fun i hi q => hnE (q ▸ (hEL i hi).1)) p0 p1 p2 p3 p4
      have hen := hSO.2.1 tk h43
      refine tq_callV (W3 := fun u => (wC cy a (va_up key (ord tk) k) (va_up val (ord tk) v) ord2 (tk + 1) cp u.1 u.2.1 u.2.2.1 u.2.2.2.1 u.2.2.2.2.1 u.2.2.2.2.2.1 u.2.2.2.2.2.2.1 hlv u.2.2.2.2.2.2.2.1 mrg u.2.2.2.2.2.2.2.2.1 u.2.2.2.2.2.2.2.2.2.1 u.2.2.2.2.2.2.2.2.2.2.1 u.2.2.2.2.2.2.2.2.2.2.2.1 u.2.2.2.2.2.2.2.2.2.2.2.2.1 u.2.2.2.2.2.2.2.2.2.2.2.2.2.1 llo lhi u.2.2.2.2.2.2.2.2.2.2.2.2.2.2)) (wr := []) (va_runV C.fix (As := [.int (nI (ord tk))]) (rest := []) ((c_X4_insertIntoBoth l D cy a (va_up key (ord tk) k) (va_up val (ord tk) v) ord2 (tk + 1) cp efi ela eco ene ldp dp dbl hlv spl mrg lfi lla lco lne lev ptr llo lhi lsp (ord tk) rX rY dep E L (US ord tk) (US ord2 (tk + 1)) (hXR.rekey q6) (hYR.rekey q6) q1.keyb hen.1 hen.2 q5 q3 q4 hcp1 hcp2 (by omega) hlo hh1 hh2) H.size) (tq_cV (n := 1) C ml_X4_63 im_X4_insertIntoBoth se_X4_insertIntoBoth ini_X4 cd_X4_insertIntoBoth ⟨by decide, by decide, by decide +kernel⟩ ⟨Nat.le_of_ble_eq_true rfl, Nat.le_of_ble_eq_true rfl⟩) ⟨tq_Pc.blind, va_recv hK hP (ci := 4) (q0 := 0) rfl rfl, tq_preC C hK hP hD⟩ rfl rfl hl.1 rfl (lv_room (Nat.le_of_ble_eq_true rfl)) dX4_put_66 ⟨Nat.le_of_ble_eq_true rfl, Nat.le_of_ble_eq_true rfl⟩) hP hD hS hA [0, 1, 2, 3, 4, 5, 6, 7, 8, 9, 10, 11, 12, 13, 14, 15, 16, 17] [] [0, 1, 2, 3, 4, 5, 6, 7, 8, 9, 10, 11, 12, 13, 14, 15, 16, 17] rfl rfl (by decide) (by decide) (by decide) (fun _ => rfl) (fun u66 H locs hr66 hP hD hS => ?_)
      obtain ⟨efi2, ela2, eco2, ene2, ldp2, dp2, dbl2, spl2, lfi2, lla2, lco2, lne2, lev2, ptr2, lsp2⟩ := u66
      try dsimp only at hr66
      have hP : va_P D vwCl (wC cy a (va_up key (ord tk) k) (va_up val (ord tk) v) ord2 (tk + 1) cp efi2 ela2 eco2 ene2 ldp2 dp2 dbl2 hlv spl2 mrg lfi2 lla2 lco2 lne2 lev2 ptr2 llo lhi lsp2) H := hP
      have hD : va_D A (wC cy a (va_up key (ord tk) k) (va_up val (ord tk) v) ord2 (tk + 1) cp efi2 ela2 eco2 ene2 ldp2 dp2 dbl2 hlv spl2 mrg lfi2 lla2 lco2 lne2 lev2 ptr2 llo lhi lsp2) := hD
      rw [up_s] at hr66
      have hin9 : ∀ i, i < tk + 1 → va_up key (ord tk) k (ord2 i) ∈ E ++ [k] ∧ va_up key (ord tk) k (ord2 i) ∈ L ++ [k] := by
        intro i hi
        have z := (stl_mem (q := (va_up key (ord tk) k (ord2 i), va_up val (ord tk) v (ord2 i)))).mpr ⟨i, hi, rfl⟩
        rw [q2, insS_mem (fun q hq y => hCR.none (Or.inl hnE) q.2 (by rw [← y]; exact hq))] at z
        rcases z with z | z
        · rw [show va_up key (ord tk) k (ord2 i) = k from congrArg Prod.fst z]; simp
        · obtain ⟨j, hj, e⟩ := stl_mem.mp z
          rw [show va_up key (ord tk) k (ord2 i) = key (ord j) from (congrArg Prod.fst e).symm]
          exact ⟨List.mem_append_left _ (hEL j hj).1, List.mem_append_left _ (hEL j hj).2⟩
      refine lv_iconst (v := (-1)) hx hb dX4_put_69 (by decide) ?_
      exact tq_iret (v := ((-1))) C rfl (va_up key (ord tk) k, va_up val (ord tk) v, ord2, tk + 1, efi2, ela2, eco2, ene2, ldp2, dp2, dbl2, spl2, lfi2, lla2, lco2, lne2, lev2, ptr2, lsp2) hP hD hS (Or.inr ⟨hCR.none (Or.inl hnE), rfl, CR.added q1 q2 rfl ⟨hcp1, hcp2⟩ ⟨hlo, hh1, hh2⟩ hr66.1 hr66.2.1 hr66.2.2.1 hr66.2.2.2 hin9⟩) (Nat.le_of_ble_eq_true rfl) (Nat.le_of_ble_eq_true rfl) dX4_put_70
    · omega
set_option maxHeartbeats 4000000 in
set_option maxRecDepth 100000 in
theorem c_X4_remove (l : Launch) (D : va_G) (cy : ClassId) (a : Nat → Nat) (key : Nat → Nat) (val : Nat → Nat) (ord : Nat → Nat) (tk : Nat) (cp : Nat) (efi : Nat → Nat) (ela : Nat → Nat) (eco : Nat → Nat) (ene : Nat → Nat) (ldp : Nat → Nat) (dp : Nat) (dbl : Int32) (hlv : Int32) (spl : Int32) (mrg : Int32) (lfi : Nat → Nat) (lla : Nat → Nat) (lco : Nat → Nat) (lne : Nat → Nat) (lev : Nat) (ptr : Nat) (llo : Nat) (lhi : Nat) (lsp : Int32) (k : Nat) (dep : Nat → Nat) (E L : List Nat) (hCR : CR key val ord tk cp efi ela eco ene ldp dp lfi lla lco lne lev ptr llo lhi dep E L) (hk : k < 65536) : tq_I (S := (Nat → Nat) × Nat × (Nat → Nat) × (Nat → Nat) × (Nat → Nat) × (Nat → Nat) × (Nat → Nat) × Nat × Int32 × Int32 × (Nat → Nat) × (Nat → Nat) × (Nat → Nat) × (Nat → Nat) × Nat × Nat × Int32) l yX4_remove cX4_remove 3 (some .int) 6 138 0 0 D cy (wC cy a key val ord tk cp efi ela eco ene ldp dp dbl hlv spl mrg lfi lla lco lne lev ptr llo lhi lsp) [.ref (a 0), .int (nI (k))] (fun r u => ((∀ w, (k, w) ∉ (stl key val ord tk)) ∧ r = -1 ∧ ∃ dep2 E2 L2, CR key val u.1 u.2.1 cp u.2.2.1 u.2.2.2.1 u.2.2.2.2.1 u.2.2.2.2.2.1 u.2.2.2.2.2.2.1 u.2.2.2.2.2.2.2.1 u.2.2.2.2.2.2.2.2.2.2.1 u.2.2.2.2.2.2.2.2.2.2.2.1 u.2.2.2.2.2.2.2.2.2.2.2.2.1 u.2.2.2.2.2.2.2.2.2.2.2.2.2.1 u.2.2.2.2.2.2.2.2.2.2.2.2.2.2.1 u.2.2.2.2.2.2.2.2.2.2.2.2.2.2.2.1 llo lhi dep2 E2 L2 ∧ mkA key val u.1 u.2.1 cp dep2 u.2.2.2.2.2.2.2.1 E2 dbl u.2.2.2.2.2.2.2.2.1 spl u.2.2.2.2.2.2.2.2.2.1 L2 u.2.2.2.2.2.2.2.2.2.2.2.2.2.2.1 u.2.2.2.2.2.2.2.2.2.2.2.2.2.2.2.1 llo lhi u.2.2.2.2.2.2.2.2.2.2.2.2.2.2.2.2 = (mkA key val ord tk cp dep dp E dbl hlv spl mrg L lev ptr llo lhi lsp)) ∨ (∃ w, (k, w) ∈ (stl key val ord tk) ∧ r = nI w ∧ ∃ dep2 E2 L2, CR key val u.1 u.2.1 cp u.2.2.1 u.2.2.2.1 u.2.2.2.2.1 u.2.2.2.2.2.1 u.2.2.2.2.2.2.1 u.2.2.2.2.2.2.2.1 u.2.2.2.2.2.2.2.2.2.2.1 u.2.2.2.2.2.2.2.2.2.2.2.1 u.2.2.2.2.2.2.2.2.2.2.2.2.1 u.2.2.2.2.2.2.2.2.2.2.2.2.2.1 u.2.2.2.2.2.2.2.2.2.2.2.2.2.2.1 u.2.2.2.2.2.2.2.2.2.2.2.2.2.2.2.1 llo lhi dep2 E2 L2 ∧ mkA key val u.1 u.2.1 cp dep2 u.2.2.2.2.2.2.2.1 E2 dbl u.2.2.2.2.2.2.2.2.1 spl u.2.2.2.2.2.2.2.2.2.1 L2 u.2.2.2.2.2.2.2.2.2.2.2.2.2.2.1 u.2.2.2.2.2.2.2.2.2.2.2.2.2.2.2.1 llo lhi u.2.2.2.2.2.2.2.2.2.2.2.2.2.2.2.2 = adel (mkA key val ord tk cp dep dp E dbl hlv spl mrg L lev ptr llo lhi lsp) k)) (fun u => (wC cy a key val u.1 u.2.1 cp u.2.2.1 u.2.2.2.1 u.2.2.2.2.1 u.2.2.2.2.2.1 u.2.2.2.2.2.2.1 u.2.2.2.2.2.2.2.1 dbl u.2.2.2.2.2.2.2.2.1 spl u.2.2.2.2.2.2.2.2.2.1 u.2.2.2.2.2.2.2.2.2.2.1 u.2.2.2.2.2.2.2.2.2.2.2.1 u.2.2.2.2.2.2.2.2.2.2.2.2.1 u.2.2.2.2.2.2.2.2.2.2.2.2.2.1 u.2.2.2.2.2.2.2.2.2.2.2.2.2.2.1 u.2.2.2.2.2.2.2.2.2.2.2.2.2.2.2.1 llo lhi u.2.2.2.2.2.2.2.2.2.2.2.2.2.2.2.2)) := by
  refine tq_I.mk (by decide) (Nat.le_of_ble_eq_true rfl) ?_
  intro p e s m args below meth c A C hP hK hD hS hA ls hl
  obtain ⟨hx, hb, hml, hown, hrt, hlk, hT⟩ := id C
  have hl : lv_has ls 3 [(0, .ref (a 0)), (1, .int (nI (k)))] := hl
  obtain ⟨hSO, ⟨hcp1, hcp2⟩, ⟨hlo, hh1, hh2⟩, ⟨rX, hXR⟩, ⟨rY, hYR⟩, hEL⟩ := id hCR
  have hky := hSO.keyb
  have hdp := hXR.2.1.1
  have hp8 := p8 hdp
  have hld := hXR.2.2.2.1
  have hY := hYR.2.1
  have hYm := hY.2
  have hYp := hY.1
  have htk9 := hSO.1
  refine lv_iload_n hx hb dX4_remove_0 rfl (lv_at hl 1 rfl) ?_
  refine tq_callU (va_runS C.fix (As := [.int (nI (k))]) (rest := []) (c_X4_checkKey l D cy k hk) (tq_cS (n := 1) C ml_X4_32 sm_X4_checkKey ini_X4 cd_X4_checkKey ⟨by decide, by decide, by decide +kernel⟩ ⟨Nat.le_of_ble_eq_true rfl, Nat.le_of_ble_eq_true rfl⟩) ⟨tq_Pf.blind, tq_preF C hK (hP.sub [] rfl)⟩ rfl rfl hl.1 rfl (lv_room (Nat.le_of_ble_eq_true rfl)) dX4_remove_1 ⟨Nat.le_of_ble_eq_true rfl, Nat.le_of_ble_eq_true rfl⟩) ?_
  refine lv_aload_n hx hb dX4_remove_4 rfl (lv_at hl 0 rfl) ?_
  refine tq_get (C0 := RX4) (T := TX4) (N := 3) (ci := 4) (k := 1) C gX4 inX4 rfl (by decide) rfl fl_X4_21 hK hP 0 rfl rfl dX4_remove_5 ?_
  refine lv_iload_n hx hb dX4_remove_8 rfl (lv_at hl 1 rfl) ?_
  refine tq_callF (va_runV C.fix (As := [.int (nI (k))]) (rest := []) (c_X0_find l D cy a key val ord tk cp efi ela eco ene ldp dp dbl hlv spl mrg lfi lla lco lne lev ptr llo lhi lsp k hdp hld rX hXR.1 hky hk) (tq_cV (n := 1) C ml_X4_41 im_X0_find se_X0_find ini_X0 cd_X0_find ⟨by decide, by decide, by decide +kernel⟩ ⟨Nat.le_of_ble_eq_true rfl, Nat.le_of_ble_eq_true rfl⟩) ⟨tq_Pf.blind, va_recv hK hP (ci := 0) (q0 := 2) rfl rfl, tq_preF C hK hP⟩ rfl rfl hl.1 rfl (lv_room (Nat.le_of_ble_eq_true rfl)) dX4_remove_9 ⟨Nat.le_of_ble_eq_true rfl, Nat.le_of_ble_eq_true rfl⟩) (fun r9 hr9 => ?_)
  rcases hr9 with ⟨en, hm, hke, rfl⟩ | ⟨hno, rfl⟩
  · have hmm := hXR.mem hm hke
    obtain ⟨i0, hi0, hen0⟩ := id hmm.2.2.1
    have hke2 := hke.symm
    refine lv_istore_n (lv' := [(2, .int (nI (en))), (0, .ref (a 0)), (1, .int (nI (k)))]) hx hb dX4_remove_12 rfl hl (by decide) rfl (fun ls hl => ?_)
    refine lv_iload_n hx hb dX4_remove_13 rfl (lv_at hl 0 rfl) ?_
    refine tq_if_ne (tgt := 19) C (by omega) dX4_remove_14 (by decide) (fun h14 => ?_) (fun h14 => ?_)
    · refine lv_aload_n hx hb dX4_remove_19 rfl (lv_at hl 1 rfl) ?_
      refine tq_get (C0 := RX4) (T := TX4) (N := 3) (ci := 4) (k := 0) C gX4 inX4 rfl (by decide) rfl fl_X4_10 hK hP 0 rfl rfl dX4_remove_20 ?_
      refine lv_iload_n hx hb dX4_remove_23 rfl (lv_at hl 0 rfl) ?_
      refine tq_callV (W3 := fun u => (wC cy a key val u (tk - 1) cp efi ela eco ene ldp dp dbl hlv spl mrg lfi lla lco lne lev ptr llo lhi lsp)) (wr := []) (va_runV C.fix (As := [.int (nI (en))]) (rest := []) ((c_X3_release l D cy a key val ord tk cp efi ela eco ene ldp dp dbl hlv spl mrg lfi lla lco lne lev ptr llo lhi lsp en i0 hSO hi0 hen0) s.heap.size) (tq_cV (n := 1) C ml_X4_66 im_X3_release se_X3_release ini_X3 cd_X3_release ⟨by decide, by decide, by decide +kernel⟩ ⟨Nat.le_of_ble_eq_true rfl, Nat.le_of_ble_eq_true rfl⟩) ⟨tq_Pc.blind, va_recv hK hP (ci := 3) (q0 := 1) rfl rfl, tq_preC C hK hP hD⟩ rfl rfl hl.1 rfl (lv_room (Nat.le_of_ble_eq_true rfl)) dX4_remove_24 ⟨Nat.le_of_ble_eq_true rfl, Nat.le_of_ble_eq_true rfl⟩) hP hD hS hA [0, 1, 2, 3, 4, 5, 6, 7, 8, 9, 10, 11, 12, 13, 14, 15, 16, 17] [] [0, 1, 2, 3, 4, 5, 6, 7, 8, 9, 10, 11, 12, 13, 14, 15, 16, 17] rfl rfl (by decide) (by decide) (by decide) (fun _ => rfl) (fun u24 H locs hr24 hP hD hS => ?_)
      obtain ⟨ord2, rfl⟩ : ∃ z, z = u24 := ⟨_, rfl⟩
      try dsimp only at hr24
      have hP : va_P D vwCl (wC cy a key val ord2 (tk - 1) cp efi ela eco ene ldp dp dbl hlv spl mrg lfi lla lco lne lev ptr llo lhi lsp) H := hP
      have hD : va_D A (wC cy a key val ord2 (tk - 1) cp efi ela eco ene ldp dp dbl hlv spl mrg lfi lla lco lne lev ptr llo lhi lsp) := hD
      obtain ⟨q1, q2, q3, q4⟩ := hSO.release hi0 hen0 hr24.1 hr24.2.1 hr24.2.2.1 hr24.2.2.2
      refine lv_aload_n hx hb dX4_remove_27 rfl (lv_at hl 1 rfl) ?_
      refine tq_get (C0 := RX4) (T := TX4) (N := 3) (ci := 4) (k := 1) C gX4 inX4 rfl (by decide) rfl fl_X4_21 hK hP 0 rfl rfl dX4_remove_28 ?_
      refine lv_iload_n hx hb dX4_remove_31 rfl (lv_at hl 0 rfl) ?_
      refine tq_callV (W3 := fun u => (wC cy a key val ord2 (tk - 1) cp u.1 u.2.1 u.2.2.1 u.2.2.2.1 u.2.2.2.2.1 u.2.2.2.2.2.1 dbl u.2.2.2.2.2.2.1 spl u.2.2.2.2.2.2.2 lfi lla lco lne lev ptr llo lhi lsp)) (wr := []) (va_runV C.fix (As := [.int (nI (en))]) (rest := []) ((c_X0_delete l D cy a key val ord2 (tk - 1) cp efi ela eco ene ldp dp dbl hlv spl mrg lfi lla lco lne lev ptr llo lhi lsp en rX dep E (US ord tk) hXR hky (US ord2 (tk - 1)) hmm.1 hmm.2.1 hmm.2.2.1 hSO.injU q3 hmm.2.2.2.1 hcp2) H.size) (tq_cV (n := 1) C ml_X4_69 im_X0_delete se_X0_delete ini_X0 cd_X0_delete ⟨by decide, by decide, by decide +kernel⟩ ⟨Nat.le_of_ble_eq_true rfl, Nat.le_of_ble_eq_true rfl⟩) ⟨tq_Pc.blind, va_recv hK hP (ci := 0) (q0 := 2) rfl rfl, tq_preC C hK hP hD⟩ rfl rfl hl.1 rfl (lv_room (Nat.le_of_ble_eq_true rfl)) dX4_remove_32 ⟨Nat.le_of_ble_eq_true rfl, Nat.le_of_ble_eq_true rfl⟩) hP hD hS hA [0, 1, 2, 3, 4, 5, 6, 7, 8, 9, 10, 11, 12, 13, 14, 15, 16, 17] [] [0, 1, 2, 3, 4, 5, 6, 7, 8, 9, 10, 11, 12, 13, 14, 15, 16, 17] rfl rfl (by decide) (by decide) (by decide) (fun _ => rfl) (fun u32 H locs hr32 hP hD hS => ?_)
      obtain ⟨efi2, ela2, eco2, ene2, ldp2, dp2, hlv2, mrg2⟩ := u32
      try dsimp only at hr32
      have hP : va_P D vwCl (wC cy a key val ord2 (tk - 1) cp efi2 ela2 eco2 ene2 ldp2 dp2 dbl hlv2 spl mrg2 lfi lla lco lne lev ptr llo lhi lsp) H := hP
      have hD : va_D A (wC cy a key val ord2 (tk - 1) cp efi2 ela2 eco2 ene2 ldp2 dp2 dbl hlv2 spl mrg2 lfi lla lco lne lev ptr llo lhi lsp) := hD
      refine lv_aload_n hx hb dX4_remove_35 rfl (lv_at hl 1 rfl) ?_
      refine tq_get (C0 := RX4) (T := TX4) (N := 3) (ci := 4) (k := 2) C gX4 inX4 rfl (by decide) rfl fl_X4_28 hK hP 0 rfl rfl dX4_remove_36 ?_
      refine lv_iload_n hx hb dX4_remove_39 rfl (lv_at hl 0 rfl) ?_
      refine tq_callV (W3 := fun u => (wC cy a key val ord2 (tk - 1) cp efi2 ela2 eco2 ene2 ldp2 dp2 dbl hlv2 spl mrg2 u.1 u.2.1 u.2.2.1 u.2.2.2.1 u.2.2.2.2.1 u.2.2.2.2.2.1 llo lhi u.2.2.2.2.2.2)) (wr := []) (va_runV C.fix (As := [.int (nI (en))]) (rest := []) ((c_X1_delete l D cy a key val ord2 (tk - 1) cp efi2 ela2 eco2 ene2 ldp2 dp2 dbl hlv2 spl mrg2 lfi lla lco lne lev ptr llo lhi lsp en rY L (US ord tk) hYR hky (US ord2 (tk - 1)) hmm.1 hmm.2.1 hcp1 hcp2 q1.1 hlo hh1 hh2 hmm.2.2.1 hSO.injU q3 (hYR.inrow hSO.injU hmm.2.2.1 (by rw [← hen0]; exact (hEL i0 hi0).2))) H.size) (tq_cV (n := 1) C ml_X4_72 im_X1_delete se_X1_delete ini_X1 cd_X1_delete ⟨by decide, by decide, by decide +kernel⟩ ⟨Nat.le_of_ble_eq_true rfl, Nat.le_of_ble_eq_true rfl⟩) ⟨tq_Pc.blind, va_recv hK hP (ci := 1) (q0 := 3) rfl rfl, tq_preC C hK hP hD⟩ rfl rfl hl.1 rfl (lv_room (Nat.le_of_ble_eq_true rfl)) dX4_remove_40 ⟨Nat.le_of_ble_eq_true rfl, Nat.le_of_ble_eq_true rfl⟩) hP hD hS hA [0, 1, 2, 3, 4, 5, 6, 7, 8, 9, 10, 11, 12, 13, 14, 15, 16, 17] [] [0, 1, 2, 3, 4, 5, 6, 7, 8, 9, 10, 11, 12, 13, 14, 15, 16, 17] rfl rfl (by decide) (by decide) (by decide) (fun _ => rfl) (fun u40 H locs hr40 hP hD hS => ?_)
      obtain ⟨lfi2, lla2, lco2, lne2, lev2, ptr2, lsp2⟩ := u40
      try dsimp only at hr40
      have hP : va_P D vwCl (wC cy a key val ord2 (tk - 1) cp efi2 ela2 eco2 ene2 ldp2 dp2 dbl hlv2 spl mrg2 lfi2 lla2 lco2 lne2 lev2 ptr2 llo lhi lsp2) H := hP
      have hD : va_D A (wC cy a key val ord2 (tk - 1) cp efi2 ela2 eco2 ene2 ldp2 dp2 dbl hlv2 spl mrg2 lfi2 lla2 lco2 lne2 lev2 ptr2 llo lhi lsp2) := hD
      rw [hke] at hr32 hr40 q2 q4
      refine lv_aload_n hx hb dX4_remove_43 rfl (lv_at hl 1 rfl) ?_
      refine tq_get (C0 := RX4) (T := TX4) (N := 3) (ci := 4) (k := 0) C gX4 inX4 rfl (by decide) rfl fl_X4_10 hK hP 0 rfl rfl dX4_remove_44 ?_
      refine lv_iload_n hx hb dX4_remove_47 rfl (lv_at hl 0 rfl) ?_
      refine tq_callF (va_runV C.fix (As := [.int (nI (en))]) (rest := []) (c_X3_valueOf l D cy a key val ord2 (tk - 1) cp efi2 ela2 eco2 ene2 ldp2 dp2 dbl hlv2 spl mrg2 lfi2 lla2 lco2 lne2 lev2 ptr2 llo lhi lsp2 en hmm.1 hmm.2.1) (tq_cV (n := 1) C ml_X4_73 im_X3_valueOf se_X3_valueOf ini_X3 cd_X3_valueOf ⟨by decide, by decide, by decide +kernel⟩ ⟨Nat.le_of_ble_eq_true rfl, Nat.le_of_ble_eq_true rfl⟩) ⟨tq_Pf.blind, va_recv hK hP (ci := 3) (q0 := 1) rfl rfl, tq_preF C hK hP⟩ rfl rfl hl.1 rfl (lv_room (Nat.le_of_ble_eq_true rfl)) dX4_remove_48 ⟨Nat.le_of_ble_eq_true rfl, Nat.le_of_ble_eq_true rfl⟩) (fun r48 hr48 => ?_)
      obtain rfl := hr48
      exact tq_iret (v := (nI (val en))) C rfl (ord2, tk - 1, efi2, ela2, eco2, ene2, ldp2, dp2, hlv2, mrg2, lfi2, lla2, lco2, lne2, lev2, ptr2, lsp2) hP hD hS (Or.inr ⟨val en, (hSO.get hmm.2.2.1 hke _).mpr rfl, rfl, CR.gone q1 q2 ⟨hcp1, hcp2⟩ ⟨hlo, hh1, hh2⟩ hr32.1 hr32.2.1 hr32.2.2.1 hr32.2.2.2 hr40.1 hr40.2 q4 hEL⟩) (Nat.le_of_ble_eq_true rfl) (Nat.le_of_ble_eq_true rfl) dX4_remove_51
    · exact absurd h14 (by have := hmm.1; omega)
  · have hnE := hXR.nomem hno
    refine lv_istore_n (lv' := [(2, .int (nI (0))), (0, .ref (a 0)), (1, .int (nI (k)))]) hx hb dX4_remove_12 rfl hl (by decide) rfl (fun ls hl => ?_)
    refine lv_iload_n hx hb dX4_remove_13 rfl (lv_at hl 0 rfl) ?_
    refine lv_if_ne (tgt := 19) hx hb dX4_remove_14 (by decide) (fun h9 => absurd (by decide : nI 0 = 0) h9) (fun _ => ?_)
    refine lv_iconst (v := (-1)) hx hb dX4_remove_17 (by decide) ?_
    exact tq_iret (v := ((-1))) C rfl (ord, tk, efi, ela, eco, ene, ldp, dp, hlv, mrg, lfi, lla, lco, lne, lev, ptr, lsp) hP hD hS (Or.inl ⟨hCR.none (Or.inl hnE), rfl, dep, E, L, hCR, rfl⟩) (Nat.le_of_ble_eq_true rfl) (Nat.le_of_ble_eq_true rfl) dX4_remove_18
set_option maxHeartbeats 4000000 in
set_option maxRecDepth 100000 in
theorem c_X4_rebuild (l : Launch) (D : va_G) (cy : ClassId) (a : Nat → Nat) (key : Nat → Nat) (val : Nat → Nat) (ord : Nat → Nat) (tk : Nat) (cp : Nat) (efi : Nat → Nat) (ela : Nat → Nat) (eco : Nat → Nat) (ene : Nat → Nat) (ldp : Nat → Nat) (dp : Nat) (dbl : Int32) (hlv : Int32) (spl : Int32) (mrg : Int32) (lfi : Nat → Nat) (lla : Nat → Nat) (lco : Nat → Nat) (lne : Nat → Nat) (lev : Nat) (ptr : Nat) (llo : Nat) (lhi : Nat) (lsp : Int32) (cq : Nat) (dep : Nat → Nat) (E L : List Nat) (hCR : CR key val ord tk cp efi ela eco ene ldp dp lfi lla lco lne lev ptr llo lhi dep E L) (hc1 : 1 ≤ cq) (hc2 : cq ≤ 5) : tq_I (S := Nat × Nat × (Nat → Nat) × (Nat → Nat) × (Nat → Nat) × (Nat → Nat) × (Nat → Nat) × Nat × Int32 × Int32 × (Nat → Nat) × (Nat → Nat) × (Nat → Nat) × (Nat → Nat) × Nat × Nat × Int32) l yX4_rebuild cX4_rebuild 5 (some .int) 6 137 0 0 D cy (wC cy a key val ord tk cp efi ela eco ene ldp dp dbl hlv spl mrg lfi lla lco lne lev ptr llo lhi lsp) [.ref (a 0), .int (nI (cq))] (fun r u => r = nI cp ∧ u.1 = tk ∧ u.2.1 = cq ∧ ∃ dep2 E2 L2, CR key val ord u.1 u.2.1 u.2.2.1 u.2.2.2.1 u.2.2.2.2.1 u.2.2.2.2.2.1 u.2.2.2.2.2.2.1 u.2.2.2.2.2.2.2.1 u.2.2.2.2.2.2.2.2.2.2.1 u.2.2.2.2.2.2.2.2.2.2.2.1 u.2.2.2.2.2.2.2.2.2.2.2.2.1 u.2.2.2.2.2.2.2.2.2.2.2.2.2.1 u.2.2.2.2.2.2.2.2.2.2.2.2.2.2.1 u.2.2.2.2.2.2.2.2.2.2.2.2.2.2.2.1 llo lhi dep2 E2 L2) (fun u => (wC cy a key val ord u.1 u.2.1 u.2.2.1 u.2.2.2.1 u.2.2.2.2.1 u.2.2.2.2.2.1 u.2.2.2.2.2.2.1 u.2.2.2.2.2.2.2.1 u.2.2.2.2.2.2.2.2.1 hlv u.2.2.2.2.2.2.2.2.2.1 mrg u.2.2.2.2.2.2.2.2.2.2.1 u.2.2.2.2.2.2.2.2.2.2.2.1 u.2.2.2.2.2.2.2.2.2.2.2.2.1 u.2.2.2.2.2.2.2.2.2.2.2.2.2.1 u.2.2.2.2.2.2.2.2.2.2.2.2.2.2.1 u.2.2.2.2.2.2.2.2.2.2.2.2.2.2.2.1 llo lhi u.2.2.2.2.2.2.2.2.2.2.2.2.2.2.2.2)) := by
  refine tq_I.mk (by decide) (Nat.le_of_ble_eq_true rfl) ?_
  intro p e s m args below meth c A C hP hK hD hS hA ls hl
  obtain ⟨hx, hb, hml, hown, hrt, hlk, hT⟩ := id C
  have hl : lv_has ls 5 [(0, .ref (a 0)), (1, .int (nI (cq)))] := hl
  obtain ⟨hSO, ⟨hcp1, hcp2⟩, ⟨hlo, hh1, hh2⟩, ⟨rX, hXR⟩, ⟨rY, hYR⟩, hEL⟩ := id hCR
  have hky := hSO.keyb
  have hdp := hXR.2.1.1
  have hp8 := p8 hdp
  have hld := hXR.2.2.2.1
  have hY := hYR.2.1
  have hYm := hY.2
  have hYp := hY.1
  have htk9 := hSO.1
  refine lv_iload_n hx hb dX4_rebuild_0 rfl (lv_at hl 1 rfl) ?_
  refine lv_iconst (v := nI 1) hx hb dX4_rebuild_1 (by decide) ?_
  refine lv_iconst (v := nI 5) hx hb dX4_rebuild_2 (by decide) ?_
  refine tq_callU (va_runS C.fix (As := [.int (nI (cq)), .int (nI (1)), .int (nI (5))]) (rest := []) (c_X4_checkRange l D cy cq 1 5 hc1 hc2 (by decide)) (tq_cS (n := 3) C ml_X4_37 sm_X4_checkRange ini_X4 cd_X4_checkRange ⟨by decide, by decide, by decide +kernel⟩ ⟨Nat.le_of_ble_eq_true rfl, Nat.le_of_ble_eq_true rfl⟩) ⟨tq_Pf.blind, tq_preF C hK (hP.sub [] rfl)⟩ rfl rfl hl.1 rfl (lv_room (Nat.le_of_ble_eq_true rfl)) dX4_rebuild_3 ⟨Nat.le_of_ble_eq_true rfl, Nat.le_of_ble_eq_true rfl⟩) ?_
  refine lv_aload_n hx hb dX4_rebuild_6 rfl (lv_at hl 0 rfl) ?_
  refine tq_get (C0 := RX4) (T := TX4) (N := 3) (ci := 4) (k := 0) C gX4 inX4 rfl (by decide) rfl fl_X4_10 hK hP 0 rfl rfl dX4_rebuild_7 ?_
  refine tq_getN (C0 := RX3) (T := TX3) (N := 5) (ci := 3) (k := 4) C gX3 inX3 rfl (by decide) rfl fn_X4_83 hK hP 1 rfl rfl dX4_rebuild_10 ?_
  refine lv_istore_n (lv' := [(2, .int (nI (cp))), (0, .ref (a 0)), (1, .int (nI (cq)))]) hx hb dX4_rebuild_13 rfl hl (by decide) rfl (fun ls hl => ?_)
  refine lv_aload_n hx hb dX4_rebuild_14 rfl (lv_at hl 1 rfl) ?_
  refine tq_get (C0 := RX4) (T := TX4) (N := 3) (ci := 4) (k := 0) C gX4 inX4 rfl (by decide) rfl fl_X4_10 hK hP 0 rfl rfl dX4_rebuild_15 ?_
  refine tq_getN (C0 := RX3) (T := TX3) (N := 5) (ci := 3) (k := 3) C gX3 inX3 rfl (by decide) rfl fn_X4_49 hK hP 1 rfl rfl dX4_rebuild_18 ?_
  refine lv_istore_n (lv' := [(3, .int (nI (tk))), (2, .int (nI (cp))), (0, .ref (a 0)), (1, .int (nI (cq)))]) hx hb dX4_rebuild_21 rfl hl (by decide) rfl (fun ls hl => ?_)
  refine lv_aload_n hx hb dX4_rebuild_22 rfl (lv_at hl 2 rfl) ?_
  refine tq_callV (W3 := fun u => (wC cy a key val ord 0 cp u.1 u.2.1 u.2.2.1 ene (va_up ldp 0 0) 0 dbl hlv spl mrg u.2.2.2.1 u.2.2.2.2.1 u.2.2.2.2.2 lne 0 0 llo lhi lsp)) (wr := []) (va_runV C.fix (As := []) (rest := []) ((c_X4_emptyAll l D cy a key val ord tk cp efi ela eco ene ldp dp dbl hlv spl mrg lfi lla lco lne lev ptr llo lhi lsp) s.heap.size) (tq_cV (n := 0) C ml_X4_80 im_X4_emptyAll se_X4_emptyAll ini_X4 cd_X4_emptyAll ⟨by decide, by decide, by decide +kernel⟩ ⟨Nat.le_of_ble_eq_true rfl, Nat.le_of_ble_eq_true rfl⟩) ⟨tq_Pc.blind, va_recv hK hP (ci := 4) (q0 := 0) rfl rfl, tq_preC C hK hP hD⟩ rfl rfl hl.1 rfl (lv_room (Nat.le_of_ble_eq_true rfl)) dX4_rebuild_23 ⟨Nat.le_of_ble_eq_true rfl, Nat.le_of_ble_eq_true rfl⟩) hP hD hS hA [0, 1, 2, 3, 4, 5, 6, 7, 8, 9, 10, 11, 12, 13, 14, 15, 16, 17] [] [0, 1, 2, 3, 4, 5, 6, 7, 8, 9, 10, 11, 12, 13, 14, 15, 16, 17] rfl rfl (by decide) (by decide) (by decide) (fun _ => rfl) (fun u23 H locs hr23 hP hD hS => ?_)
  obtain ⟨efi2, ela2, eco2, lfi2, lla2, lco2⟩ := u23
  try dsimp only at hr23
  have hP : va_P D vwCl (wC cy a key val ord 0 cp efi2 ela2 eco2 ene (va_up ldp 0 0) 0 dbl hlv spl mrg lfi2 lla2 lco2 lne 0 0 llo lhi lsp) H := hP
  have hD : va_D A (wC cy a key val ord 0 cp efi2 ela2 eco2 ene (va_up ldp 0 0) 0 dbl hlv spl mrg lfi2 lla2 lco2 lne 0 0 llo lhi lsp) := hD
  refine lv_aload_n hx hb dX4_rebuild_26 rfl (lv_at hl 2 rfl) ?_
  refine tq_get (C0 := RX4) (T := TX4) (N := 3) (ci := 4) (k := 0) C gX4 inX4 rfl (by decide) rfl fl_X4_10 hK hP 0 rfl rfl dX4_rebuild_27 ?_
  refine lv_iload_n hx hb dX4_rebuild_30 rfl (lv_at hl 3 rfl) ?_
  refine tq_putN (v := .int (nI (cq))) (C0 := RX3) (T := TX3) (N := 5) (ci := 3) (k := 4) (ty := .int) C gX3 inX3 tyX3_ok nmX3 rfl (by decide) rfl fn_X4_83 rfl (by decide +kernel) hK hP hD hS 1 rfl rfl rfl (Nat.le_of_ble_eq_true rfl) dX4_rebuild_31 (fun H locs hP hD hS => ?_)
  have hP : va_P D vwCl (wC cy a key val ord 0 cq efi2 ela2 eco2 ene (va_up ldp 0 0) 0 dbl hlv spl mrg lfi2 lla2 lco2 lne 0 0 llo lhi lsp) H := hP
  have hD : va_D A (wC cy a key val ord 0 cq efi2 ela2 eco2 ene (va_up ldp 0 0) 0 dbl hlv spl mrg lfi2 lla2 lco2 lne 0 0 llo lhi lsp) := hD
  refine lv_iconst (v := nI 0) hx hb dX4_rebuild_34 (by decide) ?_
  refine lv_istore (lv' := [(4, .int (nI (0))), (3, .int (nI (tk))), (2, .int (nI (cp))), (0, .ref (a 0)), (1, .int (nI (cq)))]) hx hb dX4_rebuild_35 hl (by decide) rfl (fun ls hl => ?_)
  suffices hlp37 : ∀ (n37 : Nat) (j : Nat) (dep1 : Nat → Nat) (E1 : List Nat) (L1 : List Nat) (efi1 : Nat → Nat) (ela1 : Nat → Nat) (eco1 : Nat → Nat) (ene1 : Nat → Nat) (ldp1 : Nat → Nat) (dp1 : Nat) (dbl1 : Int32) (spl1 : Int32) (lfi1 : Nat → Nat) (lla1 : Nat → Nat) (lco1 : Nat → Nat) (lne1 : Nat → Nat) (lev1 : Nat) (ptr1 : Nat) (lsp1 : Int32), tk - j < n37 → (j ≤ tk) → (CR key val ord j cq efi1 ela1 eco1 ene1 ldp1 dp1 lfi1 lla1 lco1 lne1 lev1 ptr1 llo lhi dep1 E1 L1) → (mkA key val ord j cq dep1 dp1 E1 dbl1 hlv spl1 mrg L1 lev1 ptr1 llo lhi lsp1 = ((stl key val ord tk).take j).foldl (fun B q => aadd B q.1 q.2) (aclr (mkA key val ord tk cp dep dp E dbl hlv spl mrg L lev ptr llo lhi lsp) cq)) → ∀ (H : Heap) (locs : List Loc), va_P D vwCl (wC cy a key val ord j cq efi1 ela1 eco1 ene1 ldp1 dp1 dbl1 hlv spl1 mrg lfi1 lla1 lco1 lne1 lev1 ptr1 llo lhi lsp1) H → va_D A (wC cy a key val ord j cq efi1 ela1 eco1 ene1 ldp1 dp1 dbl1 hlv spl1 mrg lfi1 lla1 lco1 lne1 lev1 ptr1 llo lhi lsp1) → va_S A s.heap H locs → ∀ ls : Array Slot, lv_has ls 5 [(0, .ref (a 0)), (1, .int (nI (cq))), (2, .int (nI (cp))), (3, .int (nI (tk))), (4, .int (nI (j)))] → W p l e ({ frames := 6, cells := 0, slots := 0, locals := 137 } : Room) s m args below meth c H locs (0 + 0) (0 + 0) (MQ below (va_Qi (S := Nat × Nat × (Nat → Nat) × (Nat → Nat) × (Nat → Nat) × (Nat → Nat) × (Nat → Nat) × Nat × Int32 × Int32 × (Nat → Nat) × (Nat → Nat) × (Nat → Nat) × (Nat → Nat) × Nat × Nat × Int32) (fun r u => r = nI cp ∧ u.1 = tk ∧ u.2.1 = cq ∧ ∃ dep2 E2 L2, CR key val ord u.1 u.2.1 u.2.2.1 u.2.2.2.1 u.2.2.2.2.1 u.2.2.2.2.2.1 u.2.2.2.2.2.2.1 u.2.2.2.2.2.2.2.1 u.2.2.2.2.2.2.2.2.2.2.1 u.2.2.2.2.2.2.2.2.2.2.2.1 u.2.2.2.2.2.2.2.2.2.2.2.2.1 u.2.2.2.2.2.2.2.2.2.2.2.2.2.1 u.2.2.2.2.2.2.2.2.2.2.2.2.2.2.1 u.2.2.2.2.2.2.2.2.2.2.2.2.2.2.2.1 llo lhi dep2 E2 L2) (tq_B D A (fun u => (wC cy a key val ord u.1 u.2.1 u.2.2.1 u.2.2.2.1 u.2.2.2.2.1 u.2.2.2.2.2.1 u.2.2.2.2.2.2.1 u.2.2.2.2.2.2.2.1 u.2.2.2.2.2.2.2.2.1 hlv u.2.2.2.2.2.2.2.2.2.1 mrg u.2.2.2.2.2.2.2.2.2.2.1 u.2.2.2.2.2.2.2.2.2.2.2.1 u.2.2.2.2.2.2.2.2.2.2.2.2.1 u.2.2.2.2.2.2.2.2.2.2.2.2.2.1 u.2.2.2.2.2.2.2.2.2.2.2.2.2.2.1 u.2.2.2.2.2.2.2.2.2.2.2.2.2.2.2.1 llo lhi u.2.2.2.2.2.2.2.2.2.2.2.2.2.2.2.2))) A) args s 0 0 A) (F0 m 37 ls []) from
    hlp37 (tk + 1) 0 (fun _ => 0) ([]) ([]) efi2 ela2 eco2 ene (va_up ldp 0 0) 0 dbl spl lfi2 lla2 lco2 lne 0 0 lsp (by omega) (by omega) ((CR.cleared (dbl := dbl) (hlv := hlv) (spl := spl) (mrg := mrg) (lsp := lsp) (dep := dep) (E := E) (L := L) (dp := dp) (cp := cp) (lev := lev) (ptr := ptr) hSO ⟨hc1, hc2⟩ ⟨hlo, hh1, hh2⟩ hld rfl hr23.1 hr23.2).1) (rfl) _ _ hP hD hS _ (lv_sub hl [3, 4, 2, 1, 0] rfl)
  intro n37
  induction n37 with
  | zero => intro j dep1 E1 L1 efi1 ela1 eco1 ene1 ldp1 dp1 dbl1 spl1 lfi1 lla1 lco1 lne1 lev1 ptr1 lsp1 hf; exact absurd hf (Nat.not_lt_zero _)
  | succ n37 ih37 =>
    intro j dep1 E1 L1 efi1 ela1 eco1 ene1 ldp1 dp1 dbl1 spl1 lfi1 lla1 lco1 lne1 lev1 ptr1 lsp1 hf37 hj hC1 hA1 H locs hP hD hS ls hl
    refine lv_iload hx hb dX4_rebuild_37 (lv_at hl 4 rfl) ?_
    refine lv_iload_n hx hb dX4_rebuild_39 rfl (lv_at hl 3 rfl) ?_
    refine tq_icmp_ge (tgt := 60) C (by have := hSO.1; omega) (by have := hSO.1; omega) dX4_rebuild_40 (by decide) (fun h40 => ?_) (fun h40 => ?_)
    · have e9 : j = tk := by omega
      have hA9 : mkA key val ord j cq dep1 dp1 E1 dbl1 hlv spl1 mrg L1 lev1 ptr1 llo lhi lsp1 = areb (mkA key val ord tk cp dep dp E dbl hlv spl mrg L lev ptr llo lhi lsp) cq := by
        rw [hA1, e9, List.take_of_length_le (by rw [stl_len]; exact Nat.le_refl _)]; rfl
      refine lv_iload_n hx hb dX4_rebuild_60 rfl (lv_at hl 2 rfl) ?_
      exact tq_iret (v := (nI (cp))) C rfl (j, cq, efi1, ela1, eco1, ene1, ldp1, dp1, dbl1, spl1, lfi1, lla1, lco1, lne1, lev1, ptr1, lsp1) hP hD hS (⟨rfl, e9, rfl, dep1, E1, L1, hC1⟩) (Nat.le_of_ble_eq_true rfl) (Nat.le_of_ble_eq_true rfl) dX4_rebuild_61
    · obtain ⟨kO, kc, kl, ⟨rX1, hX1⟩, ⟨rY1, hY1⟩, kE⟩ := id hC1
      have hej := hSO.2.1 j (by omega)
      have hnx := stl_next hSO h40
      refine lv_aload_n hx hb dX4_rebuild_43 rfl (lv_at hl 0 rfl) ?_
      refine lv_aload_n hx hb dX4_rebuild_44 rfl (lv_at hl 0 rfl) ?_
      refine tq_get (C0 := RX4) (T := TX4) (N := 3) (ci := 4) (k := 0) C gX4 inX4 rfl (by decide) rfl fl_X4_10 hK hP 0 rfl rfl dX4_rebuild_45 ?_
      refine tq_callI (W3 := fun u => (wC cy a key val ord (j + 1) cq efi1 ela1 eco1 ene1 ldp1 dp1 dbl1 hlv spl1 mrg lfi1 lla1 lco1 lne1 lev1 ptr1 llo lhi lsp1)) (wr := []) (va_runV C.fix (As := []) (rest := [.ref (a 0)]) ((c_X3_takeAgain l D cy a key val ord j cq efi1 ela1 eco1 ene1 ldp1 dp1 dbl1 hlv spl1 mrg lfi1 lla1 lco1 lne1 lev1 ptr1 llo lhi lsp1 (by omega)) H.size) (tq_cV (n := 0) C ml_X4_86 im_X3_takeAgain se_X3_takeAgain ini_X3 cd_X3_takeAgain ⟨by decide, by decide, by decide +kernel⟩ ⟨Nat.le_of_ble_eq_true rfl, Nat.le_of_ble_eq_true rfl⟩) ⟨tq_Pc.blind, va_recv hK hP (ci := 3) (q0 := 1) rfl rfl, tq_preC C hK hP hD⟩ rfl rfl hl.1 rfl (lv_room (Nat.le_of_ble_eq_true rfl)) dX4_rebuild_48 ⟨Nat.le_of_ble_eq_true rfl, Nat.le_of_ble_eq_true rfl⟩) hP hD hS hA [0, 1, 2, 3, 4, 5, 6, 7, 8, 9, 10, 11, 12, 13, 14, 15, 16, 17] [] [0, 1, 2, 3, 4, 5, 6, 7, 8, 9, 10, 11, 12, 13, 14, 15, 16, 17] rfl rfl (by decide) (by decide) (by decide) (fun _ => rfl) (fun r48 u48 H locs hr48 hP hD hS => ?_)
      have hP : va_P D vwCl (wC cy a key val ord (j + 1) cq efi1 ela1 eco1 ene1 ldp1 dp1 dbl1 hlv spl1 mrg lfi1 lla1 lco1 lne1 lev1 ptr1 llo lhi lsp1) H := hP
      have hD : va_D A (wC cy a key val ord (j + 1) cq efi1 ela1 eco1 ene1 ldp1 dp1 dbl1 hlv spl1 mrg lfi1 lla1 lco1 lne1 lev1 ptr1 llo lhi lsp1) := hD
      obtain rfl := hr48.symm
      refine tq_callV (W3 := fun u => (wC cy a key val ord (j + 1) cq u.1 u.2.1 u.2.2.1 u.2.2.2.1 u.2.2.2.2.1 u.2.2.2.2.2.1 u.2.2.2.2.2.2.1 hlv u.2.2.2.2.2.2.2.1 mrg u.2.2.2.2.2.2.2.2.1 u.2.2.2.2.2.2.2.2.2.1 u.2.2.2.2.2.2.2.2.2.2.1 u.2.2.2.2.2.2.2.2.2.2.2.1 u.2.2.2.2.2.2.2.2.2.2.2.2.1 u.2.2.2.2.2.2.2.2.2.2.2.2.2.1 llo lhi u.2.2.2.2.2.2.2.2.2.2.2.2.2.2)) (wr := []) (va_runV C.fix (As := [.int (nI (ord j))]) (rest := []) ((c_X4_insertIntoBoth l D cy a key val ord (j + 1) cq efi1 ela1 eco1 ene1 ldp1 dp1 dbl1 hlv spl1 mrg lfi1 lla1 lco1 lne1 lev1 ptr1 llo lhi lsp1 (ord j) rX1 rY1 dep1 E1 L1 (US ord j) (US ord (j + 1)) hX1 hY1 hky hej.1 hej.2 (fun ⟨i, hi, e9⟩ => by have := hSO.2.2.1 _ _ (by omega) (by omega) e9; omega) (fun e9 ⟨i, hi, h9⟩ => ⟨i, by omega, h9⟩) (⟨j, by omega, rfl⟩) hc1 hc2 (by omega) hlo hh1 hh2) H.size) (tq_cV (n := 1) C ml_X4_63 im_X4_insertIntoBoth se_X4_insertIntoBoth ini_X4 cd_X4_insertIntoBoth ⟨by decide, by decide, by decide +kernel⟩ ⟨Nat.le_of_ble_eq_true rfl, Nat.le_of_ble_eq_true rfl⟩) ⟨tq_Pc.blind, va_recv hK hP (ci := 4) (q0 := 0) rfl rfl, tq_preC C hK hP hD⟩ rfl rfl hl.1 rfl (lv_room (Nat.le_of_ble_eq_true rfl)) dX4_rebuild_51 ⟨Nat.le_of_ble_eq_true rfl, Nat.le_of_ble_eq_true rfl⟩) hP hD hS hA [0, 1, 2, 3, 4, 5, 6, 7, 8, 9, 10, 11, 12, 13, 14, 15, 16, 17] [] [0, 1, 2, 3, 4, 5, 6, 7, 8, 9, 10, 11, 12, 13, 14, 15, 16, 17] rfl rfl (by decide) (by decide) (by decide) (fun _ => rfl) (fun u51 H locs hr51 hP hD hS => ?_)
      obtain ⟨efi3, ela3, eco3, ene3, ldp3, dp3, dbl3, spl3, lfi3, lla3, lco3, lne3, lev3, ptr3, lsp3⟩ := u51
      try dsimp only at hr51
      have hP : va_P D vwCl (wC cy a key val ord (j + 1) cq efi3 ela3 eco3 ene3 ldp3 dp3 dbl3 hlv spl3 mrg lfi3 lla3 lco3 lne3 lev3 ptr3 llo lhi lsp3) H := hP
      have hD : va_D A (wC cy a key val ord (j + 1) cq efi3 ela3 eco3 ene3 ldp3 dp3 dbl3 hlv spl3 mrg lfi3 lla3 lco3 lne3 lev3 ptr3 llo lhi lsp3) := hD
      obtain ⟨dep3, E3, L3, hC3, hA3⟩ := CR.added (hlv := hlv) (mrg := mrg) (v := val (ord j)) (hSO.mono (show j + 1 ≤ tk by omega)) hnx.1 rfl ⟨hc1, hc2⟩ ⟨hlo, hh1, hh2⟩ hr51.1 hr51.2.1 hr51.2.2.1 hr51.2.2.2 (fun i hi => (by
        rcases Nat.lt_or_eq_of_le (Nat.le_of_lt_succ hi) with z | rfl
        · exact ⟨List.mem_append_left _ (kE i z).1, List.mem_append_left _ (kE i z).2⟩
        · exact ⟨List.mem_append_right _ List.mem_cons_self, List.mem_append_right _ List.mem_cons_self⟩))
      refine lv_iinc (v := (nI (j + 1))) (lv' := [(4, .int (nI (j + 1))), (0, .ref (a 0)), (1, .int (nI (cq))), (2, .int (nI (cp))), (3, .int (nI (tk)))]) hx hb dX4_rebuild_54 hl (k := 4) rfl (tq_inc1 _) (by decide) rfl (fun ls hl => ?_)
      refine lv_goto (tgt := 37) hx hb dX4_rebuild_57 (by decide) ?_
      exact ih37 (j + 1) dep3 E3 L3 efi3 ela3 eco3 ene3 ldp3 dp3 dbl3 spl3 lfi3 lla3 lco3 lne3 lev3 ptr3 lsp3 (by omega) (by omega) (hC3) (by rw [hA3, hnx.2, List.foldl_append, hA1]; rfl) _ _ hP hD hS _ (lv_sub hl [1, 2, 3, 4, 0] rfl)
