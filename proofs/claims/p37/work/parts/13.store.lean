
/-- the store's own order: entries each once, those in use first, by rising keys -/
def SO (key val ord : Nat → Nat) (tk : Nat) : Prop :=
  tk ≤ 120 ∧ (∀ i, i < 120 → 1 ≤ ord i ∧ ord i ≤ 120) ∧ (∀ i j, i < 120 → j < 120 → ord i = ord j → i = j) ∧ (∀ i j, i < j → j < tk → key (ord i) < key (ord j)) ∧ ∀ e, key e < 65536 ∧ val e < 1000000

theorem dX3_valueOf_0 : decode cX3_valueOf 0 = .ok (.iload_n 1, 1) := by decide +kernel
theorem dX3_valueOf_1 : decode cX3_valueOf 1 = .ok (.invokestatic 28, 3) := by decide +kernel
theorem dX3_valueOf_4 : decode cX3_valueOf 4 = .ok (.ifCond .eq 12, 3) := by decide +kernel
theorem dX3_valueOf_7 : decode cX3_valueOf 7 = .ok (.aload_n 0, 1) := by decide +kernel
theorem dX3_valueOf_8 : decode cX3_valueOf 8 = .ok (.getfield 15, 3) := by decide +kernel
theorem dX3_valueOf_11 : decode cX3_valueOf 11 = .ok (.iload_n 1, 1) := by decide +kernel
theorem dX3_valueOf_12 : decode cX3_valueOf 12 = .ok (.iaload, 1) := by decide +kernel
theorem dX3_valueOf_13 : decode cX3_valueOf 13 = .ok (.goto 4, 3) := by decide +kernel
theorem dX3_valueOf_16 : decode cX3_valueOf 16 = .ok (.iconst 0, 1) := by decide +kernel
theorem dX3_valueOf_17 : decode cX3_valueOf 17 = .ok (.ireturn, 1) := by decide +kernel
theorem dX3_replaceValue_0 : decode cX3_replaceValue 0 = .ok (.aload_n 0, 1) := by decide +kernel
theorem dX3_replaceValue_1 : decode cX3_replaceValue 1 = .ok (.iload_n 1, 1) := by decide +kernel
theorem dX3_replaceValue_2 : decode cX3_replaceValue 2 = .ok (.invokevirtual 32, 3) := by decide +kernel
theorem dX3_replaceValue_5 : decode cX3_replaceValue 5 = .ok (.istore_n 3, 1) := by decide +kernel
theorem dX3_replaceValue_6 : decode cX3_replaceValue 6 = .ok (.iload_n 1, 1) := by decide +kernel
theorem dX3_replaceValue_7 : decode cX3_replaceValue 7 = .ok (.invokestatic 28, 3) := by decide +kernel
theorem dX3_replaceValue_10 : decode cX3_replaceValue 10 = .ok (.ifCond .eq 10, 3) := by decide +kernel
theorem dX3_replaceValue_13 : decode cX3_replaceValue 13 = .ok (.aload_n 0, 1) := by decide +kernel
theorem dX3_replaceValue_14 : decode cX3_replaceValue 14 = .ok (.getfield 15, 3) := by decide +kernel
theorem dX3_replaceValue_17 : decode cX3_replaceValue 17 = .ok (.iload_n 1, 1) := by decide +kernel
theorem dX3_replaceValue_18 : decode cX3_replaceValue 18 = .ok (.iload_n 2, 1) := by decide +kernel
theorem dX3_replaceValue_19 : decode cX3_replaceValue 19 = .ok (.iastore, 1) := by decide +kernel
theorem dX3_replaceValue_20 : decode cX3_replaceValue 20 = .ok (.iload_n 3, 1) := by decide +kernel
theorem dX3_replaceValue_21 : decode cX3_replaceValue 21 = .ok (.ireturn, 1) := by decide +kernel
theorem dX3_takeAgain_0 : decode cX3_takeAgain 0 = .ok (.aload_n 0, 1) := by decide +kernel
theorem dX3_takeAgain_1 : decode cX3_takeAgain 1 = .ok (.getfield 21, 3) := by decide +kernel
theorem dX3_takeAgain_4 : decode cX3_takeAgain 4 = .ok (.ifCond .lt 12, 3) := by decide +kernel
theorem dX3_takeAgain_7 : decode cX3_takeAgain 7 = .ok (.aload_n 0, 1) := by decide +kernel
theorem dX3_takeAgain_8 : decode cX3_takeAgain 8 = .ok (.getfield 21, 3) := by decide +kernel
theorem dX3_takeAgain_11 : decode cX3_takeAgain 11 = .ok (.bipush 120, 2) := by decide +kernel
theorem dX3_takeAgain_13 : decode cX3_takeAgain 13 = .ok (.if_icmp .lt 5, 3) := by decide +kernel
theorem dX3_takeAgain_16 : decode cX3_takeAgain 16 = .ok (.iconst 0, 1) := by decide +kernel
theorem dX3_takeAgain_17 : decode cX3_takeAgain 17 = .ok (.ireturn, 1) := by decide +kernel
theorem dX3_takeAgain_18 : decode cX3_takeAgain 18 = .ok (.aload_n 0, 1) := by decide +kernel
theorem dX3_takeAgain_19 : decode cX3_takeAgain 19 = .ok (.getfield 18, 3) := by decide +kernel
theorem dX3_takeAgain_22 : decode cX3_takeAgain 22 = .ok (.aload_n 0, 1) := by decide +kernel
theorem dX3_takeAgain_23 : decode cX3_takeAgain 23 = .ok (.getfield 21, 3) := by decide +kernel
theorem dX3_takeAgain_26 : decode cX3_takeAgain 26 = .ok (.iaload, 1) := by decide +kernel
theorem dX3_takeAgain_27 : decode cX3_takeAgain 27 = .ok (.istore_n 1, 1) := by decide +kernel
theorem dX3_takeAgain_28 : decode cX3_takeAgain 28 = .ok (.aload_n 0, 1) := by decide +kernel
theorem dX3_takeAgain_29 : decode cX3_takeAgain 29 = .ok (.dup, 1) := by decide +kernel
theorem dX3_takeAgain_30 : decode cX3_takeAgain 30 = .ok (.getfield 21, 3) := by decide +kernel
theorem dX3_takeAgain_33 : decode cX3_takeAgain 33 = .ok (.iconst 1, 1) := by decide +kernel
theorem dX3_takeAgain_34 : decode cX3_takeAgain 34 = .ok (.iadd, 1) := by decide +kernel
theorem dX3_takeAgain_35 : decode cX3_takeAgain 35 = .ok (.putfield 21, 3) := by decide +kernel
theorem dX3_takeAgain_38 : decode cX3_takeAgain 38 = .ok (.iload_n 1, 1) := by decide +kernel
theorem dX3_takeAgain_39 : decode cX3_takeAgain 39 = .ok (.ireturn, 1) := by decide +kernel
theorem dX3_releaseAll_0 : decode cX3_releaseAll 0 = .ok (.aload_n 0, 1) := by decide +kernel
theorem dX3_releaseAll_1 : decode cX3_releaseAll 1 = .ok (.iconst 0, 1) := by decide +kernel
theorem dX3_releaseAll_2 : decode cX3_releaseAll 2 = .ok (.putfield 21, 3) := by decide +kernel
theorem dX3_releaseAll_5 : decode cX3_releaseAll 5 = .ok (.return_, 1) := by decide +kernel
theorem dX3_take_0 : decode cX3_take 0 = .ok (.aload_n 0, 1) := by decide +kernel
theorem dX3_take_1 : decode cX3_take 1 = .ok (.getfield 21, 3) := by decide +kernel
theorem dX3_take_4 : decode cX3_take 4 = .ok (.ifCond .lt 12, 3) := by decide +kernel
theorem dX3_take_7 : decode cX3_take 7 = .ok (.aload_n 0, 1) := by decide +kernel
theorem dX3_take_8 : decode cX3_take 8 = .ok (.getfield 21, 3) := by decide +kernel
theorem dX3_take_11 : decode cX3_take 11 = .ok (.bipush 120, 2) := by decide +kernel
theorem dX3_take_13 : decode cX3_take 13 = .ok (.if_icmp .lt 5, 3) := by decide +kernel
theorem dX3_take_16 : decode cX3_take 16 = .ok (.iconst 0, 1) := by decide +kernel
theorem dX3_take_17 : decode cX3_take 17 = .ok (.ireturn, 1) := by decide +kernel
theorem dX3_take_18 : decode cX3_take 18 = .ok (.aload_n 0, 1) := by decide +kernel
theorem dX3_take_19 : decode cX3_take 19 = .ok (.getfield 18, 3) := by decide +kernel
theorem dX3_take_22 : decode cX3_take 22 = .ok (.aload_n 0, 1) := by decide +kernel
theorem dX3_take_23 : decode cX3_take 23 = .ok (.getfield 21, 3) := by decide +kernel
theorem dX3_take_26 : decode cX3_take 26 = .ok (.iaload, 1) := by decide +kernel
theorem dX3_take_27 : decode cX3_take 27 = .ok (.istore_n 3, 1) := by decide +kernel
theorem dX3_take_28 : decode cX3_take 28 = .ok (.iload_n 3, 1) := by decide +kernel
theorem dX3_take_29 : decode cX3_take 29 = .ok (.invokestatic 28, 3) := by decide +kernel
theorem dX3_take_32 : decode cX3_take 32 = .ok (.ifCond .ne 5, 3) := by decide +kernel
theorem dX3_take_35 : decode cX3_take 35 = .ok (.iconst 0, 1) := by decide +kernel
theorem dX3_take_36 : decode cX3_take 36 = .ok (.ireturn, 1) := by decide +kernel
theorem dX3_take_37 : decode cX3_take 37 = .ok (.aload_n 0, 1) := by decide +kernel
theorem dX3_take_38 : decode cX3_take 38 = .ok (.getfield 9, 3) := by decide +kernel
theorem dX3_take_41 : decode cX3_take 41 = .ok (.iload_n 3, 1) := by decide +kernel
theorem dX3_take_42 : decode cX3_take 42 = .ok (.iload_n 1, 1) := by decide +kernel
theorem dX3_take_43 : decode cX3_take 43 = .ok (.iastore, 1) := by decide +kernel
theorem dX3_take_44 : decode cX3_take 44 = .ok (.aload_n 0, 1) := by decide +kernel
theorem dX3_take_45 : decode cX3_take 45 = .ok (.getfield 15, 3) := by decide +kernel
theorem dX3_take_48 : decode cX3_take 48 = .ok (.iload_n 3, 1) := by decide +kernel
theorem dX3_take_49 : decode cX3_take 49 = .ok (.iload_n 2, 1) := by decide +kernel
theorem dX3_take_50 : decode cX3_take 50 = .ok (.iastore, 1) := by decide +kernel
theorem dX3_take_51 : decode cX3_take 51 = .ok (.aload_n 0, 1) := by decide +kernel
theorem dX3_take_52 : decode cX3_take 52 = .ok (.getfield 21, 3) := by decide +kernel
theorem dX3_take_55 : decode cX3_take 55 = .ok (.istore 4, 2) := by decide +kernel
theorem dX3_take_57 : decode cX3_take 57 = .ok (.iload 4, 2) := by decide +kernel
theorem dX3_take_59 : decode cX3_take 59 = .ok (.ifCond .le 42, 3) := by decide +kernel
theorem dX3_take_62 : decode cX3_take 62 = .ok (.aload_n 0, 1) := by decide +kernel
theorem dX3_take_63 : decode cX3_take 63 = .ok (.aload_n 0, 1) := by decide +kernel
theorem dX3_take_64 : decode cX3_take 64 = .ok (.getfield 18, 3) := by decide +kernel
theorem dX3_take_67 : decode cX3_take 67 = .ok (.iload 4, 2) := by decide +kernel
theorem dX3_take_69 : decode cX3_take 69 = .ok (.iconst 1, 1) := by decide +kernel
theorem dX3_take_70 : decode cX3_take 70 = .ok (.isub, 1) := by decide +kernel
theorem dX3_take_71 : decode cX3_take 71 = .ok (.iaload, 1) := by decide +kernel
theorem dX3_take_72 : decode cX3_take 72 = .ok (.invokevirtual 36, 3) := by decide +kernel
theorem dX3_take_75 : decode cX3_take 75 = .ok (.iload_n 1, 1) := by decide +kernel
theorem dX3_take_76 : decode cX3_take 76 = .ok (.if_icmp .le 25, 3) := by decide +kernel
theorem dX3_take_79 : decode cX3_take 79 = .ok (.aload_n 0, 1) := by decide +kernel
theorem dX3_take_80 : decode cX3_take 80 = .ok (.getfield 18, 3) := by decide +kernel
theorem dX3_take_83 : decode cX3_take 83 = .ok (.iload 4, 2) := by decide +kernel
theorem dX3_take_85 : decode cX3_take 85 = .ok (.aload_n 0, 1) := by decide +kernel
theorem dX3_take_86 : decode cX3_take 86 = .ok (.getfield 18, 3) := by decide +kernel
theorem dX3_take_89 : decode cX3_take 89 = .ok (.iload 4, 2) := by decide +kernel
theorem dX3_take_91 : decode cX3_take 91 = .ok (.iconst 1, 1) := by decide +kernel
theorem dX3_take_92 : decode cX3_take 92 = .ok (.isub, 1) := by decide +kernel
theorem dX3_take_93 : decode cX3_take 93 = .ok (.iaload, 1) := by decide +kernel
theorem dX3_take_94 : decode cX3_take 94 = .ok (.iastore, 1) := by decide +kernel
theorem dX3_take_95 : decode cX3_take 95 = .ok (.iinc 4 (-1), 3) := by decide +kernel
theorem dX3_take_98 : decode cX3_take 98 = .ok (.goto (-41), 3) := by decide +kernel
theorem dX3_take_101 : decode cX3_take 101 = .ok (.aload_n 0, 1) := by decide +kernel
theorem dX3_take_102 : decode cX3_take 102 = .ok (.getfield 18, 3) := by decide +kernel
theorem dX3_take_105 : decode cX3_take 105 = .ok (.iload 4, 2) := by decide +kernel
theorem dX3_take_107 : decode cX3_take 107 = .ok (.iload_n 3, 1) := by decide +kernel
theorem dX3_take_108 : decode cX3_take 108 = .ok (.iastore, 1) := by decide +kernel
theorem dX3_take_109 : decode cX3_take 109 = .ok (.aload_n 0, 1) := by decide +kernel
theorem dX3_take_110 : decode cX3_take 110 = .ok (.dup, 1) := by decide +kernel
theorem dX3_take_111 : decode cX3_take 111 = .ok (.getfield 21, 3) := by decide +kernel
theorem dX3_take_114 : decode cX3_take 114 = .ok (.iconst 1, 1) := by decide +kernel
theorem dX3_take_115 : decode cX3_take 115 = .ok (.iadd, 1) := by decide +kernel
theorem dX3_take_116 : decode cX3_take 116 = .ok (.putfield 21, 3) := by decide +kernel
theorem dX3_take_119 : decode cX3_take 119 = .ok (.iload_n 3, 1) := by decide +kernel
theorem dX3_take_120 : decode cX3_take 120 = .ok (.ireturn, 1) := by decide +kernel
theorem dX3_release_0 : decode cX3_release 0 = .ok (.aload_n 0, 1) := by decide +kernel
theorem dX3_release_1 : decode cX3_release 1 = .ok (.getfield 21, 3) := by decide +kernel
theorem dX3_release_4 : decode cX3_release 4 = .ok (.iconst 1, 1) := by decide +kernel
theorem dX3_release_5 : decode cX3_release 5 = .ok (.isub, 1) := by decide +kernel
theorem dX3_release_6 : decode cX3_release 6 = .ok (.istore_n 2, 1) := by decide +kernel
theorem dX3_release_7 : decode cX3_release 7 = .ok (.iload_n 2, 1) := by decide +kernel
theorem dX3_release_8 : decode cX3_release 8 = .ok (.ifCond .lt 9, 3) := by decide +kernel
theorem dX3_release_11 : decode cX3_release 11 = .ok (.iload_n 2, 1) := by decide +kernel
theorem dX3_release_12 : decode cX3_release 12 = .ok (.bipush 120, 2) := by decide +kernel
theorem dX3_release_14 : decode cX3_release 14 = .ok (.if_icmp .lt 4, 3) := by decide +kernel
theorem dX3_release_17 : decode cX3_release 17 = .ok (.return_, 1) := by decide +kernel
theorem dX3_release_18 : decode cX3_release 18 = .ok (.iconst 0, 1) := by decide +kernel
theorem dX3_release_19 : decode cX3_release 19 = .ok (.istore_n 3, 1) := by decide +kernel
theorem dX3_release_20 : decode cX3_release 20 = .ok (.iload_n 3, 1) := by decide +kernel
theorem dX3_release_21 : decode cX3_release 21 = .ok (.iload_n 2, 1) := by decide +kernel
theorem dX3_release_22 : decode cX3_release 22 = .ok (.if_icmp .ge 19, 3) := by decide +kernel
theorem dX3_release_25 : decode cX3_release 25 = .ok (.aload_n 0, 1) := by decide +kernel
theorem dX3_release_26 : decode cX3_release 26 = .ok (.getfield 18, 3) := by decide +kernel
theorem dX3_release_29 : decode cX3_release 29 = .ok (.iload_n 3, 1) := by decide +kernel
theorem dX3_release_30 : decode cX3_release 30 = .ok (.iaload, 1) := by decide +kernel
theorem dX3_release_31 : decode cX3_release 31 = .ok (.iload_n 1, 1) := by decide +kernel
theorem dX3_release_32 : decode cX3_release 32 = .ok (.if_icmp .eq 9, 3) := by decide +kernel
theorem dX3_release_35 : decode cX3_release 35 = .ok (.iinc 3 1, 3) := by decide +kernel
theorem dX3_release_38 : decode cX3_release 38 = .ok (.goto (-18), 3) := by decide +kernel
theorem dX3_release_41 : decode cX3_release 41 = .ok (.iload_n 3, 1) := by decide +kernel
theorem dX3_release_42 : decode cX3_release 42 = .ok (.iload_n 2, 1) := by decide +kernel
theorem dX3_release_43 : decode cX3_release 43 = .ok (.if_icmp .ge 23, 3) := by decide +kernel
theorem dX3_release_46 : decode cX3_release 46 = .ok (.aload_n 0, 1) := by decide +kernel
theorem dX3_release_47 : decode cX3_release 47 = .ok (.getfield 18, 3) := by decide +kernel
theorem dX3_release_50 : decode cX3_release 50 = .ok (.iload_n 3, 1) := by decide +kernel
theorem dX3_release_51 : decode cX3_release 51 = .ok (.aload_n 0, 1) := by decide +kernel
theorem dX3_release_52 : decode cX3_release 52 = .ok (.getfield 18, 3) := by decide +kernel
theorem dX3_release_55 : decode cX3_release 55 = .ok (.iload_n 3, 1) := by decide +kernel
theorem dX3_release_56 : decode cX3_release 56 = .ok (.iconst 1, 1) := by decide +kernel
theorem dX3_release_57 : decode cX3_release 57 = .ok (.iadd, 1) := by decide +kernel
theorem dX3_release_58 : decode cX3_release 58 = .ok (.iaload, 1) := by decide +kernel
theorem dX3_release_59 : decode cX3_release 59 = .ok (.iastore, 1) := by decide +kernel
theorem dX3_release_60 : decode cX3_release 60 = .ok (.iinc 3 1, 3) := by decide +kernel
theorem dX3_release_63 : decode cX3_release 63 = .ok (.goto (-22), 3) := by decide +kernel
theorem dX3_release_66 : decode cX3_release 66 = .ok (.aload_n 0, 1) := by decide +kernel
theorem dX3_release_67 : decode cX3_release 67 = .ok (.getfield 18, 3) := by decide +kernel
theorem dX3_release_70 : decode cX3_release 70 = .ok (.iload_n 2, 1) := by decide +kernel
theorem dX3_release_71 : decode cX3_release 71 = .ok (.iload_n 1, 1) := by decide +kernel
theorem dX3_release_72 : decode cX3_release 72 = .ok (.iastore, 1) := by decide +kernel
theorem dX3_release_73 : decode cX3_release 73 = .ok (.aload_n 0, 1) := by decide +kernel
theorem dX3_release_74 : decode cX3_release 74 = .ok (.iload_n 2, 1) := by decide +kernel
theorem dX3_release_75 : decode cX3_release 75 = .ok (.putfield 21, 3) := by decide +kernel
theorem dX3_release_78 : decode cX3_release 78 = .ok (.return_, 1) := by decide +kernel
set_option maxHeartbeats 4000000 in
set_option maxRecDepth 100000 in
theorem c_X3_valueOf (l : Launch) (D : va_G) (cy : ClassId) (a : Nat → Nat) (key : Nat → Nat) (val : Nat → Nat) (ord : Nat → Nat) (tk : Nat) (cp : Nat) (efi : Nat → Nat) (ela : Nat → Nat) (eco : Nat → Nat) (ene : Nat → Nat) (ldp : Nat → Nat) (dp : Nat) (dbl : Int32) (hlv : Int32) (spl : Int32) (mrg : Int32) (lfi : Nat → Nat) (lla : Nat → Nat) (lco : Nat → Nat) (lne : Nat → Nat) (lev : Nat) (ptr : Nat) (llo : Nat) (lhi : Nat) (lsp : Int32) (en : Nat) (h1 : 1 ≤ en) (h2 : en ≤ 120) : tq_F l yX3_valueOf cX3_valueOf 2 (some .int) 1 20 D cy (wC cy a key val ord tk cp efi ela eco ene ldp dp dbl hlv spl mrg lfi lla lco lne lev ptr llo lhi lsp) [.ref (a 1), .int (nI (en))] (fun r => r = (nI (val en))) := by
  refine tq_F.mk (by decide) (Nat.le_of_ble_eq_true rfl) ?_
  intro p e s m args below meth c C hP hK ls hl
  obtain ⟨hx, hb, hml, hown, hrt, hlk, hT⟩ := id C
  have hl : lv_has ls 2 [(0, .ref (a 1)), (1, .int (nI (en)))] := hl
  refine lv_iload_n hx hb dX3_valueOf_0 rfl (lv_at hl 1 rfl) ?_
  refine tq_callF (va_runSN C.fix (As := [.int (nI (en))]) (rest := []) (c_X4_isEntry l D cy en h1 h2) (tq_cN (n := 1) C mn_X3_28 sm_X4_isEntry ini_X4 cd_X4_isEntry ⟨by decide, by decide, by decide +kernel⟩ ⟨Nat.le_of_ble_eq_true rfl, Nat.le_of_ble_eq_true rfl⟩) ⟨tq_Pf.blind, tq_preF C hK (hP.sub [] rfl)⟩ rfl rfl hl.1 rfl (lv_room (Nat.le_of_ble_eq_true rfl)) dX3_valueOf_1 ⟨Nat.le_of_ble_eq_true rfl, Nat.le_of_ble_eq_true rfl⟩) (fun r1 hr1 => ?_)
  obtain rfl := hr1
  refine lv_if_eq (tgt := 16) hx hb dX3_valueOf_4 (by decide) (fun h9 => absurd h9 (by decide)) (fun _ => ?_)
  refine lv_aload_n hx hb dX3_valueOf_7 rfl (lv_at hl 0 rfl) ?_
  refine tq_get (C0 := RX3) (T := TX3) (N := 5) (ci := 3) (k := 1) C gX3 inX3 rfl (by decide) rfl fl_X3_15 hK hP 1 rfl rfl dX3_valueOf_8 ?_
  refine lv_iload_n hx hb dX3_valueOf_11 rfl (lv_at hl 1 rfl) ?_
  refine tq_iald (n := 121) (i := en) (f := val) C hK hP 5 0 rfl rfl (by omega) (Nat.le_of_ble_eq_true rfl) dX3_valueOf_12 ?_
  refine lv_goto (tgt := 17) hx hb dX3_valueOf_13 (by decide) ?_
  exact tq_fret (v := (nI (val en))) C rfl (rfl) dX3_valueOf_17
set_option maxHeartbeats 4000000 in
set_option maxRecDepth 100000 in
theorem c_X3_replaceValue (l : Launch) (D : va_G) (cy : ClassId) (a : Nat → Nat) (key : Nat → Nat) (val : Nat → Nat) (ord : Nat → Nat) (tk : Nat) (cp : Nat) (efi : Nat → Nat) (ela : Nat → Nat) (eco : Nat → Nat) (ene : Nat → Nat) (ldp : Nat → Nat) (dp : Nat) (dbl : Int32) (hlv : Int32) (spl : Int32) (mrg : Int32) (lfi : Nat → Nat) (lla : Nat → Nat) (lco : Nat → Nat) (lne : Nat → Nat) (lev : Nat) (ptr : Nat) (llo : Nat) (lhi : Nat) (lsp : Int32) (en : Nat) (vx : Nat) (h1 : 1 ≤ en) (h2 : en ≤ 120) : tq_I (S := Unit) l yX3_replaceValue cX3_replaceValue 4 (some .int) 2 41 0 0 D cy (wC cy a key val ord tk cp efi ela eco ene ldp dp dbl hlv spl mrg lfi lla lco lne lev ptr llo lhi lsp) [.ref (a 1), .int (nI (en)), .int (nI (vx))] (fun r _ => r = (nI (val en))) (fun u => (wC cy a key (va_up val en vx) ord tk cp efi ela eco ene ldp dp dbl hlv spl mrg lfi lla lco lne lev ptr llo lhi lsp)) := by
  refine tq_I.mk (by decide) (Nat.le_of_ble_eq_true rfl) ?_
  intro p e s m args below meth c A C hP hK hD hS hA ls hl
  obtain ⟨hx, hb, hml, hown, hrt, hlk, hT⟩ := id C
  have hl : lv_has ls 4 [(0, .ref (a 1)), (1, .int (nI (en))), (2, .int (nI (vx)))] := hl
  refine lv_aload_n hx hb dX3_replaceValue_0 rfl (lv_at hl 0 rfl) ?_
  refine lv_iload_n hx hb dX3_replaceValue_1 rfl (lv_at hl 1 rfl) ?_
  refine tq_callF (va_runV C.fix (As := [.int (nI (en))]) (rest := []) (c_X3_valueOf l D cy a key val ord tk cp efi ela eco ene ldp dp dbl hlv spl mrg lfi lla lco lne lev ptr llo lhi lsp en h1 h2) (tq_cV (n := 1) C ml_X3_32 im_X3_valueOf se_X3_valueOf ini_X3 cd_X3_valueOf ⟨by decide, by decide, by decide +kernel⟩ ⟨Nat.le_of_ble_eq_true rfl, Nat.le_of_ble_eq_true rfl⟩) ⟨tq_Pf.blind, va_recv hK hP (ci := 3) (q0 := 1) rfl rfl, tq_preF C hK hP⟩ rfl rfl hl.1 rfl (lv_room (Nat.le_of_ble_eq_true rfl)) dX3_replaceValue_2 ⟨Nat.le_of_ble_eq_true rfl, Nat.le_of_ble_eq_true rfl⟩) (fun r2 hr2 => ?_)
  obtain rfl := hr2
  refine lv_istore_n (lv' := [(3, .int (nI (val en))), (0, .ref (a 1)), (1, .int (nI (en))), (2, .int (nI (vx)))]) hx hb dX3_replaceValue_5 rfl hl (by decide) rfl (fun ls hl => ?_)
  refine lv_iload_n hx hb dX3_replaceValue_6 rfl (lv_at hl 2 rfl) ?_
  refine tq_callF (va_runSN C.fix (As := [.int (nI (en))]) (rest := []) (c_X4_isEntry l D cy en h1 h2) (tq_cN (n := 1) C mn_X3_28 sm_X4_isEntry ini_X4 cd_X4_isEntry ⟨by decide, by decide, by decide +kernel⟩ ⟨Nat.le_of_ble_eq_true rfl, Nat.le_of_ble_eq_true rfl⟩) ⟨tq_Pf.blind, tq_preF C hK (hP.sub [] rfl)⟩ rfl rfl hl.1 rfl (lv_room (Nat.le_of_ble_eq_true rfl)) dX3_replaceValue_7 ⟨Nat.le_of_ble_eq_true rfl, Nat.le_of_ble_eq_true rfl⟩) (fun r7 hr7 => ?_)
  obtain rfl := hr7
  refine lv_if_eq (tgt := 20) hx hb dX3_replaceValue_10 (by decide) (fun h9 => absurd h9 (by decide)) (fun _ => ?_)
  refine lv_aload_n hx hb dX3_replaceValue_13 rfl (lv_at hl 1 rfl) ?_
  refine tq_get (C0 := RX3) (T := TX3) (N := 5) (ci := 3) (k := 1) C gX3 inX3 rfl (by decide) rfl fl_X3_15 hK hP 1 rfl rfl dX3_replaceValue_14 ?_
  refine lv_iload_n hx hb dX3_replaceValue_17 rfl (lv_at hl 2 rfl) ?_
  refine lv_iload_n hx hb dX3_replaceValue_18 rfl (lv_at hl 3 rfl) ?_
  refine tq_iast (n := 121) (i := en) (v := vx) (f := val) C hK hP hD hS 5 0 rfl rfl (by omega) (Nat.le_of_ble_eq_true rfl) dX3_replaceValue_19 (fun H locs hP hD hS => ?_)
  have hP : va_P D vwCl (wC cy a key (va_up val en vx) ord tk cp efi ela eco ene ldp dp dbl hlv spl mrg lfi lla lco lne lev ptr llo lhi lsp) H := hP
  have hD : va_D A (wC cy a key (va_up val en vx) ord tk cp efi ela eco ene ldp dp dbl hlv spl mrg lfi lla lco lne lev ptr llo lhi lsp) := hD
  refine lv_iload_n hx hb dX3_replaceValue_20 rfl (lv_at hl 0 rfl) ?_
  exact tq_iret (v := (nI (val en))) C rfl () hP hD hS (rfl) (Nat.le_of_ble_eq_true rfl) (Nat.le_of_ble_eq_true rfl) dX3_replaceValue_21
set_option maxHeartbeats 4000000 in
set_option maxRecDepth 100000 in
theorem c_X3_takeAgain (l : Launch) (D : va_G) (cy : ClassId) (a : Nat → Nat) (key : Nat → Nat) (val : Nat → Nat) (ord : Nat → Nat) (tk : Nat) (cp : Nat) (efi : Nat → Nat) (ela : Nat → Nat) (eco : Nat → Nat) (ene : Nat → Nat) (ldp : Nat → Nat) (dp : Nat) (dbl : Int32) (hlv : Int32) (spl : Int32) (mrg : Int32) (lfi : Nat → Nat) (lla : Nat → Nat) (lco : Nat → Nat) (lne : Nat → Nat) (lev : Nat) (ptr : Nat) (llo : Nat) (lhi : Nat) (lsp : Int32)  (htk : tk < 120) : tq_I (S := Unit) l yX3_takeAgain cX3_takeAgain 2 (some .int) 0 0 0 0 D cy (wC cy a key val ord tk cp efi ela eco ene ldp dp dbl hlv spl mrg lfi lla lco lne lev ptr llo lhi lsp) [.ref (a 1)] (fun r _ => r = (nI (ord tk))) (fun u => (wC cy a key val ord (tk + 1) cp efi ela eco ene ldp dp dbl hlv spl mrg lfi lla lco lne lev ptr llo lhi lsp)) := by
  refine tq_I.mk (by decide) (Nat.le_of_ble_eq_true rfl) ?_
  intro p e s m args below meth c A C hP hK hD hS hA ls hl
  obtain ⟨hx, hb, hml, hown, hrt, hlk, hT⟩ := id C
  have hl : lv_has ls 2 [(0, .ref (a 1))] := hl
  refine lv_aload_n hx hb dX3_takeAgain_0 rfl (lv_at hl 0 rfl) ?_
  refine tq_get (C0 := RX3) (T := TX3) (N := 5) (ci := 3) (k := 3) C gX3 inX3 rfl (by decide) rfl fl_X3_21 hK hP 1 rfl rfl dX3_takeAgain_1 ?_
  refine tq_if_lt (tgt := 16) C (by omega) dX3_takeAgain_4 (by decide) ?_
  refine lv_aload_n hx hb dX3_takeAgain_7 rfl (lv_at hl 0 rfl) ?_
  refine tq_get (C0 := RX3) (T := TX3) (N := 5) (ci := 3) (k := 3) C gX3 inX3 rfl (by decide) rfl fl_X3_21 hK hP 1 rfl rfl dX3_takeAgain_8 ?_
  refine lv_bipush (v := nI 120) hx hb dX3_takeAgain_11 (by decide) ?_
  refine tq_icmp_lt (tgt := 18) C (by omega) (by omega) dX3_takeAgain_13 (by decide) (fun h13 => ?_) (fun h13 => ?_)
  · refine lv_aload_n hx hb dX3_takeAgain_18 rfl (lv_at hl 0 rfl) ?_
    refine tq_get (C0 := RX3) (T := TX3) (N := 5) (ci := 3) (k := 2) C gX3 inX3 rfl (by decide) rfl fl_X3_18 hK hP 1 rfl rfl dX3_takeAgain_19 ?_
    refine lv_aload_n hx hb dX3_takeAgain_22 rfl (lv_at hl 0 rfl) ?_
    refine tq_get (C0 := RX3) (T := TX3) (N := 5) (ci := 3) (k := 3) C gX3 inX3 rfl (by decide) rfl fl_X3_21 hK hP 1 rfl rfl dX3_takeAgain_23 ?_
    refine tq_iald (n := 120) (i := tk) (f := ord) C hK hP 6 0 rfl rfl (by omega) (Nat.le_of_ble_eq_true rfl) dX3_takeAgain_26 ?_
    refine lv_istore_n (lv' := [(1, .int (nI (ord tk))), (0, .ref (a 1))]) hx hb dX3_takeAgain_27 rfl hl (by decide) rfl (fun ls hl => ?_)
    refine lv_aload_n hx hb dX3_takeAgain_28 rfl (lv_at hl 1 rfl) ?_
    refine lv_dup hx hb dX3_takeAgain_29 rfl ?_
    refine tq_get (C0 := RX3) (T := TX3) (N := 5) (ci := 3) (k := 3) C gX3 inX3 rfl (by decide) rfl fl_X3_21 hK hP 1 rfl rfl dX3_takeAgain_30 ?_
    refine lv_iconst (v := nI 1) hx hb dX3_takeAgain_33 (by decide) ?_
    refine tq_iadd C dX3_takeAgain_34 ?_
    refine tq_put (v := .int (nI (tk + 1))) (C0 := RX3) (T := TX3) (N := 5) (ci := 3) (k := 3) (ty := .int) C gX3 inX3 tyX3_ok nmX3 rfl (by decide) rfl fl_X3_21 rfl (by decide +kernel) hK hP hD hS 1 rfl rfl rfl (Nat.le_of_ble_eq_true rfl) dX3_takeAgain_35 (fun H locs hP hD hS => ?_)
    have hP : va_P D vwCl (wC cy a key val ord (tk + 1) cp efi ela eco ene ldp dp dbl hlv spl mrg lfi lla lco lne lev ptr llo lhi lsp) H := hP
    have hD : va_D A (wC cy a key val ord (tk + 1) cp efi ela eco ene ldp dp dbl hlv spl mrg lfi lla lco lne lev ptr llo lhi lsp) := hD
    refine lv_iload_n hx hb dX3_takeAgain_38 rfl (lv_at hl 0 rfl) ?_
    exact tq_iret (v := (nI (ord tk))) C rfl () hP hD hS (rfl) (Nat.le_of_ble_eq_true rfl) (Nat.le_of_ble_eq_true rfl) dX3_takeAgain_39
  · omega
set_option maxHeartbeats 4000000 in
set_option maxRecDepth 100000 in
theorem c_X3_releaseAll (l : Launch) (D : va_G) (cy : ClassId) (a : Nat → Nat) (key : Nat → Nat) (val : Nat → Nat) (ord : Nat → Nat) (tk : Nat) (cp : Nat) (efi : Nat → Nat) (ela : Nat → Nat) (eco : Nat → Nat) (ene : Nat → Nat) (ldp : Nat → Nat) (dp : Nat) (dbl : Int32) (hlv : Int32) (spl : Int32) (mrg : Int32) (lfi : Nat → Nat) (lla : Nat → Nat) (lco : Nat → Nat) (lne : Nat → Nat) (lev : Nat) (ptr : Nat) (llo : Nat) (lhi : Nat) (lsp : Int32)   : tq_V (S := Unit) l yX3_releaseAll cX3_releaseAll 1 0 0 0 0 D cy (wC cy a key val ord tk cp efi ela eco ene ldp dp dbl hlv spl mrg lfi lla lco lne lev ptr llo lhi lsp) [.ref (a 1)] (fun _ => True) (fun u => (wC cy a key val ord 0 cp efi ela eco ene ldp dp dbl hlv spl mrg lfi lla lco lne lev ptr llo lhi lsp)) := by
  refine tq_V.mk (by decide) (Nat.le_of_ble_eq_true rfl) ?_
  intro p e s m args below meth c A C hin hP hK hD hS hA ls hl
  obtain ⟨hx, hb, hml, hown, hrt, hlk, hT⟩ := id C
  have hl : lv_has ls 1 [(0, .ref (a 1))] := hl
  refine lv_aload_n hx hb dX3_releaseAll_0 rfl (lv_at hl 0 rfl) ?_
  refine lv_iconst (v := nI 0) hx hb dX3_releaseAll_1 (by decide) ?_
  refine tq_put (v := .int (nI (0))) (C0 := RX3) (T := TX3) (N := 5) (ci := 3) (k := 3) (ty := .int) C gX3 inX3 tyX3_ok nmX3 rfl (by decide) rfl fl_X3_21 rfl (by decide +kernel) hK hP hD hS 1 rfl rfl rfl (Nat.le_of_ble_eq_true rfl) dX3_releaseAll_2 (fun H locs hP hD hS => ?_)
  have hP : va_P D vwCl (wC cy a key val ord 0 cp efi ela eco ene ldp dp dbl hlv spl mrg lfi lla lco lne lev ptr llo lhi lsp) H := hP
  have hD : va_D A (wC cy a key val ord 0 cp efi ela eco ene ldp dp dbl hlv spl mrg lfi lla lco lne lev ptr llo lhi lsp) := hD
  exact tq_vret C () hP hD hS (trivial) (Nat.le_of_ble_eq_true rfl) (Nat.le_of_ble_eq_true rfl) dX3_releaseAll_5
set_option maxHeartbeats 4000000 in
set_option maxRecDepth 100000 in
theorem c_X3_take (l : Launch) (D : va_G) (cy : ClassId) (a : Nat → Nat) (key : Nat → Nat) (val : Nat → Nat) (ord : Nat → Nat) (tk : Nat) (cp : Nat) (efi : Nat → Nat) (ela : Nat → Nat) (eco : Nat → Nat) (ene : Nat → Nat) (ldp : Nat → Nat) (dp : Nat) (dbl : Int32) (hlv : Int32) (spl : Int32) (mrg : Int32) (lfi : Nat → Nat) (lla : Nat → Nat) (lco : Nat → Nat) (lne : Nat → Nat) (lev : Nat) (ptr : Nat) (llo : Nat) (lhi : Nat) (lsp : Int32) (kx : Nat) (vx : Nat) (hSO : SO key val ord tk) (htk : tk < 120) (hkx : kx < 65536) (hnew : ∀ i, i < tk → key (ord i) ≠ kx) : tq_I (S := (Nat → Nat)) l yX3_take cX3_take 5 (some .int) 2 41 0 0 D cy (wC cy a key val ord tk cp efi ela eco ene ldp dp dbl hlv spl mrg lfi lla lco lne lev ptr llo lhi lsp) [.ref (a 1), .int (nI (kx)), .int (nI (vx))] (fun r u => r = nI (ord tk) ∧ ∃ pl, pl ≤ tk ∧ (∀ i, i < pl → u i = ord i ∧ key (ord i) < kx) ∧ u pl = ord tk ∧ (∀ i, pl ≤ i → i < tk → u (i + 1) = ord i ∧ kx < key (ord i)) ∧ ∀ i, tk < i → u i = ord i) (fun u => (wC cy a (va_up key (ord tk) kx) (va_up val (ord tk) vx) u (tk + 1) cp efi ela eco ene ldp dp dbl hlv spl mrg lfi lla lco lne lev ptr llo lhi lsp)) := by
  refine tq_I.mk (by decide) (Nat.le_of_ble_eq_true rfl) ?_
  intro p e s m args below meth c A C hP hK hD hS hA ls hl
  obtain ⟨hx, hb, hml, hown, hrt, hlk, hT⟩ := id C
  have hl : lv_has ls 5 [(0, .ref (a 1)), (1, .int (nI (kx))), (2, .int (nI (vx)))] := hl
  have hen := hSO.2.1 tk htk
  refine lv_aload_n hx hb dX3_take_0 rfl (lv_at hl 0 rfl) ?_
  refine tq_get (C0 := RX3) (T := TX3) (N := 5) (ci := 3) (k := 3) C gX3 inX3 rfl (by decide) rfl fl_X3_21 hK hP 1 rfl rfl dX3_take_1 ?_
  refine tq_if_lt (tgt := 16) C (by omega) dX3_take_4 (by decide) ?_
  refine lv_aload_n hx hb dX3_take_7 rfl (lv_at hl 0 rfl) ?_
  refine tq_get (C0 := RX3) (T := TX3) (N := 5) (ci := 3) (k := 3) C gX3 inX3 rfl (by decide) rfl fl_X3_21 hK hP 1 rfl rfl dX3_take_8 ?_
  refine lv_bipush (v := nI 120) hx hb dX3_take_11 (by decide) ?_
  refine tq_icmp_lt (tgt := 18) C (by omega) (by omega) dX3_take_13 (by decide) (fun h13 => ?_) (fun h13 => ?_)
  · refine lv_aload_n hx hb dX3_take_18 rfl (lv_at hl 0 rfl) ?_
    refine tq_get (C0 := RX3) (T := TX3) (N := 5) (ci := 3) (k := 2) C gX3 inX3 rfl (by decide) rfl fl_X3_18 hK hP 1 rfl rfl dX3_take_19 ?_
    refine lv_aload_n hx hb dX3_take_22 rfl (lv_at hl 0 rfl) ?_
    refine tq_get (C0 := RX3) (T := TX3) (N := 5) (ci := 3) (k := 3) C gX3 inX3 rfl (by decide) rfl fl_X3_21 hK hP 1 rfl rfl dX3_take_23 ?_
    refine tq_iald (n := 120) (i := tk) (f := ord) C hK hP 6 0 rfl rfl htk (Nat.le_of_ble_eq_true rfl) dX3_take_26 ?_
    refine lv_istore_n (lv' := [(3, .int (nI (ord tk))), (0, .ref (a 1)), (1, .int (nI (kx))), (2, .int (nI (vx)))]) hx hb dX3_take_27 rfl hl (by decide) rfl (fun ls hl => ?_)
    refine lv_iload_n hx hb dX3_take_28 rfl (lv_at hl 0 rfl) ?_
    refine tq_callF (va_runSN C.fix (As := [.int (nI (ord tk))]) (rest := []) (c_X4_isEntry l D cy (ord tk) hen.1 hen.2) (tq_cN (n := 1) C mn_X3_28 sm_X4_isEntry ini_X4 cd_X4_isEntry ⟨by decide, by decide, by decide +kernel⟩ ⟨Nat.le_of_ble_eq_true rfl, Nat.le_of_ble_eq_true rfl⟩) ⟨tq_Pf.blind, tq_preF C hK (hP.sub [] rfl)⟩ rfl rfl hl.1 rfl (lv_room (Nat.le_of_ble_eq_true rfl)) dX3_take_29 ⟨Nat.le_of_ble_eq_true rfl, Nat.le_of_ble_eq_true rfl⟩) (fun r29 hr29 => ?_)
    obtain rfl := hr29
    refine lv_if_ne (tgt := 37) hx hb dX3_take_32 (by decide) (fun _ => ?_) (fun h9 => absurd h9 (by decide))
    refine lv_aload_n hx hb dX3_take_37 rfl (lv_at hl 1 rfl) ?_
    refine tq_get (C0 := RX3) (T := TX3) (N := 5) (ci := 3) (k := 0) C gX3 inX3 rfl (by decide) rfl fl_X3_9 hK hP 1 rfl rfl dX3_take_38 ?_
    refine lv_iload_n hx hb dX3_take_41 rfl (lv_at hl 0 rfl) ?_
    refine lv_iload_n hx hb dX3_take_42 rfl (lv_at hl 2 rfl) ?_
    refine tq_iast (n := 121) (i := (ord tk)) (v := kx) (f := key) C hK hP hD hS 4 0 rfl rfl (Nat.lt_succ_of_le hen.2) (Nat.le_of_ble_eq_true rfl) dX3_take_43 (fun H locs hP hD hS => ?_)
    have hP : va_P D vwCl (wC cy a (va_up key (ord tk) kx) val ord tk cp efi ela eco ene ldp dp dbl hlv spl mrg lfi lla lco lne lev ptr llo lhi lsp) H := hP
    have hD : va_D A (wC cy a (va_up key (ord tk) kx) val ord tk cp efi ela eco ene ldp dp dbl hlv spl mrg lfi lla lco lne lev ptr llo lhi lsp) := hD
    refine lv_aload_n hx hb dX3_take_44 rfl (lv_at hl 1 rfl) ?_
    refine tq_get (C0 := RX3) (T := TX3) (N := 5) (ci := 3) (k := 1) C gX3 inX3 rfl (by decide) rfl fl_X3_15 hK hP 1 rfl rfl dX3_take_45 ?_
    refine lv_iload_n hx hb dX3_take_48 rfl (lv_at hl 0 rfl) ?_
    refine lv_iload_n hx hb dX3_take_49 rfl (lv_at hl 3 rfl) ?_
    refine tq_iast (n := 121) (i := (ord tk)) (v := vx) (f := val) C hK hP hD hS 5 0 rfl rfl (Nat.lt_succ_of_le hen.2) (Nat.le_of_ble_eq_true rfl) dX3_take_50 (fun H locs hP hD hS => ?_)
    have hP : va_P D vwCl (wC cy a (va_up key (ord tk) kx) (va_up val (ord tk) vx) ord tk cp efi ela eco ene ldp dp dbl hlv spl mrg lfi lla lco lne lev ptr llo lhi lsp) H := hP
    have hD : va_D A (wC cy a (va_up key (ord tk) kx) (va_up val (ord tk) vx) ord tk cp efi ela eco ene ldp dp dbl hlv spl mrg lfi lla lco lne lev ptr llo lhi lsp) := hD
    refine lv_aload_n hx hb dX3_take_51 rfl (lv_at hl 1 rfl) ?_
    refine tq_get (C0 := RX3) (T := TX3) (N := 5) (ci := 3) (k := 3) C gX3 inX3 rfl (by decide) rfl fl_X3_21 hK hP 1 rfl rfl dX3_take_52 ?_
    refine lv_istore (lv' := [(4, .int (nI (tk))), (3, .int (nI (ord tk))), (0, .ref (a 1)), (1, .int (nI (kx))), (2, .int (nI (vx)))]) hx hb dX3_take_55 hl (by decide) rfl (fun ls hl => ?_)
    suffices hlp57 : ∀ (n57 : Nat) (pl : Nat) (ord1 : Nat → Nat), pl < n57 → (pl ≤ tk) → (∀ i, i < pl → ord1 i = ord i) → (∀ i, pl ≤ i → i < tk → ord1 (i + 1) = ord i ∧ kx < key (ord i)) → (∀ i, tk < i → ord1 i = ord i) → ∀ (H : Heap) (locs : List Loc), va_P D vwCl (wC cy a (va_up key (ord tk) kx) (va_up val (ord tk) vx) ord1 tk cp efi ela eco ene ldp dp dbl hlv spl mrg lfi lla lco lne lev ptr llo lhi lsp) H → va_D A (wC cy a (va_up key (ord tk) kx) (va_up val (ord tk) vx) ord1 tk cp efi ela eco ene ldp dp dbl hlv spl mrg lfi lla lco lne lev ptr llo lhi lsp) → va_S A s.heap H locs → ∀ ls : Array Slot, lv_has ls 5 [(0, .ref (a 1)), (1, .int (nI (kx))), (2, .int (nI (vx))), (3, .int (nI (ord tk))), (4, .int (nI (pl)))] → W p l e ({ frames := 2, cells := 0, slots := 0, locals := 41 } : Room) s m args below meth c H locs 0 0 (MQ below (va_Qi (S := (Nat → Nat)) (fun r u => r = nI (ord tk) ∧ ∃ pl, pl ≤ tk ∧ (∀ i, i < pl → u i = ord i ∧ key (ord i) < kx) ∧ u pl = ord tk ∧ (∀ i, pl ≤ i → i < tk → u (i + 1) = ord i ∧ kx < key (ord i)) ∧ ∀ i, tk < i → u i = ord i) (tq_B D A (fun u => (wC cy a (va_up key (ord tk) kx) (va_up val (ord tk) vx) u (tk + 1) cp efi ela eco ene ldp dp dbl hlv spl mrg lfi lla lco lne lev ptr llo lhi lsp))) A) args s 0 0 A) (F0 m 57 ls []) from
      hlp57 (tk + 1) tk ord (by omega) (by omega) (fun _ _ => rfl) (fun i h h9 => absurd h (by omega)) (fun _ _ => rfl) _ _ hP hD hS _ (lv_sub hl [2, 3, 4, 1, 0] rfl)
    intro n57
    induction n57 with
    | zero => intro pl ord1 hf; exact absurd hf (Nat.not_lt_zero _)
    | succ n57 ih57 =>
      intro pl ord1 hf57 hpl hlo hhi hup H locs hP hD hS ls hl
      refine lv_iload hx hb dX3_take_57 (lv_at hl 4 rfl) ?_
      refine tq_if_le (tgt := 101) C (by omega) dX3_take_59 (by decide) (fun h59 => ?_) (fun h59 => ?_)
      · refine lv_aload_n hx hb dX3_take_101 rfl (lv_at hl 0 rfl) ?_
        refine tq_get (C0 := RX3) (T := TX3) (N := 5) (ci := 3) (k := 2) C gX3 inX3 rfl (by decide) rfl fl_X3_18 hK hP 1 rfl rfl dX3_take_102 ?_
        refine lv_iload hx hb dX3_take_105 (lv_at hl 4 rfl) ?_
        refine lv_iload_n hx hb dX3_take_107 rfl (lv_at hl 3 rfl) ?_
        refine tq_iast (n := 120) (i := pl) (v := (ord tk)) (f := ord1) C hK hP hD hS 6 0 rfl rfl (by omega) (Nat.le_of_ble_eq_true rfl) dX3_take_108 (fun H locs hP hD hS => ?_)
        have hP : va_P D vwCl (wC cy a (va_up key (ord tk) kx) (va_up val (ord tk) vx) (va_up ord1 pl (ord tk)) tk cp efi ela eco ene ldp dp dbl hlv spl mrg lfi lla lco lne lev ptr llo lhi lsp) H := hP
        have hD : va_D A (wC cy a (va_up key (ord tk) kx) (va_up val (ord tk) vx) (va_up ord1 pl (ord tk)) tk cp efi ela eco ene ldp dp dbl hlv spl mrg lfi lla lco lne lev ptr llo lhi lsp) := hD
        refine lv_aload_n hx hb dX3_take_109 rfl (lv_at hl 0 rfl) ?_
        refine lv_dup hx hb dX3_take_110 rfl ?_
        refine tq_get (C0 := RX3) (T := TX3) (N := 5) (ci := 3) (k := 3) C gX3 inX3 rfl (by decide) rfl fl_X3_21 hK hP 1 rfl rfl dX3_take_111 ?_
        refine lv_iconst (v := nI 1) hx hb dX3_take_114 (by decide) ?_
        refine tq_iadd C dX3_take_115 ?_
        refine tq_put (v := .int (nI (tk + 1))) (C0 := RX3) (T := TX3) (N := 5) (ci := 3) (k := 3) (ty := .int) C gX3 inX3 tyX3_ok nmX3 rfl (by decide) rfl fl_X3_21 rfl (by decide +kernel) hK hP hD hS 1 rfl rfl rfl (Nat.le_of_ble_eq_true rfl) dX3_take_116 (fun H locs hP hD hS => ?_)
        have hP : va_P D vwCl (wC cy a (va_up key (ord tk) kx) (va_up val (ord tk) vx) (va_up ord1 pl (ord tk)) (tk + 1) cp efi ela eco ene ldp dp dbl hlv spl mrg lfi lla lco lne lev ptr llo lhi lsp) H := hP
        have hD : va_D A (wC cy a (va_up key (ord tk) kx) (va_up val (ord tk) vx) (va_up ord1 pl (ord tk)) (tk + 1) cp efi ela eco ene ldp dp dbl hlv spl mrg lfi lla lco lne lev ptr llo lhi lsp) := hD
        refine lv_iload_n hx hb dX3_take_119 rfl (lv_at hl 3 rfl) ?_
        exact tq_iret (v := (nI (ord tk))) C rfl (va_up ord1 pl (ord tk)) hP hD hS (⟨rfl, pl, hpl, fun i hi => ⟨by rw [up_n _ _ (by omega)]; exact hlo i hi, by omega⟩, up_s _ _ _, fun i h9 h8 => by rw [up_n _ _ (by omega)]; exact hhi i h9 h8, fun i hi => by rw [up_n _ _ (by omega)]; exact hup i hi⟩) (Nat.le_of_ble_eq_true rfl) (Nat.le_of_ble_eq_true rfl) dX3_take_120
      · have hq9 : ord1 (pl - 1) = ord (pl - 1) := hlo _ (by omega)
        have hr9 := hSO.2.1 (pl - 1) (by omega)
        have hx9 : ord (pl - 1) ≠ ord tk := fun z => by have := hSO.2.2.1 _ _ (by omega) htk z; omega
        have hk9 := (hSO.2.2.2.2 (ord (pl - 1))).1
        refine lv_aload_n hx hb dX3_take_62 rfl (lv_at hl 0 rfl) ?_
        refine lv_aload_n hx hb dX3_take_63 rfl (lv_at hl 0 rfl) ?_
        refine tq_get (C0 := RX3) (T := TX3) (N := 5) (ci := 3) (k := 2) C gX3 inX3 rfl (by decide) rfl fl_X3_18 hK hP 1 rfl rfl dX3_take_64 ?_
        refine lv_iload hx hb dX3_take_67 (lv_at hl 4 rfl) ?_
        refine lv_iconst (v := nI 1) hx hb dX3_take_69 (by decide) ?_
        refine tq_isub C (by omega) dX3_take_70 ?_
        refine tq_iald (n := 120) (i := (pl - 1)) (f := ord1) C hK hP 6 0 rfl rfl (by omega) (Nat.le_of_ble_eq_true rfl) dX3_take_71 ?_
        refine tq_top (y := nI (ord (pl - 1))) (by rw [hq9]) ?_
        refine tq_callF (va_runV C.fix (As := [.int (nI (ord (pl - 1)))]) (rest := []) (c_X3_keyOf l D cy (a 1) (a 4) (a 5) (a 6) (va_up key (ord tk) kx) tk cp (ord (pl - 1)) hr9.1 hr9.2) (tq_cV (n := 1) C ml_X3_36 im_X3_keyOf se_X3_keyOf ini_X3 cd_X3_keyOf ⟨by decide, by decide, by decide +kernel⟩ ⟨Nat.le_of_ble_eq_true rfl, Nat.le_of_ble_eq_true rfl⟩) ⟨tq_Pf.blind, va_recv hK hP (ci := 3) (q0 := 1) rfl rfl, tq_preF C hK (hP.sub [1, 4] rfl)⟩ rfl rfl hl.1 rfl (lv_room (Nat.le_of_ble_eq_true rfl)) dX3_take_72 ⟨Nat.le_of_ble_eq_true rfl, Nat.le_of_ble_eq_true rfl⟩) (fun r72 hr72 => ?_)
        obtain rfl := hr72
        refine tq_top (y := nI (key (ord (pl - 1)))) (by rw [up_n _ _ hx9]) ?_
        refine lv_iload_n hx hb dX3_take_75 rfl (lv_at hl 1 rfl) ?_
        refine tq_icmp_le (tgt := 101) C (by omega) (by omega) dX3_take_76 (by decide) (fun h76 => ?_) (fun h76 => ?_)
        · refine lv_aload_n hx hb dX3_take_101 rfl (lv_at hl 0 rfl) ?_
          refine tq_get (C0 := RX3) (T := TX3) (N := 5) (ci := 3) (k := 2) C gX3 inX3 rfl (by decide) rfl fl_X3_18 hK hP 1 rfl rfl dX3_take_102 ?_
          refine lv_iload hx hb dX3_take_105 (lv_at hl 4 rfl) ?_
          refine lv_iload_n hx hb dX3_take_107 rfl (lv_at hl 3 rfl) ?_
          refine tq_iast (n := 120) (i := pl) (v := (ord tk)) (f := ord1) C hK hP hD hS 6 0 rfl rfl (by omega) (Nat.le_of_ble_eq_true rfl) dX3_take_108 (fun H locs hP hD hS => ?_)
          have hP : va_P D vwCl (wC cy a (va_up key (ord tk) kx) (va_up val (ord tk) vx) (va_up ord1 pl (ord tk)) tk cp efi ela eco ene ldp dp dbl hlv spl mrg lfi lla lco lne lev ptr llo lhi lsp) H := hP
          have hD : va_D A (wC cy a (va_up key (ord tk) kx) (va_up val (ord tk) vx) (va_up ord1 pl (ord tk)) tk cp efi ela eco ene ldp dp dbl hlv spl mrg lfi lla lco lne lev ptr llo lhi lsp) := hD
          refine lv_aload_n hx hb dX3_take_109 rfl (lv_at hl 0 rfl) ?_
          refine lv_dup hx hb dX3_take_110 rfl ?_
          refine tq_get (C0 := RX3) (T := TX3) (N := 5) (ci := 3) (k := 3) C gX3 inX3 rfl (by decide) rfl fl_X3_21 hK hP 1 rfl rfl dX3_take_111 ?_
          refine lv_iconst (v := nI 1) hx hb dX3_take_114 (by decide) ?_
          refine tq_iadd C dX3_take_115 ?_
          refine tq_put (v := .int (nI (tk + 1))) (C0 := RX3) (T := TX3) (N := 5) (ci := 3) (k := 3) (ty := .int) C gX3 inX3 tyX3_ok nmX3 rfl (by decide) rfl fl_X3_21 rfl (by decide +kernel) hK hP hD hS 1 rfl rfl rfl (Nat.le_of_ble_eq_true rfl) dX3_take_116 (fun H locs hP hD hS => ?_)
          have hP : va_P D vwCl (wC cy a (va_up key (ord tk) kx) (va_up val (ord tk) vx) (va_up ord1 pl (ord tk)) (tk + 1) cp efi ela eco ene ldp dp dbl hlv spl mrg lfi lla lco lne lev ptr llo lhi lsp) H := hP
          have hD : va_D A (wC cy a (va_up key (ord tk) kx) (va_up val (ord tk) vx) (va_up ord1 pl (ord tk)) (tk + 1) cp efi ela eco ene ldp dp dbl hlv spl mrg lfi lla lco lne lev ptr llo lhi lsp) := hD
          refine lv_iload_n hx hb dX3_take_119 rfl (lv_at hl 3 rfl) ?_
          exact tq_iret (v := (nI (ord tk))) C rfl (va_up ord1 pl (ord tk)) hP hD hS (⟨rfl, pl, hpl, fun i hi => ⟨by rw [up_n _ _ (by omega)]; exact hlo i hi, by
              rcases Nat.lt_or_ge i (pl - 1) with q | q
              · exact Nat.lt_of_lt_of_le (hSO.2.2.2.1 i (pl - 1) q (by omega)) h76
              · have := hnew (pl - 1) (by omega); rw [show i = pl - 1 from by omega]; omega⟩, up_s _ _ _, fun i h9 h8 => by rw [up_n _ _ (by omega)]; exact hhi i h9 h8, fun i hi => by rw [up_n _ _ (by omega)]; exact hup i hi⟩) (Nat.le_of_ble_eq_true rfl) (Nat.le_of_ble_eq_true rfl) dX3_take_120
        · refine lv_aload_n hx hb dX3_take_79 rfl (lv_at hl 0 rfl) ?_
          refine tq_get (C0 := RX3) (T := TX3) (N := 5) (ci := 3) (k := 2) C gX3 inX3 rfl (by decide) rfl fl_X3_18 hK hP 1 rfl rfl dX3_take_80 ?_
          refine lv_iload hx hb dX3_take_83 (lv_at hl 4 rfl) ?_
          refine lv_aload_n hx hb dX3_take_85 rfl (lv_at hl 0 rfl) ?_
          refine tq_get (C0 := RX3) (T := TX3) (N := 5) (ci := 3) (k := 2) C gX3 inX3 rfl (by decide) rfl fl_X3_18 hK hP 1 rfl rfl dX3_take_86 ?_
          refine lv_iload hx hb dX3_take_89 (lv_at hl 4 rfl) ?_
          refine lv_iconst (v := nI 1) hx hb dX3_take_91 (by decide) ?_
          refine tq_isub C (by omega) dX3_take_92 ?_
          refine tq_iald (n := 120) (i := (pl - 1)) (f := ord1) C hK hP 6 0 rfl rfl (by omega) (Nat.le_of_ble_eq_true rfl) dX3_take_93 ?_
          refine tq_iast (n := 120) (i := pl) (v := (ord1 (pl - 1))) (f := ord1) C hK hP hD hS 6 0 rfl rfl (by omega) (Nat.le_of_ble_eq_true rfl) dX3_take_94 (fun H locs hP hD hS => ?_)
          have hP : va_P D vwCl (wC cy a (va_up key (ord tk) kx) (va_up val (ord tk) vx) (va_up ord1 pl (ord1 (pl - 1))) tk cp efi ela eco ene ldp dp dbl hlv spl mrg lfi lla lco lne lev ptr llo lhi lsp) H := hP
          have hD : va_D A (wC cy a (va_up key (ord tk) kx) (va_up val (ord tk) vx) (va_up ord1 pl (ord1 (pl - 1))) tk cp efi ela eco ene ldp dp dbl hlv spl mrg lfi lla lco lne lev ptr llo lhi lsp) := hD
          refine lv_iinc (v := (nI (pl - 1))) (lv' := [(4, .int (nI (pl - 1))), (0, .ref (a 1)), (1, .int (nI (kx))), (2, .int (nI (vx))), (3, .int (nI (ord tk)))]) hx hb dX3_take_95 hl (k := 4) rfl (tq_dec (by omega)) (by decide) rfl (fun ls hl => ?_)
          refine lv_goto (tgt := 57) hx hb dX3_take_98 (by decide) ?_
          exact ih57 (pl - 1) (va_up ord1 pl (ord1 (pl - 1))) (by omega) (by omega) (fun i hi => by rw [up_n _ _ (by omega)]; exact hlo i (by omega)) (fun i hi h9 => (by
            by_cases q : i = pl - 1
            · subst q
              rw [show pl - 1 + 1 = pl from by omega, up_s]
              exact ⟨hq9, by omega⟩
            · rw [up_n _ _ (by omega)]; exact hhi i (by omega) h9)) (fun i hi => by rw [up_n _ _ (by omega)]; exact hup i hi) _ _ hP hD hS _ (lv_sub hl [1, 2, 3, 4, 0] rfl)
  · omega
set_option maxHeartbeats 4000000 in
set_option maxRecDepth 100000 in
theorem c_X3_release (l : Launch) (D : va_G) (cy : ClassId) (a : Nat → Nat) (key : Nat → Nat) (val : Nat → Nat) (ord : Nat → Nat) (tk : Nat) (cp : Nat) (efi : Nat → Nat) (ela : Nat → Nat) (eco : Nat → Nat) (ene : Nat → Nat) (ldp : Nat → Nat) (dp : Nat) (dbl : Int32) (hlv : Int32) (spl : Int32) (mrg : Int32) (lfi : Nat → Nat) (lla : Nat → Nat) (lco : Nat → Nat) (lne : Nat → Nat) (lev : Nat) (ptr : Nat) (llo : Nat) (lhi : Nat) (lsp : Int32) (en : Nat) (i0 : Nat) (hSO : SO key val ord tk) (hi0 : i0 < tk) (hen : ord i0 = en) : tq_V (S := (Nat → Nat)) l yX3_release cX3_release 4 0 0 0 0 D cy (wC cy a key val ord tk cp efi ela eco ene ldp dp dbl hlv spl mrg lfi lla lco lne lev ptr llo lhi lsp) [.ref (a 1), .int (nI (en))] (fun u => (∀ i, i < i0 → u i = ord i) ∧ (∀ i, i0 ≤ i → i < tk - 1 → u i = ord (i + 1)) ∧ u (tk - 1) = en ∧ ∀ i, tk ≤ i → u i = ord i) (fun u => (wC cy a key val u (tk - 1) cp efi ela eco ene ldp dp dbl hlv spl mrg lfi lla lco lne lev ptr llo lhi lsp)) := by
  refine tq_V.mk (by decide) (Nat.le_of_ble_eq_true rfl) ?_
  intro p e s m args below meth c A C hin hP hK hD hS hA ls hl
  obtain ⟨hx, hb, hml, hown, hrt, hlk, hT⟩ := id C
  have hl : lv_has ls 4 [(0, .ref (a 1)), (1, .int (nI (en)))] := hl
  have htk9 := hSO.1
  have he9 := hSO.2.1 i0 (by omega)
  refine lv_aload_n hx hb dX3_release_0 rfl (lv_at hl 0 rfl) ?_
  refine tq_get (C0 := RX3) (T := TX3) (N := 5) (ci := 3) (k := 3) C gX3 inX3 rfl (by decide) rfl fl_X3_21 hK hP 1 rfl rfl dX3_release_1 ?_
  refine lv_iconst (v := nI 1) hx hb dX3_release_4 (by decide) ?_
  refine tq_isub C (by omega) dX3_release_5 ?_
  refine lv_istore_n (lv' := [(2, .int (nI (tk - 1))), (0, .ref (a 1)), (1, .int (nI (en)))]) hx hb dX3_release_6 rfl hl (by decide) rfl (fun ls hl => ?_)
  refine lv_iload_n hx hb dX3_release_7 rfl (lv_at hl 0 rfl) ?_
  refine tq_if_lt (tgt := 17) C (by omega) dX3_release_8 (by decide) ?_
  refine lv_iload_n hx hb dX3_release_11 rfl (lv_at hl 0 rfl) ?_
  refine lv_bipush (v := nI 120) hx hb dX3_release_12 (by decide) ?_
  refine tq_icmp_lt (tgt := 18) C (by omega) (by omega) dX3_release_14 (by decide) (fun h14 => ?_) (fun h14 => ?_)
  · refine lv_iconst (v := nI 0) hx hb dX3_release_18 (by decide) ?_
    refine lv_istore_n (lv' := [(3, .int (nI (0))), (2, .int (nI (tk - 1))), (0, .ref (a 1)), (1, .int (nI (en)))]) hx hb dX3_release_19 rfl hl (by decide) rfl (fun ls hl => ?_)
    suffices hlp20 : ∀ (n20 : Nat) (i : Nat), i0 - i < n20 → (i ≤ i0) → ∀ (H : Heap) (locs : List Loc), va_P D vwCl (wC cy a key val ord tk cp efi ela eco ene ldp dp dbl hlv spl mrg lfi lla lco lne lev ptr llo lhi lsp) H → va_D A (wC cy a key val ord tk cp efi ela eco ene ldp dp dbl hlv spl mrg lfi lla lco lne lev ptr llo lhi lsp) → va_S A s.heap H locs → ∀ ls : Array Slot, lv_has ls 4 [(0, .ref (a 1)), (1, .int (nI (en))), (2, .int (nI (tk - 1))), (3, .int (nI (i)))] → W p l e ({ frames := 0, cells := 0, slots := 0, locals := 0 } : Room) s m args below meth c H locs 0 0 (MQ below (va_Qv (S := (Nat → Nat)) (fun u => (∀ i, i < i0 → u i = ord i) ∧ (∀ i, i0 ≤ i → i < tk - 1 → u i = ord (i + 1)) ∧ u (tk - 1) = en ∧ ∀ i, tk ≤ i → u i = ord i) (tq_B D A (fun u => (wC cy a key val u (tk - 1) cp efi ela eco ene ldp dp dbl hlv spl mrg lfi lla lco lne lev ptr llo lhi lsp))) A) args s 0 0 A) (F0 m 20 ls []) from
      hlp20 (i0 + 1) 0 (by omega) (by omega) _ _ hP hD hS _ (lv_sub hl [2, 3, 1, 0] rfl)
    intro n20
    induction n20 with
    | zero => intro i hf; exact absurd hf (Nat.not_lt_zero _)
    | succ n20 ih20 =>
      intro i hf20 hi H locs hP hD hS ls hl
      refine lv_iload_n hx hb dX3_release_20 rfl (lv_at hl 3 rfl) ?_
      refine lv_iload_n hx hb dX3_release_21 rfl (lv_at hl 2 rfl) ?_
      refine tq_icmp_ge (tgt := 41) C (by omega) (by omega) dX3_release_22 (by decide) (fun h22 => ?_) (fun h22 => ?_)
      · have hie : i = i0 := by omega
        suffices hlp41 : ∀ (n41 : Nat) (pp : Nat) (ord1 : Nat → Nat), tk - 1 - pp < n41 → (i0 ≤ pp) → (pp ≤ tk - 1) → (∀ i, i < i0 → ord1 i = ord i) → (∀ i, i0 ≤ i → i < pp → ord1 i = ord (i + 1)) → (∀ i, pp ≤ i → ord1 i = ord i) → ∀ (H : Heap) (locs : List Loc), va_P D vwCl (wC cy a key val ord1 tk cp efi ela eco ene ldp dp dbl hlv spl mrg lfi lla lco lne lev ptr llo lhi lsp) H → va_D A (wC cy a key val ord1 tk cp efi ela eco ene ldp dp dbl hlv spl mrg lfi lla lco lne lev ptr llo lhi lsp) → va_S A s.heap H locs → ∀ ls : Array Slot, lv_has ls 4 [(0, .ref (a 1)), (1, .int (nI (en))), (2, .int (nI (tk - 1))), (3, .int (nI (pp)))] → W p l e ({ frames := 0, cells := 0, slots := 0, locals := 0 } : Room) s m args below meth c H locs 0 0 (MQ below (va_Qv (S := (Nat → Nat)) (fun u => (∀ i, i < i0 → u i = ord i) ∧ (∀ i, i0 ≤ i → i < tk - 1 → u i = ord (i + 1)) ∧ u (tk - 1) = en ∧ ∀ i, tk ≤ i → u i = ord i) (tq_B D A (fun u => (wC cy a key val u (tk - 1) cp efi ela eco ene ldp dp dbl hlv spl mrg lfi lla lco lne lev ptr llo lhi lsp))) A) args s 0 0 A) (F0 m 41 ls []) from
          hlp41 tk i ord (by omega) (by omega) (by omega) (fun _ _ => rfl) (fun i h h9 => absurd h (by omega)) (fun _ _ => rfl) _ _ hP hD hS _ (lv_sub hl [0, 1, 2, 3] rfl)
        intro n41
        induction n41 with
        | zero => intro pp ord1 hf; exact absurd hf (Nat.not_lt_zero _)
        | succ n41 ih41 =>
          intro pp ord1 hf41 hp1 hp2 ho1 ho2 ho3 H locs hP hD hS ls hl
          refine lv_iload_n hx hb dX3_release_41 rfl (lv_at hl 3 rfl) ?_
          refine lv_iload_n hx hb dX3_release_42 rfl (lv_at hl 2 rfl) ?_
          refine tq_icmp_ge (tgt := 66) C (by omega) (by omega) dX3_release_43 (by decide) (fun h43 => ?_) (fun h43 => ?_)
          · refine lv_aload_n hx hb dX3_release_66 rfl (lv_at hl 0 rfl) ?_
            refine tq_get (C0 := RX3) (T := TX3) (N := 5) (ci := 3) (k := 2) C gX3 inX3 rfl (by decide) rfl fl_X3_18 hK hP 1 rfl rfl dX3_release_67 ?_
            refine lv_iload_n hx hb dX3_release_70 rfl (lv_at hl 2 rfl) ?_
            refine lv_iload_n hx hb dX3_release_71 rfl (lv_at hl 1 rfl) ?_
            refine tq_iast (n := 120) (i := (tk - 1)) (v := en) (f := ord1) C hK hP hD hS 6 0 rfl rfl (by omega) (Nat.le_of_ble_eq_true rfl) dX3_release_72 (fun H locs hP hD hS => ?_)
            have hP : va_P D vwCl (wC cy a key val (va_up ord1 (tk - 1) en) tk cp efi ela eco ene ldp dp dbl hlv spl mrg lfi lla lco lne lev ptr llo lhi lsp) H := hP
            have hD : va_D A (wC cy a key val (va_up ord1 (tk - 1) en) tk cp efi ela eco ene ldp dp dbl hlv spl mrg lfi lla lco lne lev ptr llo lhi lsp) := hD
            refine lv_aload_n hx hb dX3_release_73 rfl (lv_at hl 0 rfl) ?_
            refine lv_iload_n hx hb dX3_release_74 rfl (lv_at hl 2 rfl) ?_
            refine tq_put (v := .int (nI (tk - 1))) (C0 := RX3) (T := TX3) (N := 5) (ci := 3) (k := 3) (ty := .int) C gX3 inX3 tyX3_ok nmX3 rfl (by decide) rfl fl_X3_21 rfl (by decide +kernel) hK hP hD hS 1 rfl rfl rfl (Nat.le_of_ble_eq_true rfl) dX3_release_75 (fun H locs hP hD hS => ?_)
            have hP : va_P D vwCl (wC cy a key val (va_up ord1 (tk - 1) en) (tk - 1) cp efi ela eco ene ldp dp dbl hlv spl mrg lfi lla lco lne lev ptr llo lhi lsp) H := hP
            have hD : va_D A (wC cy a key val (va_up ord1 (tk - 1) en) (tk - 1) cp efi ela eco ene ldp dp dbl hlv spl mrg lfi lla lco lne lev ptr llo lhi lsp) := hD
            exact tq_vret C (va_up ord1 (tk - 1) en) hP hD hS (⟨fun i hi => by rw [up_n _ _ (by omega)]; exact ho1 i hi, fun i hi h9 => by rw [up_n _ _ (by omega)]; exact ho2 i hi (by omega), up_s _ _ _, fun i hi => by rw [up_n _ _ (by omega)]; exact ho3 i (by omega)⟩) (Nat.le_of_ble_eq_true rfl) (Nat.le_of_ble_eq_true rfl) dX3_release_78
          · refine lv_aload_n hx hb dX3_release_46 rfl (lv_at hl 0 rfl) ?_
            refine tq_get (C0 := RX3) (T := TX3) (N := 5) (ci := 3) (k := 2) C gX3 inX3 rfl (by decide) rfl fl_X3_18 hK hP 1 rfl rfl dX3_release_47 ?_
            refine lv_iload_n hx hb dX3_release_50 rfl (lv_at hl 3 rfl) ?_
            refine lv_aload_n hx hb dX3_release_51 rfl (lv_at hl 0 rfl) ?_
            refine tq_get (C0 := RX3) (T := TX3) (N := 5) (ci := 3) (k := 2) C gX3 inX3 rfl (by decide) rfl fl_X3_18 hK hP 1 rfl rfl dX3_release_52 ?_
            refine lv_iload_n hx hb dX3_release_55 rfl (lv_at hl 3 rfl) ?_
            refine lv_iconst (v := nI 1) hx hb dX3_release_56 (by decide) ?_
            refine tq_iadd C dX3_release_57 ?_
            refine tq_iald (n := 120) (i := (pp + 1)) (f := ord1) C hK hP 6 0 rfl rfl (by omega) (Nat.le_of_ble_eq_true rfl) dX3_release_58 ?_
            refine tq_iast (n := 120) (i := pp) (v := (ord1 (pp + 1))) (f := ord1) C hK hP hD hS 6 0 rfl rfl (by omega) (Nat.le_of_ble_eq_true rfl) dX3_release_59 (fun H locs hP hD hS => ?_)
            have hP : va_P D vwCl (wC cy a key val (va_up ord1 pp (ord1 (pp + 1))) tk cp efi ela eco ene ldp dp dbl hlv spl mrg lfi lla lco lne lev ptr llo lhi lsp) H := hP
            have hD : va_D A (wC cy a key val (va_up ord1 pp (ord1 (pp + 1))) tk cp efi ela eco ene ldp dp dbl hlv spl mrg lfi lla lco lne lev ptr llo lhi lsp) := hD
            refine lv_iinc (v := (nI (pp + 1))) (lv' := [(3, .int (nI (pp + 1))), (0, .ref (a 1)), (1, .int (nI (en))), (2, .int (nI (tk - 1)))]) hx hb dX3_release_60 hl (k := 3) rfl (tq_inc1 _) (by decide) rfl (fun ls hl => ?_)
            refine lv_goto (tgt := 41) hx hb dX3_release_63 (by decide) ?_
            exact ih41 (pp + 1) (va_up ord1 pp (ord1 (pp + 1))) (by omega) (by omega) (by omega) (fun i hi => by rw [up_n _ _ (by omega)]; exact ho1 i hi) (fun i hi h9 => (by
              by_cases q : i = pp
              · subst q; rw [up_s]; exact ho3 _ (by omega)
              · rw [up_n _ _ q]; exact ho2 i hi (by omega))) (fun i hi => by rw [up_n _ _ (by omega)]; exact ho3 i (by omega)) _ _ hP hD hS _ (lv_sub hl [1, 2, 3, 0] rfl)
      · have ho9 := hSO.2.1 i (by omega)
        refine lv_aload_n hx hb dX3_release_25 rfl (lv_at hl 0 rfl) ?_
        refine tq_get (C0 := RX3) (T := TX3) (N := 5) (ci := 3) (k := 2) C gX3 inX3 rfl (by decide) rfl fl_X3_18 hK hP 1 rfl rfl dX3_release_26 ?_
        refine lv_iload_n hx hb dX3_release_29 rfl (lv_at hl 3 rfl) ?_
        refine tq_iald (n := 120) (i := i) (f := ord) C hK hP 6 0 rfl rfl (by omega) (Nat.le_of_ble_eq_true rfl) dX3_release_30 ?_
        refine lv_iload_n hx hb dX3_release_31 rfl (lv_at hl 1 rfl) ?_
        refine tq_icmp_eq (tgt := 41) C (by omega) (by omega) dX3_release_32 (by decide) (fun h32 => ?_) (fun h32 => ?_)
        · have hie := hSO.2.2.1 i i0 (by omega) (by omega) (h32.trans hen.symm)
          suffices hlp41 : ∀ (n41 : Nat) (pp : Nat) (ord1 : Nat → Nat), tk - 1 - pp < n41 → (i0 ≤ pp) → (pp ≤ tk - 1) → (∀ i, i < i0 → ord1 i = ord i) → (∀ i, i0 ≤ i → i < pp → ord1 i = ord (i + 1)) → (∀ i, pp ≤ i → ord1 i = ord i) → ∀ (H : Heap) (locs : List Loc), va_P D vwCl (wC cy a key val ord1 tk cp efi ela eco ene ldp dp dbl hlv spl mrg lfi lla lco lne lev ptr llo lhi lsp) H → va_D A (wC cy a key val ord1 tk cp efi ela eco ene ldp dp dbl hlv spl mrg lfi lla lco lne lev ptr llo lhi lsp) → va_S A s.heap H locs → ∀ ls : Array Slot, lv_has ls 4 [(0, .ref (a 1)), (1, .int (nI (en))), (2, .int (nI (tk - 1))), (3, .int (nI (pp)))] → W p l e ({ frames := 0, cells := 0, slots := 0, locals := 0 } : Room) s m args below meth c H locs 0 0 (MQ below (va_Qv (S := (Nat → Nat)) (fun u => (∀ i, i < i0 → u i = ord i) ∧ (∀ i, i0 ≤ i → i < tk - 1 → u i = ord (i + 1)) ∧ u (tk - 1) = en ∧ ∀ i, tk ≤ i → u i = ord i) (tq_B D A (fun u => (wC cy a key val u (tk - 1) cp efi ela eco ene ldp dp dbl hlv spl mrg lfi lla lco lne lev ptr llo lhi lsp))) A) args s 0 0 A) (F0 m 41 ls []) from
            hlp41 tk i ord (by omega) (by omega) (by omega) (fun _ _ => rfl) (fun i h h9 => absurd h (by omega)) (fun _ _ => rfl) _ _ hP hD hS _ (lv_sub hl [0, 1, 2, 3] rfl)
          intro n41
          induction n41 with
          | zero => intro pp ord1 hf; exact absurd hf (Nat.not_lt_zero _)
          | succ n41 ih41 =>
            intro pp ord1 hf41 hp1 hp2 ho1 ho2 ho3 H locs hP hD hS ls hl
            refine lv_iload_n hx hb dX3_release_41 rfl (lv_at hl 3 rfl) ?_
            refine lv_iload_n hx hb dX3_release_42 rfl (lv_at hl 2 rfl) ?_
            refine tq_icmp_ge (tgt := 66) C (by omega) (by omega) dX3_release_43 (by decide) (fun h43 => ?_) (fun h43 => ?_)
            · refine lv_aload_n hx hb dX3_release_66 rfl (lv_at hl 0 rfl) ?_
              refine tq_get (C0 := RX3) (T := TX3) (N := 5) (ci := 3) (k := 2) C gX3 inX3 rfl (by decide) rfl fl_X3_18 hK hP 1 rfl rfl dX3_release_67 ?_
              refine lv_iload_n hx hb dX3_release_70 rfl (lv_at hl 2 rfl) ?_
              refine lv_iload_n hx hb dX3_release_71 rfl (lv_at hl 1 rfl) ?_
              refine tq_iast (n := 120) (i := (tk - 1)) (v := en) (f := ord1) C hK hP hD hS 6 0 rfl rfl (by omega) (Nat.le_of_ble_eq_true rfl) dX3_release_72 (fun H locs hP hD hS => ?_)
              have hP : va_P D vwCl (wC cy a key val (va_up ord1 (tk - 1) en) tk cp efi ela eco ene ldp dp dbl hlv spl mrg lfi lla lco lne lev ptr llo lhi lsp) H := hP
              have hD : va_D A (wC cy a key val (va_up ord1 (tk - 1) en) tk cp efi ela eco ene ldp dp dbl hlv spl mrg lfi lla lco lne lev ptr llo lhi lsp) := hD
              refine lv_aload_n hx hb dX3_release_73 rfl (lv_at hl 0 rfl) ?_
              refine lv_iload_n hx hb dX3_release_74 rfl (lv_at hl 2 rfl) ?_
              refine tq_put (v := .int (nI (tk - 1))) (C0 := RX3) (T := TX3) (N := 5) (ci := 3) (k := 3) (ty := .int) C gX3 inX3 tyX3_ok nmX3 rfl (by decide) rfl fl_X3_21 rfl (by decide +kernel) hK hP hD hS 1 rfl rfl rfl (Nat.le_of_ble_eq_true rfl) dX3_release_75 (fun H locs hP hD hS => ?_)
              have hP : va_P D vwCl (wC cy a key val (va_up ord1 (tk - 1) en) (tk - 1) cp efi ela eco ene ldp dp dbl hlv spl mrg lfi lla lco lne lev ptr llo lhi lsp) H := hP
              have hD : va_D A (wC cy a key val (va_up ord1 (tk - 1) en) (tk - 1) cp efi ela eco ene ldp dp dbl hlv spl mrg lfi lla lco lne lev ptr llo lhi lsp) := hD
              exact tq_vret C (va_up ord1 (tk - 1) en) hP hD hS (⟨fun i hi => by rw [up_n _ _ (by omega)]; exact ho1 i hi, fun i hi h9 => by rw [up_n _ _ (by omega)]; exact ho2 i hi (by omega), up_s _ _ _, fun i hi => by rw [up_n _ _ (by omega)]; exact ho3 i (by omega)⟩) (Nat.le_of_ble_eq_true rfl) (Nat.le_of_ble_eq_true rfl) dX3_release_78
            · refine lv_aload_n hx hb dX3_release_46 rfl (lv_at hl 0 rfl) ?_
              refine tq_get (C0 := RX3) (T := TX3) (N := 5) (ci := 3) (k := 2) C gX3 inX3 rfl (by decide) rfl fl_X3_18 hK hP 1 rfl rfl dX3_release_47 ?_
              refine lv_iload_n hx hb dX3_release_50 rfl (lv_at hl 3 rfl) ?_
              refine lv_aload_n hx hb dX3_release_51 rfl (lv_at hl 0 rfl) ?_
              refine tq_get (C0 := RX3) (T := TX3) (N := 5) (ci := 3) (k := 2) C gX3 inX3 rfl (by decide) rfl fl_X3_18 hK hP 1 rfl rfl dX3_release_52 ?_
              refine lv_iload_n hx hb dX3_release_55 rfl (lv_at hl 3 rfl) ?_
              refine lv_iconst (v := nI 1) hx hb dX3_release_56 (by decide) ?_
              refine tq_iadd C dX3_release_57 ?_
              refine tq_iald (n := 120) (i := (pp + 1)) (f := ord1) C hK hP 6 0 rfl rfl (by omega) (Nat.le_of_ble_eq_true rfl) dX3_release_58 ?_
              refine tq_iast (n := 120) (i := pp) (v := (ord1 (pp + 1))) (f := ord1) C hK hP hD hS 6 0 rfl rfl (by omega) (Nat.le_of_ble_eq_true rfl) dX3_release_59 (fun H locs hP hD hS => ?_)
              have hP : va_P D vwCl (wC cy a key val (va_up ord1 pp (ord1 (pp + 1))) tk cp efi ela eco ene ldp dp dbl hlv spl mrg lfi lla lco lne lev ptr llo lhi lsp) H := hP
              have hD : va_D A (wC cy a key val (va_up ord1 pp (ord1 (pp + 1))) tk cp efi ela eco ene ldp dp dbl hlv spl mrg lfi lla lco lne lev ptr llo lhi lsp) := hD
              refine lv_iinc (v := (nI (pp + 1))) (lv' := [(3, .int (nI (pp + 1))), (0, .ref (a 1)), (1, .int (nI (en))), (2, .int (nI (tk - 1)))]) hx hb dX3_release_60 hl (k := 3) rfl (tq_inc1 _) (by decide) rfl (fun ls hl => ?_)
              refine lv_goto (tgt := 41) hx hb dX3_release_63 (by decide) ?_
              exact ih41 (pp + 1) (va_up ord1 pp (ord1 (pp + 1))) (by omega) (by omega) (by omega) (fun i hi => by rw [up_n _ _ (by omega)]; exact ho1 i hi) (fun i hi h9 => (by
                by_cases q : i = pp
                · subst q; rw [up_s]; exact ho3 _ (by omega)
                · rw [up_n _ _ q]; exact ho2 i hi (by omega))) (fun i hi => by rw [up_n _ _ (by omega)]; exact ho3 i (by omega)) _ _ hP hD hS _ (lv_sub hl [1, 2, 3, 0] rfl)
        · have hin9 : i < i0 := by
            rcases Nat.lt_or_ge i i0 with q | q
            · exact q
            · exact absurd (by rw [show i = i0 from by omega]; exact hen) h32
          refine lv_iinc (v := (nI (i + 1))) (lv' := [(3, .int (nI (i + 1))), (0, .ref (a 1)), (1, .int (nI (en))), (2, .int (nI (tk - 1)))]) hx hb dX3_release_35 hl (k := 3) rfl (tq_inc1 _) (by decide) rfl (fun ls hl => ?_)
          refine lv_goto (tgt := 20) hx hb dX3_release_38 (by decide) ?_
          exact ih20 (i + 1) (by omega) (by omega) _ _ hP hD hS _ (lv_sub hl [1, 2, 3, 0] rfl)
  · omega
