
theorem MR.gone {sto vas : Nat → Nat} {sz : Nat} {dpt ext lin mov : Nat → Nat} {S : List (Nat × Nat)} {dep : Nat → Nat} {E L : List Nat} {cap low hig glo mlv mpt : Nat} {mdb mhl msp mmg mls : Int32} {i k : Nat}
    (h : MR sto vas sz dpt ext lin mov S dep E L) (hc : MC cap low hig glo mlv mpt dep) (hi : i < sz) (hk : sto i = k)
    {dpt2 ext2 lin2 mov2 : Nat → Nat} {glo2 mlv2 mpt2 : Nat} {mhl2 mmg2 mls2 : Int32}
    (g1 : ∀ q, q < 256 → dpt2 q = (mS cap (hs k % 256) 9 (dep, E.filter (· != k), mmg)).1 q) (g2 : AL ext2 (mS cap (hs k % 256) 9 (dep, E.filter (· != k), mmg)).2.1) (g3 : (mS cap (hs k % 256) 9 (dep, E.filter (· != k), mmg)).2.1.length = (E.filter (· != k)).length)
    (g4 : ∀ i, ext2 i < 65536) (g5 : ∀ i, mov2 i < 65536) (g6 : glo2 = mx (mS cap (hs k % 256) 9 (dep, E.filter (· != k), mmg)).1 256) (g7 : mhl2 = mhl + nI (glo - mx (mS cap (hs k % 256) 9 (dep, E.filter (· != k), mmg)).1 256)) (g8 : mmg2 = (mS cap (hs k % 256) 9 (dep, E.filter (· != k), mmg)).2.2)
    (g9 : XOK (mS cap (hs k % 256) 9 (dep, E.filter (· != k), mmg)).1 (mx (mS cap (hs k % 256) 9 (dep, E.filter (· != k), mmg)).1 256))
    (y1 : AL lin2 (lB cap low (sz - 1) 241 (L.filter (· != k), mlv, mpt, mls)).1) (y2 : (lB cap low (sz - 1) 241 (L.filter (· != k), mlv, mpt, mls)).1.length = (L.filter (· != k)).length) (y3 : (mlv2, mpt2, mls2) = (lB cap low (sz - 1) 241 (L.filter (· != k), mlv, mpt, mls)).2) (y4 : YOK mlv2 mpt2) (y5 : ∀ i, lin2 i < 65536) :
    ∃ S2 dep2 E2 L2, MR (va_up sto i (sto (sz - 1))) (va_up vas i (vas (sz - 1))) (sz - 1) dpt2 ext2 lin2 mov2 S2 dep2 E2 L2 ∧ MC cap low hig glo2 mlv2 mpt2 dep2 ∧
      mkM S2 cap low hig dep2 glo2 E2 mdb mhl2 msp mmg2 L2 mlv2 mpt2 mls2 = adel (mkM S cap low hig dep glo E mdb mhl msp mmg L mlv mpt mls) k := by
  obtain ⟨hzS, hzE, hzL, hz120, hd, hAE, hAL, hPM, hKE, hKL, hSS, hbd⟩ := h
  have kE := hKE.rem hPM.2 hi hk
  have kL := hKL.rem hPM.2 hi hk
  have hmm : (k, vas i) ∈ S := (hPM.1 _).mpr ⟨i, hi, by rw [hk]⟩
  have hrl := remS_len hSS hmm
  refine ⟨remS S k, (mS cap (hs k % 256) 9 (dep, E.filter (· != k), mmg)).1, (mS cap (hs k % 256) 9 (dep, E.filter (· != k), mmg)).2.1, (lB cap low (sz - 1) 241 (L.filter (· != k), mlv, mpt, mls)).1,
    ⟨by omega, by rw [g3, kE.2]; omega, by rw [y2, kL.2]; omega, by omega, g1, g2, y1, hPM.rem hi hk, ⟨mS_nodup kE.1.1, fun q => mS_mem.trans (kE.1.2 q)⟩, ⟨lB_nodup kL.1.1, fun q => lB_mem.trans (kL.1.2 q)⟩, hSS.filter _, fun j => ⟨bd_up (fun q => (hbd q).1) (hbd _).1 j, bd_up (fun q => (hbd q).2.1) (hbd _).2.1 j, g4 j, y5 j, g5 j⟩⟩, ⟨by rw [g6]; exact g9, y4, hc.2.2⟩, ?_⟩
  unfold mkM adel
  dsimp only
  rw [g6, g7, g8, ← hzS, y3]

theorem dX5_remove_0 : decode cX5_remove 0 = .ok (.aload_n 0, 1) := by decide +kernel
theorem dX5_remove_1 : decode cX5_remove 1 = .ok (.iload_n 1, 1) := by decide +kernel
theorem dX5_remove_2 : decode cX5_remove 2 = .ok (.invokevirtual 126, 3) := by decide +kernel
theorem dX5_remove_5 : decode cX5_remove 5 = .ok (.istore_n 2, 1) := by decide +kernel
theorem dX5_remove_6 : decode cX5_remove 6 = .ok (.aload_n 0, 1) := by decide +kernel
theorem dX5_remove_7 : decode cX5_remove 7 = .ok (.iload_n 1, 1) := by decide +kernel
theorem dX5_remove_8 : decode cX5_remove 8 = .ok (.invokevirtual 132, 3) := by decide +kernel
theorem dX5_remove_11 : decode cX5_remove 11 = .ok (.ifCond .ne 5, 3) := by decide +kernel
theorem dX5_remove_14 : decode cX5_remove 14 = .ok (.iconst 0, 1) := by decide +kernel
theorem dX5_remove_15 : decode cX5_remove 15 = .ok (.ireturn, 1) := by decide +kernel
theorem dX5_remove_16 : decode cX5_remove 16 = .ok (.iload_n 2, 1) := by decide +kernel
theorem dX5_remove_17 : decode cX5_remove 17 = .ok (.iconst (-1), 1) := by decide +kernel
theorem dX5_remove_18 : decode cX5_remove 18 = .ok (.if_icmp .ne 5, 3) := by decide +kernel
theorem dX5_remove_21 : decode cX5_remove 21 = .ok (.iconst (-1), 1) := by decide +kernel
theorem dX5_remove_22 : decode cX5_remove 22 = .ok (.ireturn, 1) := by decide +kernel
theorem dX5_remove_23 : decode cX5_remove 23 = .ok (.aload_n 0, 1) := by decide +kernel
theorem dX5_remove_24 : decode cX5_remove 24 = .ok (.getfield 13, 3) := by decide +kernel
theorem dX5_remove_27 : decode cX5_remove 27 = .ok (.iload_n 2, 1) := by decide +kernel
theorem dX5_remove_28 : decode cX5_remove 28 = .ok (.iaload, 1) := by decide +kernel
theorem dX5_remove_29 : decode cX5_remove 29 = .ok (.istore_n 3, 1) := by decide +kernel
theorem dX5_remove_30 : decode cX5_remove 30 = .ok (.aload_n 0, 1) := by decide +kernel
theorem dX5_remove_31 : decode cX5_remove 31 = .ok (.getfield 29, 3) := by decide +kernel
theorem dX5_remove_34 : decode cX5_remove 34 = .ok (.aload_n 0, 1) := by decide +kernel
theorem dX5_remove_35 : decode cX5_remove 35 = .ok (.getfield 51, 3) := by decide +kernel
theorem dX5_remove_38 : decode cX5_remove 38 = .ok (.iload_n 1, 1) := by decide +kernel
theorem dX5_remove_39 : decode cX5_remove 39 = .ok (.invokestatic 135, 3) := by decide +kernel
theorem dX5_remove_42 : decode cX5_remove 42 = .ok (.aload_n 0, 1) := by decide +kernel
theorem dX5_remove_43 : decode cX5_remove 43 = .ok (.getfield 32, 3) := by decide +kernel
theorem dX5_remove_46 : decode cX5_remove 46 = .ok (.aload_n 0, 1) := by decide +kernel
theorem dX5_remove_47 : decode cX5_remove 47 = .ok (.getfield 51, 3) := by decide +kernel
theorem dX5_remove_50 : decode cX5_remove 50 = .ok (.iload_n 1, 1) := by decide +kernel
theorem dX5_remove_51 : decode cX5_remove 51 = .ok (.invokestatic 135, 3) := by decide +kernel
theorem dX5_remove_54 : decode cX5_remove 54 = .ok (.aload_n 0, 1) := by decide +kernel
theorem dX5_remove_55 : decode cX5_remove 55 = .ok (.dup, 1) := by decide +kernel
theorem dX5_remove_56 : decode cX5_remove 56 = .ok (.getfield 51, 3) := by decide +kernel
theorem dX5_remove_59 : decode cX5_remove 59 = .ok (.iconst 1, 1) := by decide +kernel
theorem dX5_remove_60 : decode cX5_remove 60 = .ok (.isub, 1) := by decide +kernel
theorem dX5_remove_61 : decode cX5_remove 61 = .ok (.putfield 51, 3) := by decide +kernel
theorem dX5_remove_64 : decode cX5_remove 64 = .ok (.aload_n 0, 1) := by decide +kernel
theorem dX5_remove_65 : decode cX5_remove 65 = .ok (.getfield 7, 3) := by decide +kernel
theorem dX5_remove_68 : decode cX5_remove 68 = .ok (.iload_n 2, 1) := by decide +kernel
theorem dX5_remove_69 : decode cX5_remove 69 = .ok (.aload_n 0, 1) := by decide +kernel
theorem dX5_remove_70 : decode cX5_remove 70 = .ok (.getfield 7, 3) := by decide +kernel
theorem dX5_remove_73 : decode cX5_remove 73 = .ok (.aload_n 0, 1) := by decide +kernel
theorem dX5_remove_74 : decode cX5_remove 74 = .ok (.getfield 51, 3) := by decide +kernel
theorem dX5_remove_77 : decode cX5_remove 77 = .ok (.iaload, 1) := by decide +kernel
theorem dX5_remove_78 : decode cX5_remove 78 = .ok (.iastore, 1) := by decide +kernel
theorem dX5_remove_79 : decode cX5_remove 79 = .ok (.aload_n 0, 1) := by decide +kernel
theorem dX5_remove_80 : decode cX5_remove 80 = .ok (.getfield 13, 3) := by decide +kernel
theorem dX5_remove_83 : decode cX5_remove 83 = .ok (.iload_n 2, 1) := by decide +kernel
theorem dX5_remove_84 : decode cX5_remove 84 = .ok (.aload_n 0, 1) := by decide +kernel
theorem dX5_remove_85 : decode cX5_remove 85 = .ok (.getfield 13, 3) := by decide +kernel
theorem dX5_remove_88 : decode cX5_remove 88 = .ok (.aload_n 0, 1) := by decide +kernel
theorem dX5_remove_89 : decode cX5_remove 89 = .ok (.getfield 51, 3) := by decide +kernel
theorem dX5_remove_92 : decode cX5_remove 92 = .ok (.iaload, 1) := by decide +kernel
theorem dX5_remove_93 : decode cX5_remove 93 = .ok (.iastore, 1) := by decide +kernel
theorem dX5_remove_94 : decode cX5_remove 94 = .ok (.aload_n 0, 1) := by decide +kernel
theorem dX5_remove_95 : decode cX5_remove 95 = .ok (.iload_n 1, 1) := by decide +kernel
theorem dX5_remove_96 : decode cX5_remove 96 = .ok (.invokestatic 54, 3) := by decide +kernel
theorem dX5_remove_99 : decode cX5_remove 99 = .ok (.sipush 255, 3) := by decide +kernel
theorem dX5_remove_102 : decode cX5_remove 102 = .ok (.iand, 1) := by decide +kernel
theorem dX5_remove_103 : decode cX5_remove 103 = .ok (.invokevirtual 139, 3) := by decide +kernel
theorem dX5_remove_106 : decode cX5_remove 106 = .ok (.aload_n 0, 1) := by decide +kernel
theorem dX5_remove_107 : decode cX5_remove 107 = .ok (.invokevirtual 142, 3) := by decide +kernel
theorem dX5_remove_110 : decode cX5_remove 110 = .ok (.iload_n 3, 1) := by decide +kernel
theorem dX5_remove_111 : decode cX5_remove 111 = .ok (.ireturn, 1) := by decide +kernel
set_option maxHeartbeats 4000000 in
set_option maxRecDepth 100000 in
theorem c_X5_remove (l : Launch) (D : va_G) (cy : ClassId) (bb : Nat → Nat) (sto : Nat → Nat) (vas : Nat → Nat) (sz : Nat) (cap : Nat) (low : Nat) (hig : Nat) (dpt : Nat → Nat) (glo : Nat) (ext : Nat → Nat) (mdb : Int32) (mhl : Int32) (msp : Int32) (mmg : Int32) (lin : Nat → Nat) (mlv : Nat) (mpt : Nat) (mls : Int32) (mov : Nat → Nat) (thr : Nat) (kx : Int32) (S : List (Nat × Nat)) (dep : Nat → Nat) (E L : List Nat) (hMR : MR sto vas sz dpt ext lin mov S dep E L) (hMC : MC cap low hig glo mlv mpt dep)  : tq_I (S := (Nat → Nat) × (Nat → Nat) × Nat × (Nat → Nat) × (Nat → Nat) × (Nat → Nat) × Nat × Int32 × Int32 × (Nat → Nat) × Nat × Nat × Int32 × Nat) l yX5_remove cX5_remove 4 (some .int) 5 111 0 0 D cy (wM cy bb sto vas sz cap low hig dpt glo ext mdb mhl msp mmg lin mlv mpt mls mov thr) [.ref (bb 0), .int (kx)] (fun r u => (∃ k, k < 65536 ∧ kx = nI k ∧ (((∀ w, (k, w) ∉ S) ∧ r = -1 ∧ (∃ S2 dep2 E2 L2, MR u.1 u.2.1 u.2.2.1 u.2.2.2.1 u.2.2.2.2.1 u.2.2.2.2.2.2.2.2.2.1 u.2.2.2.2.2.1 S2 dep2 E2 L2 ∧ MC cap low hig u.2.2.2.2.2.2.1 u.2.2.2.2.2.2.2.2.2.2.1 u.2.2.2.2.2.2.2.2.2.2.2.1 dep2 ∧ mkM S2 cap low hig dep2 u.2.2.2.2.2.2.1 E2 mdb u.2.2.2.2.2.2.2.1 msp u.2.2.2.2.2.2.2.2.1 L2 u.2.2.2.2.2.2.2.2.2.2.1 u.2.2.2.2.2.2.2.2.2.2.2.1 u.2.2.2.2.2.2.2.2.2.2.2.2.1 = (mkM S cap low hig dep glo E mdb mhl msp mmg L mlv mpt mls)) ∧ u.2.2.2.2.2.2.2.2.2.2.2.2.2 = 0) ∨ (∃ w, (k, w) ∈ S ∧ r = nI w ∧ (∃ S2 dep2 E2 L2, MR u.1 u.2.1 u.2.2.1 u.2.2.2.1 u.2.2.2.2.1 u.2.2.2.2.2.2.2.2.2.1 u.2.2.2.2.2.1 S2 dep2 E2 L2 ∧ MC cap low hig u.2.2.2.2.2.2.1 u.2.2.2.2.2.2.2.2.2.2.1 u.2.2.2.2.2.2.2.2.2.2.2.1 dep2 ∧ mkM S2 cap low hig dep2 u.2.2.2.2.2.2.1 E2 mdb u.2.2.2.2.2.2.2.1 msp u.2.2.2.2.2.2.2.2.1 L2 u.2.2.2.2.2.2.2.2.2.2.1 u.2.2.2.2.2.2.2.2.2.2.2.1 u.2.2.2.2.2.2.2.2.2.2.2.2.1 = adel (mkM S cap low hig dep glo E mdb mhl msp mmg L mlv mpt mls) k) ∧ u.2.2.2.2.2.2.2.2.2.2.2.2.2 = 0))) ∨ (¬ isKey kx ∧ (∃ S2 dep2 E2 L2, MR u.1 u.2.1 u.2.2.1 u.2.2.2.1 u.2.2.2.2.1 u.2.2.2.2.2.2.2.2.2.1 u.2.2.2.2.2.1 S2 dep2 E2 L2 ∧ MC cap low hig u.2.2.2.2.2.2.1 u.2.2.2.2.2.2.2.2.2.2.1 u.2.2.2.2.2.2.2.2.2.2.2.1 dep2 ∧ mkM S2 cap low hig dep2 u.2.2.2.2.2.2.1 E2 mdb u.2.2.2.2.2.2.2.1 msp u.2.2.2.2.2.2.2.2.1 L2 u.2.2.2.2.2.2.2.2.2.2.1 u.2.2.2.2.2.2.2.2.2.2.2.1 u.2.2.2.2.2.2.2.2.2.2.2.2.1 = (mkM S cap low hig dep glo E mdb mhl msp mmg L mlv mpt mls)) ∧ u.2.2.2.2.2.2.2.2.2.2.2.2.2 = 1)) (fun u => (wM cy bb u.1 u.2.1 u.2.2.1 cap low hig u.2.2.2.1 u.2.2.2.2.2.2.1 u.2.2.2.2.1 mdb u.2.2.2.2.2.2.2.1 msp u.2.2.2.2.2.2.2.2.1 u.2.2.2.2.2.2.2.2.2.1 u.2.2.2.2.2.2.2.2.2.2.1 u.2.2.2.2.2.2.2.2.2.2.2.1 u.2.2.2.2.2.2.2.2.2.2.2.2.1 u.2.2.2.2.2.1 u.2.2.2.2.2.2.2.2.2.2.2.2.2)) := by
  refine tq_I.mk (by decide) (Nat.le_of_ble_eq_true rfl) ?_
  intro p e s m args below meth c A C hP hK hD hS hA ls hl
  obtain ⟨hx, hb, hml, hown, hrt, hlk, hT⟩ := id C
  have hl : lv_has ls 4 [(0, .ref (bb 0)), (1, .int (kx))] := hl
  obtain ⟨hzS, hzE, hzL, hz120, hd, hAE, hAL, hPM, hKE, hKL, hSS, hbd⟩ := id hMR
  obtain ⟨hXo, hY, ⟨hcp1, hcp2⟩, ⟨hlo, hh1, hh2⟩⟩ := id hMC
  refine lv_aload_n hx hb dX5_remove_0 rfl (lv_at hl 0 rfl) ?_
  refine lv_iload_n hx hb dX5_remove_1 rfl (lv_at hl 1 rfl) ?_
  refine tq_callF (va_runV C.fix (As := [.int (kx)]) (rest := []) (c_X5_found l D cy bb sto vas sz cap low hig dpt glo ext mdb mhl msp mmg lin mlv mpt mls mov thr kx hz120) (tq_cV (n := 1) C ml_X5_126 im_X5_found se_X5_found ini_X5 cd_X5_found ⟨by decide, by decide, by decide +kernel⟩ ⟨Nat.le_of_ble_eq_true rfl, Nat.le_of_ble_eq_true rfl⟩) ⟨tq_Pf.blind, va_recv hK hP (ci := 5) (q0 := 0) rfl rfl, tq_preF C hK hP⟩ rfl rfl hl.1 rfl (lv_room (Nat.le_of_ble_eq_true rfl)) dX5_remove_2 ⟨Nat.le_of_ble_eq_true rfl, Nat.le_of_ble_eq_true rfl⟩) (fun r2 hr2 => ?_)
  refine lv_istore_n (lv' := [(2, .int (r2)), (0, .ref (bb 0)), (1, .int (kx))]) hx hb dX5_remove_5 rfl hl (by decide) rfl (fun ls hl => ?_)
  refine lv_aload_n hx hb dX5_remove_6 rfl (lv_at hl 1 rfl) ?_
  refine lv_iload_n hx hb dX5_remove_7 rfl (lv_at hl 2 rfl) ?_
  refine tq_callI (W3 := fun u => (wM cy bb sto vas sz cap low hig dpt glo ext mdb mhl msp mmg lin mlv mpt mls mov u)) (wr := []) (va_runV C.fix (As := [.int (kx)]) (rest := []) ((c_X5_isKey l D cy bb sto vas sz cap low hig dpt glo ext mdb mhl msp mmg lin mlv mpt mls mov thr kx) s.heap.size) (tq_cV (n := 1) C ml_X5_132 im_X5_isKey se_X5_isKey ini_X5 cd_X5_isKey ⟨by decide, by decide, by decide +kernel⟩ ⟨Nat.le_of_ble_eq_true rfl, Nat.le_of_ble_eq_true rfl⟩) ⟨tq_Pc.blind, va_recv hK hP (ci := 5) (q0 := 0) rfl rfl, tq_preC C hK hP hD⟩ rfl rfl hl.1 rfl (lv_room (Nat.le_of_ble_eq_true rfl)) dX5_remove_8 ⟨Nat.le_of_ble_eq_true rfl, Nat.le_of_ble_eq_true rfl⟩) hP hD hS hA [0, 1, 2, 3, 4, 5, 6] [] [0, 1, 2, 3, 4, 5, 6] rfl rfl (by decide) (by decide) (by decide) (fun _ => rfl) (fun r8 u8 H locs hr8 hP hD hS => ?_)
  obtain ⟨thr2, rfl⟩ : ∃ z, z = u8 := ⟨_, rfl⟩
  try dsimp only at hr8
  have hP : va_P D vwCl (wM cy bb sto vas sz cap low hig dpt glo ext mdb mhl msp mmg lin mlv mpt mls mov thr2) H := hP
  have hD : va_D A (wM cy bb sto vas sz cap low hig dpt glo ext mdb mhl msp mmg lin mlv mpt mls mov thr2) := hD
  rcases hr8 with ⟨⟨k, hk, hkx⟩, rfl, rfl⟩ | ⟨hn, rfl, rfl⟩
  · rw [hkx] at hl
    refine lv_if_ne (tgt := 16) hx hb dX5_remove_11 (by decide) (fun _ => ?_) (fun h9 => absurd h9 (by decide))
    rw [hkx] at hr2
    rcases hr2 with ⟨i, hi, hki, rfl⟩ | ⟨hno, rfl⟩
    · have hbi := hbd i
      have hsi : sto i = k := ((nI_eq (by omega) (by omega)).mp hki).symm
      have kE := hKE.rem hPM.2 hi hsi
      have kL := hKL.rem hPM.2 hi hsi
      have hxx := mod_lt256 (hs k)
      have hh := hs_lt k
      refine lv_iload_n hx hb dX5_remove_16 rfl (lv_at hl 0 rfl) ?_
      refine lv_iconst (v := (-1)) hx hb dX5_remove_17 (by decide) ?_
      refine lv_icmp_ne (tgt := 23) hx hb dX5_remove_18 (by decide) (fun h18 => ?_) (fun h18 => ?_)
      · refine lv_aload_n hx hb dX5_remove_23 rfl (lv_at hl 1 rfl) ?_
        refine tq_get (C0 := RX5) (T := TX5) (N := 19) (ci := 5) (k := 1) C gX5 inX5 rfl (by decide) rfl fl_X5_13 hK hP 0 rfl rfl dX5_remove_24 ?_
        refine lv_iload_n hx hb dX5_remove_27 rfl (lv_at hl 0 rfl) ?_
        refine tq_iald (n := 120) (i := i) (f := vas) C hK hP 2 0 rfl rfl (by omega) (Nat.le_of_ble_eq_true rfl) dX5_remove_28 ?_
        refine lv_istore_n (lv' := [(3, .int (nI (vas i))), (2, .int (nI (i))), (0, .ref (bb 0)), (1, .int (nI (k)))]) hx hb dX5_remove_29 rfl hl (by decide) rfl (fun ls hl => ?_)
        refine lv_aload_n hx hb dX5_remove_30 rfl (lv_at hl 2 rfl) ?_
        refine tq_get (C0 := RX5) (T := TX5) (N := 19) (ci := 5) (k := 8) C gX5 inX5 rfl (by decide) rfl fl_X5_29 hK hP 0 rfl rfl dX5_remove_31 ?_
        refine lv_aload_n hx hb dX5_remove_34 rfl (lv_at hl 2 rfl) ?_
        refine tq_get (C0 := RX5) (T := TX5) (N := 19) (ci := 5) (k := 2) C gX5 inX5 rfl (by decide) rfl fl_X5_51 hK hP 0 rfl rfl dX5_remove_35 ?_
        refine lv_iload_n hx hb dX5_remove_38 rfl (lv_at hl 3 rfl) ?_
        refine tq_callV (W3 := fun u => (wM cy bb sto vas sz cap low hig dpt glo u mdb mhl msp mmg lin mlv mpt mls mov 0)) (wr := []) (va_runS C.fix (As := [.ref (bb 4), .int (nI (sz)), .int (nI (k))]) (rest := []) ((c_X5_drops_e l D cy bb sto vas sz cap low hig dpt glo ext mdb mhl msp mmg lin mlv mpt mls mov 0 sz k E hAE hzE hz120 (fun j => (hbd j).2.2.1) hk) H.size) (tq_cS (n := 3) C ml_X5_135 sm_X5_drops ini_X5 cd_X5_drops ⟨by decide, by decide, by decide +kernel⟩ ⟨Nat.le_of_ble_eq_true rfl, Nat.le_of_ble_eq_true rfl⟩) ⟨tq_Pc.blind, tq_preC C hK hP hD⟩ rfl rfl hl.1 rfl (lv_room (Nat.le_of_ble_eq_true rfl)) dX5_remove_39 ⟨Nat.le_of_ble_eq_true rfl, Nat.le_of_ble_eq_true rfl⟩) hP hD hS hA [0, 1, 2, 3, 4, 5, 6] [] [0, 1, 2, 3, 4, 5, 6] rfl rfl (by decide) (by decide) (by decide) (fun _ => rfl) (fun u39 H locs hr39 hP hD hS => ?_)
        obtain ⟨ext2, rfl⟩ : ∃ z, z = u39 := ⟨_, rfl⟩
        try dsimp only at hr39
        have hP : va_P D vwCl (wM cy bb sto vas sz cap low hig dpt glo ext2 mdb mhl msp mmg lin mlv mpt mls mov 0) H := hP
        have hD : va_D A (wM cy bb sto vas sz cap low hig dpt glo ext2 mdb mhl msp mmg lin mlv mpt mls mov 0) := hD
        refine lv_aload_n hx hb dX5_remove_42 rfl (lv_at hl 2 rfl) ?_
        refine tq_get (C0 := RX5) (T := TX5) (N := 19) (ci := 5) (k := 13) C gX5 inX5 rfl (by decide) rfl fl_X5_32 hK hP 0 rfl rfl dX5_remove_43 ?_
        refine lv_aload_n hx hb dX5_remove_46 rfl (lv_at hl 2 rfl) ?_
        refine tq_get (C0 := RX5) (T := TX5) (N := 19) (ci := 5) (k := 2) C gX5 inX5 rfl (by decide) rfl fl_X5_51 hK hP 0 rfl rfl dX5_remove_47 ?_
        refine lv_iload_n hx hb dX5_remove_50 rfl (lv_at hl 3 rfl) ?_
        refine tq_callV (W3 := fun u => (wM cy bb sto vas sz cap low hig dpt glo ext2 mdb mhl msp mmg u mlv mpt mls mov 0)) (wr := []) (va_runS C.fix (As := [.ref (bb 5), .int (nI (sz)), .int (nI (k))]) (rest := []) ((c_X5_drops_l l D cy bb sto vas sz cap low hig dpt glo ext2 mdb mhl msp mmg lin mlv mpt mls mov 0 sz k L hAL hzL hz120 (fun j => (hbd j).2.2.2.1) hk) H.size) (tq_cS (n := 3) C ml_X5_135 sm_X5_drops ini_X5 cd_X5_drops ⟨by decide, by decide, by decide +kernel⟩ ⟨Nat.le_of_ble_eq_true rfl, Nat.le_of_ble_eq_true rfl⟩) ⟨tq_Pc.blind, tq_preC C hK hP hD⟩ rfl rfl hl.1 rfl (lv_room (Nat.le_of_ble_eq_true rfl)) dX5_remove_51 ⟨Nat.le_of_ble_eq_true rfl, Nat.le_of_ble_eq_true rfl⟩) hP hD hS hA [0, 1, 2, 3, 4, 5, 6] [] [0, 1, 2, 3, 4, 5, 6] rfl rfl (by decide) (by decide) (by decide) (fun _ => rfl) (fun u51 H locs hr51 hP hD hS => ?_)
        obtain ⟨lin2, rfl⟩ : ∃ z, z = u51 := ⟨_, rfl⟩
        try dsimp only at hr51
        have hP : va_P D vwCl (wM cy bb sto vas sz cap low hig dpt glo ext2 mdb mhl msp mmg lin2 mlv mpt mls mov 0) H := hP
        have hD : va_D A (wM cy bb sto vas sz cap low hig dpt glo ext2 mdb mhl msp mmg lin2 mlv mpt mls mov 0) := hD
        refine lv_aload_n hx hb dX5_remove_54 rfl (lv_at hl 2 rfl) ?_
        refine lv_dup hx hb dX5_remove_55 rfl ?_
        refine tq_get (C0 := RX5) (T := TX5) (N := 19) (ci := 5) (k := 2) C gX5 inX5 rfl (by decide) rfl fl_X5_51 hK hP 0 rfl rfl dX5_remove_56 ?_
        refine lv_iconst (v := nI 1) hx hb dX5_remove_59 (by decide) ?_
        refine tq_isub C (by omega) dX5_remove_60 ?_
        refine tq_put (v := .int (nI (sz - 1))) (C0 := RX5) (T := TX5) (N := 19) (ci := 5) (k := 2) (ty := .int) C gX5 inX5 tyX5_ok nmX5 rfl (by decide) rfl fl_X5_51 rfl (by decide +kernel) hK hP hD hS 0 rfl rfl rfl (Nat.le_of_ble_eq_true rfl) dX5_remove_61 (fun H locs hP hD hS => ?_)
        have hP : va_P D vwCl (wM cy bb sto vas (sz - 1) cap low hig dpt glo ext2 mdb mhl msp mmg lin2 mlv mpt mls mov 0) H := hP
        have hD : va_D A (wM cy bb sto vas (sz - 1) cap low hig dpt glo ext2 mdb mhl msp mmg lin2 mlv mpt mls mov 0) := hD
        refine lv_aload_n hx hb dX5_remove_64 rfl (lv_at hl 2 rfl) ?_
        refine tq_get (C0 := RX5) (T := TX5) (N := 19) (ci := 5) (k := 0) C gX5 inX5 rfl (by decide) rfl fl_X5_7 hK hP 0 rfl rfl dX5_remove_65 ?_
        refine lv_iload_n hx hb dX5_remove_68 rfl (lv_at hl 1 rfl) ?_
        refine lv_aload_n hx hb dX5_remove_69 rfl (lv_at hl 2 rfl) ?_
        refine tq_get (C0 := RX5) (T := TX5) (N := 19) (ci := 5) (k := 0) C gX5 inX5 rfl (by decide) rfl fl_X5_7 hK hP 0 rfl rfl dX5_remove_70 ?_
        refine lv_aload_n hx hb dX5_remove_73 rfl (lv_at hl 2 rfl) ?_
        refine tq_get (C0 := RX5) (T := TX5) (N := 19) (ci := 5) (k := 2) C gX5 inX5 rfl (by decide) rfl fl_X5_51 hK hP 0 rfl rfl dX5_remove_74 ?_
        refine tq_iald (n := 120) (i := (sz - 1)) (f := sto) C hK hP 1 0 rfl rfl (by omega) (Nat.le_of_ble_eq_true rfl) dX5_remove_77 ?_
        refine tq_iast (n := 120) (i := i) (v := (sto (sz - 1))) (f := sto) C hK hP hD hS 1 0 rfl rfl (by omega) (Nat.le_of_ble_eq_true rfl) dX5_remove_78 (fun H locs hP hD hS => ?_)
        have hP : va_P D vwCl (wM cy bb (va_up sto i (sto (sz - 1))) vas (sz - 1) cap low hig dpt glo ext2 mdb mhl msp mmg lin2 mlv mpt mls mov 0) H := hP
        have hD : va_D A (wM cy bb (va_up sto i (sto (sz - 1))) vas (sz - 1) cap low hig dpt glo ext2 mdb mhl msp mmg lin2 mlv mpt mls mov 0) := hD
        refine lv_aload_n hx hb dX5_remove_79 rfl (lv_at hl 2 rfl) ?_
        refine tq_get (C0 := RX5) (T := TX5) (N := 19) (ci := 5) (k := 1) C gX5 inX5 rfl (by decide) rfl fl_X5_13 hK hP 0 rfl rfl dX5_remove_80 ?_
        refine lv_iload_n hx hb dX5_remove_83 rfl (lv_at hl 1 rfl) ?_
        refine lv_aload_n hx hb dX5_remove_84 rfl (lv_at hl 2 rfl) ?_
        refine tq_get (C0 := RX5) (T := TX5) (N := 19) (ci := 5) (k := 1) C gX5 inX5 rfl (by decide) rfl fl_X5_13 hK hP 0 rfl rfl dX5_remove_85 ?_
        refine lv_aload_n hx hb dX5_remove_88 rfl (lv_at hl 2 rfl) ?_
        refine tq_get (C0 := RX5) (T := TX5) (N := 19) (ci := 5) (k := 2) C gX5 inX5 rfl (by decide) rfl fl_X5_51 hK hP 0 rfl rfl dX5_remove_89 ?_
        refine tq_iald (n := 120) (i := (sz - 1)) (f := vas) C hK hP 2 0 rfl rfl (by omega) (Nat.le_of_ble_eq_true rfl) dX5_remove_92 ?_
        refine tq_iast (n := 120) (i := i) (v := (vas (sz - 1))) (f := vas) C hK hP hD hS 2 0 rfl rfl (by omega) (Nat.le_of_ble_eq_true rfl) dX5_remove_93 (fun H locs hP hD hS => ?_)
        have hP : va_P D vwCl (wM cy bb (va_up sto i (sto (sz - 1))) (va_up vas i (vas (sz - 1))) (sz - 1) cap low hig dpt glo ext2 mdb mhl msp mmg lin2 mlv mpt mls mov 0) H := hP
        have hD : va_D A (wM cy bb (va_up sto i (sto (sz - 1))) (va_up vas i (vas (sz - 1))) (sz - 1) cap low hig dpt glo ext2 mdb mhl msp mmg lin2 mlv mpt mls mov 0) := hD
        refine lv_aload_n hx hb dX5_remove_94 rfl (lv_at hl 2 rfl) ?_
        refine lv_iload_n hx hb dX5_remove_95 rfl (lv_at hl 3 rfl) ?_
        refine tq_callF (va_runS C.fix (As := [.int (nI (k))]) (rest := [.ref (bb 0)]) (c_X5_hash l D cy k hk) (tq_cS (n := 1) C ml_X5_54 sm_X5_hash ini_X5 cd_X5_hash ⟨by decide, by decide, by decide +kernel⟩ ⟨Nat.le_of_ble_eq_true rfl, Nat.le_of_ble_eq_true rfl⟩) ⟨tq_Pf.blind, tq_preF C hK (hP.sub [] rfl)⟩ rfl rfl hl.1 rfl (lv_room (Nat.le_of_ble_eq_true rfl)) dX5_remove_96 ⟨Nat.le_of_ble_eq_true rfl, Nat.le_of_ble_eq_true rfl⟩) (fun r96 hr96 => ?_)
        obtain rfl := hr96
        refine lv_sipush (v := nI 255) hx hb dX5_remove_99 (by decide) ?_
        refine tq_iandM (b := 8) C (by omega) (by decide) (by omega) dX5_remove_102 ?_
        refine tq_top (y := nI ((hs k % 256))) (rfl) ?_
        refine tq_callV (W3 := fun u => (wM cy bb (va_up sto i (sto (sz - 1))) (va_up vas i (vas (sz - 1))) (sz - 1) cap low hig u.1 u.2.2.2.1 u.2.1 mdb u.2.2.2.2.1 msp u.2.2.2.2.2 lin2 mlv mpt mls u.2.2.1 0)) (wr := []) (va_runV C.fix (As := [.int (nI ((hs k % 256)))]) (rest := []) ((c_X5_shrinks l D cy bb (va_up sto i (sto (sz - 1))) (va_up vas i (vas (sz - 1))) (sz - 1) cap low hig dpt glo ext2 mdb mhl msp mmg lin2 mlv mpt mls mov 0 (hs k % 256) dep hd hXo (E.filter (· != k)) hr39.1 (by rw [kE.2]; omega) (by omega) hr39.2 (fun j => (hbd j).2.2.2.2) hxx hcp2) H.size) (tq_cV (n := 1) C ml_X5_139 im_X5_shrinks se_X5_shrinks ini_X5 cd_X5_shrinks ⟨by decide, by decide, by decide +kernel⟩ ⟨Nat.le_of_ble_eq_true rfl, Nat.le_of_ble_eq_true rfl⟩) ⟨tq_Pc.blind, va_recv hK hP (ci := 5) (q0 := 0) rfl rfl, tq_preC C hK hP hD⟩ rfl rfl hl.1 rfl (lv_room (Nat.le_of_ble_eq_true rfl)) dX5_remove_103 ⟨Nat.le_of_ble_eq_true rfl, Nat.le_of_ble_eq_true rfl⟩) hP hD hS hA [0, 1, 2, 3, 4, 5, 6] [] [0, 1, 2, 3, 4, 5, 6] rfl rfl (by decide) (by decide) (by decide) (fun _ => rfl) (fun u103 H locs hr103 hP hD hS => ?_)
        obtain ⟨dpt2, ext3, mov2, glo2, mhl2, mmg2⟩ := u103
        try dsimp only at hr103
        have hP : va_P D vwCl (wM cy bb (va_up sto i (sto (sz - 1))) (va_up vas i (vas (sz - 1))) (sz - 1) cap low hig dpt2 glo2 ext3 mdb mhl2 msp mmg2 lin2 mlv mpt mls mov2 0) H := hP
        have hD : va_D A (wM cy bb (va_up sto i (sto (sz - 1))) (va_up vas i (vas (sz - 1))) (sz - 1) cap low hig dpt2 glo2 ext3 mdb mhl2 msp mmg2 lin2 mlv mpt mls mov2 0) := hD
        refine lv_aload_n hx hb dX5_remove_106 rfl (lv_at hl 2 rfl) ?_
        refine tq_callV (W3 := fun u => (wM cy bb (va_up sto i (sto (sz - 1))) (va_up vas i (vas (sz - 1))) (sz - 1) cap low hig dpt2 glo2 ext3 mdb mhl2 msp mmg2 u.1 u.2.2.1 u.2.2.2.1 u.2.2.2.2 u.2.1 0)) (wr := []) (va_runV C.fix (As := []) (rest := []) ((c_X5_linearShrinks l D cy bb (va_up sto i (sto (sz - 1))) (va_up vas i (vas (sz - 1))) (sz - 1) cap low hig dpt2 glo2 ext3 mdb mhl2 msp mmg2 lin2 mlv mpt mls mov2 0 (L.filter (· != k)) hr51.1 (by rw [kL.2]; omega) (by omega) hr51.2 hr103.2.2.2.2.1 hY hcp1 hcp2 hlo) H.size) (tq_cV (n := 0) C ml_X5_142 im_X5_linearShrinks se_X5_linearShrinks ini_X5 cd_X5_linearShrinks ⟨by decide, by decide, by decide +kernel⟩ ⟨Nat.le_of_ble_eq_true rfl, Nat.le_of_ble_eq_true rfl⟩) ⟨tq_Pc.blind, va_recv hK hP (ci := 5) (q0 := 0) rfl rfl, tq_preC C hK hP hD⟩ rfl rfl hl.1 rfl (lv_room (Nat.le_of_ble_eq_true rfl)) dX5_remove_107 ⟨Nat.le_of_ble_eq_true rfl, Nat.le_of_ble_eq_true rfl⟩) hP hD hS hA [0, 1, 2, 3, 4, 5, 6] [] [0, 1, 2, 3, 4, 5, 6] rfl rfl (by decide) (by decide) (by decide) (fun _ => rfl) (fun u107 H locs hr107 hP hD hS => ?_)
        obtain ⟨lin3, mov3, mlv2, mpt2, mls2⟩ := u107
        try dsimp only at hr107
        have hP : va_P D vwCl (wM cy bb (va_up sto i (sto (sz - 1))) (va_up vas i (vas (sz - 1))) (sz - 1) cap low hig dpt2 glo2 ext3 mdb mhl2 msp mmg2 lin3 mlv2 mpt2 mls2 mov3 0) H := hP
        have hD : va_D A (wM cy bb (va_up sto i (sto (sz - 1))) (va_up vas i (vas (sz - 1))) (sz - 1) cap low hig dpt2 glo2 ext3 mdb mhl2 msp mmg2 lin3 mlv2 mpt2 mls2 mov3 0) := hD
        refine lv_iload_n hx hb dX5_remove_110 rfl (lv_at hl 0 rfl) ?_
        exact tq_iret (v := (nI (vas i))) C rfl (va_up sto i (sto (sz - 1)), va_up vas i (vas (sz - 1)), sz - 1, dpt2, ext3, mov3, glo2, mhl2, mmg2, lin3, mlv2, mpt2, mls2, 0) hP hD hS (Or.inl ⟨k, hk, hkx, Or.inr ⟨vas i, (hPM.get hi hsi _).mpr rfl, rfl, hMR.gone hMC hi hsi hr103.1 hr103.2.1 hr103.2.2.1 hr103.2.2.2.1 hr107.2.2.2.2.2 hr103.2.2.2.2.2.1 hr103.2.2.2.2.2.2.1 hr103.2.2.2.2.2.2.2.1 hr103.2.2.2.2.2.2.2.2 hr107.1 hr107.2.1 hr107.2.2.1 hr107.2.2.2.1 hr107.2.2.2.2.1, rfl⟩⟩) (Nat.le_of_ble_eq_true rfl) (Nat.le_of_ble_eq_true rfl) dX5_remove_111
      · exact absurd h18 (tq_neg1 (by omega))
    · have hno2 : ∀ i, i < sz → sto i ≠ k := fun i hi q => hno i hi (by rw [q])
      have hnS := (hPM.no hno2).2
      refine lv_iload_n hx hb dX5_remove_16 rfl (lv_at hl 0 rfl) ?_
      refine lv_iconst (v := (-1)) hx hb dX5_remove_17 (by decide) ?_
      refine lv_icmp_ne (tgt := 23) hx hb dX5_remove_18 (by decide) (fun h18 => ?_) (fun h18 => ?_)
      · exact absurd rfl h18
      · refine lv_iconst (v := (-1)) hx hb dX5_remove_21 (by decide) ?_
        exact tq_iret (v := ((-1))) C rfl (sto, vas, sz, dpt, ext, mov, glo, mhl, mmg, lin, mlv, mpt, mls, 0) hP hD hS (Or.inl ⟨k, hk, hkx, Or.inl ⟨hnS, rfl, ⟨S, dep, E, L, hMR, hMC, rfl⟩, rfl⟩⟩) (Nat.le_of_ble_eq_true rfl) (Nat.le_of_ble_eq_true rfl) dX5_remove_22
  · refine lv_if_ne (tgt := 16) hx hb dX5_remove_11 (by decide) (fun h9 => absurd (by decide : nI 0 = 0) h9) (fun _ => ?_)
    refine lv_iconst (v := nI 0) hx hb dX5_remove_14 (by decide) ?_
    exact tq_iret (v := (nI (0))) C rfl (sto, vas, sz, dpt, ext, mov, glo, mhl, mmg, lin, mlv, mpt, mls, 1) hP hD hS (Or.inr ⟨hn, ⟨S, dep, E, L, hMR, hMC, rfl⟩, rfl⟩) (Nat.le_of_ble_eq_true rfl) (Nat.le_of_ble_eq_true rfl) dX5_remove_15
