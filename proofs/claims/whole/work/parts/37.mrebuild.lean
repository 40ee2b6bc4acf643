
theorem MR.agree {sto vas sto2 vas2 : Nat → Nat} {sz : Nat} {dpt ext lin mov : Nat → Nat} {S : List (Nat × Nat)} {dep : Nat → Nat} {E L : List Nat} (h : MR sto vas sz dpt ext lin mov S dep E L) (h1 : ∀ i, i < sz → sto2 i = sto i) (h2 : ∀ i, i < sz → vas2 i = vas i) (h3 : ∀ i, sto2 i < 65536) (h4 : ∀ i, vas2 i < 1000000) : MR sto2 vas2 sz dpt ext lin mov S dep E L := by
  obtain ⟨hzS, hzE, hzL, hz120, hd, hAE, hAL, hPM, hKE, hKL, hSS, hbd⟩ := h
  refine ⟨hzS, hzE, hzL, hz120, hd, hAE, hAL, ⟨fun q => (hPM.1 q).trans ⟨fun ⟨i, a, b⟩ => ⟨i, a, by rw [h1 i a, h2 i a]; exact b⟩, fun ⟨i, a, b⟩ => ⟨i, a, by rw [← h1 i a, ← h2 i a]; exact b⟩⟩, fun i j a b e => hPM.2 i j a b (by rw [← h1 i a, ← h1 j b]; exact e)⟩,
    ⟨hKE.1, fun q => (hKE.2 q).trans ⟨fun ⟨i, a, b⟩ => ⟨i, a, by rw [h1 i a]; exact b⟩, fun ⟨i, a, b⟩ => ⟨i, a, by rw [← h1 i a]; exact b⟩⟩⟩, ⟨hKL.1, fun q => (hKL.2 q).trans ⟨fun ⟨i, a, b⟩ => ⟨i, a, by rw [h1 i a]; exact b⟩, fun ⟨i, a, b⟩ => ⟨i, a, by rw [← h1 i a]; exact b⟩⟩⟩, hSS, fun i => ⟨h3 i, h4 i, (hbd i).2.2⟩⟩
theorem take_next {S : List (Nat × Nat)} {j : Nat} (h : j < S.length) : S.take (j + 1) = S.take j ++ [S.getD j (0, 0)] := by
  rw [List.take_add_one, List.getD_eq_getElem?_getD, List.getElem?_eq_getElem h]
  rfl
theorem insS_next {S : List (Nat × Nat)} {j k v : Nat} (hS : SS S) (h : j < S.length) (e : (k, v) = S.getD j (0, 0)) : insS (S.take j) k v = S.take (j + 1) := by
  have hlt : ∀ q ∈ S.take j, q.1 < k := fun q hq => by
    obtain ⟨i, hi, rfl⟩ := List.mem_iff_getElem.mp hq
    rw [List.length_take] at hi
    have := List.pairwise_iff_getElem.mp hS i j (by omega) h (by omega)
    rw [List.getElem_take]
    rw [List.getD_eq_getElem?_getD, List.getElem?_eq_getElem h] at e
    have e2 : k = (S[j]).1 := congrArg Prod.fst e
    rw [e2]; exact this
  unfold insS
  rw [List.filter_eq_self.mpr (fun q hq => by simpa using hlt q hq), List.filter_eq_nil_iff.mpr (fun q hq => by have := hlt q hq; simp; omega), take_next h, ← e]
theorem fold_next {S : List (Nat × Nat)} {j k v : Nat} {A : AS} (h : j < S.length) (e : (k, v) = S.getD j (0, 0)) : (S.take (j + 1)).foldl (fun B q => aadd B q.1 q.2) A = aadd ((S.take j).foldl (fun B q => aadd B q.1 q.2) A) k v := by
  rw [take_next h, List.foldl_append, ← e]
  rfl

theorem dX5_rebuild_0 : decode cX5_rebuild 0 = .ok (.aload_n 0, 1) := by decide +kernel
theorem dX5_rebuild_1 : decode cX5_rebuild 1 = .ok (.iload_n 1, 1) := by decide +kernel
theorem dX5_rebuild_2 : decode cX5_rebuild 2 = .ok (.iconst 1, 1) := by decide +kernel
theorem dX5_rebuild_3 : decode cX5_rebuild 3 = .ok (.iconst 5, 1) := by decide +kernel
theorem dX5_rebuild_4 : decode cX5_rebuild 4 = .ok (.invokestatic 42, 3) := by decide +kernel
theorem dX5_rebuild_7 : decode cX5_rebuild 7 = .ok (.invokevirtual 46, 3) := by decide +kernel
theorem dX5_rebuild_10 : decode cX5_rebuild 10 = .ok (.ifCond .ne 5, 3) := by decide +kernel
theorem dX5_rebuild_13 : decode cX5_rebuild 13 = .ok (.iconst 0, 1) := by decide +kernel
theorem dX5_rebuild_14 : decode cX5_rebuild 14 = .ok (.ireturn, 1) := by decide +kernel
theorem dX5_rebuild_15 : decode cX5_rebuild 15 = .ok (.aload_n 0, 1) := by decide +kernel
theorem dX5_rebuild_16 : decode cX5_rebuild 16 = .ok (.getfield 16, 3) := by decide +kernel
theorem dX5_rebuild_19 : decode cX5_rebuild 19 = .ok (.istore_n 2, 1) := by decide +kernel
theorem dX5_rebuild_20 : decode cX5_rebuild 20 = .ok (.aload_n 0, 1) := by decide +kernel
theorem dX5_rebuild_21 : decode cX5_rebuild 21 = .ok (.invokevirtual 151, 3) := by decide +kernel
theorem dX5_rebuild_24 : decode cX5_rebuild 24 = .ok (.istore_n 3, 1) := by decide +kernel
theorem dX5_rebuild_25 : decode cX5_rebuild 25 = .ok (.aload_n 0, 1) := by decide +kernel
theorem dX5_rebuild_26 : decode cX5_rebuild 26 = .ok (.iload_n 1, 1) := by decide +kernel
theorem dX5_rebuild_27 : decode cX5_rebuild 27 = .ok (.putfield 16, 3) := by decide +kernel
theorem dX5_rebuild_30 : decode cX5_rebuild 30 = .ok (.iconst 0, 1) := by decide +kernel
theorem dX5_rebuild_31 : decode cX5_rebuild 31 = .ok (.istore 4, 2) := by decide +kernel
theorem dX5_rebuild_33 : decode cX5_rebuild 33 = .ok (.iload 4, 2) := by decide +kernel
theorem dX5_rebuild_35 : decode cX5_rebuild 35 = .ok (.iload_n 3, 1) := by decide +kernel
theorem dX5_rebuild_36 : decode cX5_rebuild 36 = .ok (.if_icmp .ge 111, 3) := by decide +kernel
theorem dX5_rebuild_39 : decode cX5_rebuild 39 = .ok (.iload 4, 2) := by decide +kernel
theorem dX5_rebuild_41 : decode cX5_rebuild 41 = .ok (.istore 5, 2) := by decide +kernel
theorem dX5_rebuild_43 : decode cX5_rebuild 43 = .ok (.iload 4, 2) := by decide +kernel
theorem dX5_rebuild_45 : decode cX5_rebuild 45 = .ok (.iconst 1, 1) := by decide +kernel
theorem dX5_rebuild_46 : decode cX5_rebuild 46 = .ok (.iadd, 1) := by decide +kernel
theorem dX5_rebuild_47 : decode cX5_rebuild 47 = .ok (.istore 6, 2) := by decide +kernel
theorem dX5_rebuild_49 : decode cX5_rebuild 49 = .ok (.iload 6, 2) := by decide +kernel
theorem dX5_rebuild_51 : decode cX5_rebuild 51 = .ok (.iload_n 3, 1) := by decide +kernel
theorem dX5_rebuild_52 : decode cX5_rebuild 52 = .ok (.if_icmp .ge 35, 3) := by decide +kernel
theorem dX5_rebuild_55 : decode cX5_rebuild 55 = .ok (.aload_n 0, 1) := by decide +kernel
theorem dX5_rebuild_56 : decode cX5_rebuild 56 = .ok (.getfield 7, 3) := by decide +kernel
theorem dX5_rebuild_59 : decode cX5_rebuild 59 = .ok (.iload 6, 2) := by decide +kernel
theorem dX5_rebuild_61 : decode cX5_rebuild 61 = .ok (.iaload, 1) := by decide +kernel
theorem dX5_rebuild_62 : decode cX5_rebuild 62 = .ok (.aload_n 0, 1) := by decide +kernel
theorem dX5_rebuild_63 : decode cX5_rebuild 63 = .ok (.getfield 7, 3) := by decide +kernel
theorem dX5_rebuild_66 : decode cX5_rebuild 66 = .ok (.iload 5, 2) := by decide +kernel
theorem dX5_rebuild_68 : decode cX5_rebuild 68 = .ok (.iaload, 1) := by decide +kernel
theorem dX5_rebuild_69 : decode cX5_rebuild 69 = .ok (.if_icmp .ge 8, 3) := by decide +kernel
theorem dX5_rebuild_72 : decode cX5_rebuild 72 = .ok (.iload 6, 2) := by decide +kernel
theorem dX5_rebuild_74 : decode cX5_rebuild 74 = .ok (.goto 5, 3) := by decide +kernel
theorem dX5_rebuild_77 : decode cX5_rebuild 77 = .ok (.iload 5, 2) := by decide +kernel
theorem dX5_rebuild_79 : decode cX5_rebuild 79 = .ok (.istore 5, 2) := by decide +kernel
theorem dX5_rebuild_81 : decode cX5_rebuild 81 = .ok (.iinc 6 1, 3) := by decide +kernel
theorem dX5_rebuild_84 : decode cX5_rebuild 84 = .ok (.goto (-35), 3) := by decide +kernel
theorem dX5_rebuild_87 : decode cX5_rebuild 87 = .ok (.aload_n 0, 1) := by decide +kernel
theorem dX5_rebuild_88 : decode cX5_rebuild 88 = .ok (.getfield 7, 3) := by decide +kernel
theorem dX5_rebuild_91 : decode cX5_rebuild 91 = .ok (.iload 5, 2) := by decide +kernel
theorem dX5_rebuild_93 : decode cX5_rebuild 93 = .ok (.iaload, 1) := by decide +kernel
theorem dX5_rebuild_94 : decode cX5_rebuild 94 = .ok (.istore 6, 2) := by decide +kernel
theorem dX5_rebuild_96 : decode cX5_rebuild 96 = .ok (.aload_n 0, 1) := by decide +kernel
theorem dX5_rebuild_97 : decode cX5_rebuild 97 = .ok (.getfield 13, 3) := by decide +kernel
theorem dX5_rebuild_100 : decode cX5_rebuild 100 = .ok (.iload 5, 2) := by decide +kernel
theorem dX5_rebuild_102 : decode cX5_rebuild 102 = .ok (.iaload, 1) := by decide +kernel
theorem dX5_rebuild_103 : decode cX5_rebuild 103 = .ok (.istore 7, 2) := by decide +kernel
theorem dX5_rebuild_105 : decode cX5_rebuild 105 = .ok (.aload_n 0, 1) := by decide +kernel
theorem dX5_rebuild_106 : decode cX5_rebuild 106 = .ok (.getfield 7, 3) := by decide +kernel
theorem dX5_rebuild_109 : decode cX5_rebuild 109 = .ok (.iload 5, 2) := by decide +kernel
theorem dX5_rebuild_111 : decode cX5_rebuild 111 = .ok (.aload_n 0, 1) := by decide +kernel
theorem dX5_rebuild_112 : decode cX5_rebuild 112 = .ok (.getfield 7, 3) := by decide +kernel
theorem dX5_rebuild_115 : decode cX5_rebuild 115 = .ok (.iload 4, 2) := by decide +kernel
theorem dX5_rebuild_117 : decode cX5_rebuild 117 = .ok (.iaload, 1) := by decide +kernel
theorem dX5_rebuild_118 : decode cX5_rebuild 118 = .ok (.iastore, 1) := by decide +kernel
theorem dX5_rebuild_119 : decode cX5_rebuild 119 = .ok (.aload_n 0, 1) := by decide +kernel
theorem dX5_rebuild_120 : decode cX5_rebuild 120 = .ok (.getfield 13, 3) := by decide +kernel
theorem dX5_rebuild_123 : decode cX5_rebuild 123 = .ok (.iload 5, 2) := by decide +kernel
theorem dX5_rebuild_125 : decode cX5_rebuild 125 = .ok (.aload_n 0, 1) := by decide +kernel
theorem dX5_rebuild_126 : decode cX5_rebuild 126 = .ok (.getfield 13, 3) := by decide +kernel
theorem dX5_rebuild_129 : decode cX5_rebuild 129 = .ok (.iload 4, 2) := by decide +kernel
theorem dX5_rebuild_131 : decode cX5_rebuild 131 = .ok (.iaload, 1) := by decide +kernel
theorem dX5_rebuild_132 : decode cX5_rebuild 132 = .ok (.iastore, 1) := by decide +kernel
theorem dX5_rebuild_133 : decode cX5_rebuild 133 = .ok (.aload_n 0, 1) := by decide +kernel
theorem dX5_rebuild_134 : decode cX5_rebuild 134 = .ok (.iload 6, 2) := by decide +kernel
theorem dX5_rebuild_136 : decode cX5_rebuild 136 = .ok (.iload 7, 2) := by decide +kernel
theorem dX5_rebuild_138 : decode cX5_rebuild 138 = .ok (.invokevirtual 129, 3) := by decide +kernel
theorem dX5_rebuild_141 : decode cX5_rebuild 141 = .ok (.iinc 4 1, 3) := by decide +kernel
theorem dX5_rebuild_144 : decode cX5_rebuild 144 = .ok (.goto (-111), 3) := by decide +kernel
theorem dX5_rebuild_147 : decode cX5_rebuild 147 = .ok (.iload_n 2, 1) := by decide +kernel
theorem dX5_rebuild_148 : decode cX5_rebuild 148 = .ok (.ireturn, 1) := by decide +kernel
set_option maxHeartbeats 4000000 in
set_option maxRecDepth 100000 in
theorem c_X5_rebuild (l : Launch) (D : va_G) (cy : ClassId) (bb : Nat → Nat) (sto : Nat → Nat) (vas : Nat → Nat) (sz : Nat) (cap : Nat) (low : Nat) (hig : Nat) (dpt : Nat → Nat) (glo : Nat) (ext : Nat → Nat) (mdb : Int32) (mhl : Int32) (msp : Int32) (mmg : Int32) (lin : Nat → Nat) (mlv : Nat) (mpt : Nat) (mls : Int32) (mov : Nat → Nat) (thr : Nat) (cx : Int32) (S : List (Nat × Nat)) (dep : Nat → Nat) (E L : List Nat) (hMR : MR sto vas sz dpt ext lin mov S dep E L) (hMC : MC cap low hig glo mlv mpt dep)  : tq_I (S := (Nat → Nat) × (Nat → Nat) × Nat × Nat × (Nat → Nat) × Nat × (Nat → Nat) × Int32 × Int32 × (Nat → Nat) × Nat × Nat × Int32 × Nat) l yX5_rebuild cX5_rebuild 8 (some .int) 5 112 0 0 D cy (wM cy bb sto vas sz cap low hig dpt glo ext mdb mhl msp mmg lin mlv mpt mls mov thr) [.ref (bb 0), .int (cx)] (fun r u => (∃ cq : Nat, 1 ≤ cq ∧ cq ≤ 5 ∧ cx = nI cq ∧ r = nI cap ∧ (∃ S2 dep2 E2 L2, MR u.1 u.2.1 u.2.2.1 u.2.2.2.2.1 u.2.2.2.2.2.2.1 u.2.2.2.2.2.2.2.2.2.1 mov S2 dep2 E2 L2 ∧ MC u.2.2.2.1 low hig u.2.2.2.2.2.1 u.2.2.2.2.2.2.2.2.2.2.1 u.2.2.2.2.2.2.2.2.2.2.2.1 dep2 ∧ mkM S2 u.2.2.2.1 low hig dep2 u.2.2.2.2.2.1 E2 u.2.2.2.2.2.2.2.1 mhl u.2.2.2.2.2.2.2.2.1 mmg L2 u.2.2.2.2.2.2.2.2.2.2.1 u.2.2.2.2.2.2.2.2.2.2.2.1 u.2.2.2.2.2.2.2.2.2.2.2.2.1 = areb (mkM S cap low hig dep glo E mdb mhl msp mmg L mlv mpt mls) cq) ∧ u.2.2.2.2.2.2.2.2.2.2.2.2.2 = 0) ∨ (¬ (∃ cq : Nat, 1 ≤ cq ∧ cq ≤ 5 ∧ cx = nI cq) ∧ (∃ S2 dep2 E2 L2, MR u.1 u.2.1 u.2.2.1 u.2.2.2.2.1 u.2.2.2.2.2.2.1 u.2.2.2.2.2.2.2.2.2.1 mov S2 dep2 E2 L2 ∧ MC u.2.2.2.1 low hig u.2.2.2.2.2.1 u.2.2.2.2.2.2.2.2.2.2.1 u.2.2.2.2.2.2.2.2.2.2.2.1 dep2 ∧ mkM S2 u.2.2.2.1 low hig dep2 u.2.2.2.2.2.1 E2 u.2.2.2.2.2.2.2.1 mhl u.2.2.2.2.2.2.2.2.1 mmg L2 u.2.2.2.2.2.2.2.2.2.2.1 u.2.2.2.2.2.2.2.2.2.2.2.1 u.2.2.2.2.2.2.2.2.2.2.2.2.1 = (mkM S cap low hig dep glo E mdb mhl msp mmg L mlv mpt mls)) ∧ u.2.2.2.2.2.2.2.2.2.2.2.2.2 = 1)) (fun u => (wM cy bb u.1 u.2.1 u.2.2.1 u.2.2.2.1 low hig u.2.2.2.2.1 u.2.2.2.2.2.1 u.2.2.2.2.2.2.1 u.2.2.2.2.2.2.2.1 mhl u.2.2.2.2.2.2.2.2.1 mmg u.2.2.2.2.2.2.2.2.2.1 u.2.2.2.2.2.2.2.2.2.2.1 u.2.2.2.2.2.2.2.2.2.2.2.1 u.2.2.2.2.2.2.2.2.2.2.2.2.1 mov u.2.2.2.2.2.2.2.2.2.2.2.2.2)) := by
  refine tq_I.mk (by decide) (Nat.le_of_ble_eq_true rfl) ?_
  intro p e s m args below meth c A C hP hK hD hS hA ls hl
  obtain ⟨hx, hb, hml, hown, hrt, hlk, hT⟩ := id C
  have hl : lv_has ls 8 [(0, .ref (bb 0)), (1, .int (cx))] := hl
  obtain ⟨hzS, hzE, hzL, hz120, hd, hAE, hAL, hPM, hKE, hKL, hSS, hbd⟩ := id hMR
  obtain ⟨hXo, hY, ⟨hcp1, hcp2⟩, ⟨hlo, hh1, hh2⟩⟩ := id hMC
  refine lv_aload_n hx hb dX5_rebuild_0 rfl (lv_at hl 0 rfl) ?_
  refine lv_iload_n hx hb dX5_rebuild_1 rfl (lv_at hl 1 rfl) ?_
  refine lv_iconst (v := nI 1) hx hb dX5_rebuild_2 (by decide) ?_
  refine lv_iconst (v := nI 5) hx hb dX5_rebuild_3 (by decide) ?_
  refine tq_callF (va_runS C.fix (As := [.int (cx), .int (nI 1), .int (nI 5)]) (rest := [.ref (bb 0)]) (c_X5_in l D cy cx (nI 1) (nI 5)) (tq_cS (n := 3) C ml_X5_42 sm_X5_in ini_X5 cd_X5_in ⟨by decide, by decide, by decide +kernel⟩ ⟨Nat.le_of_ble_eq_true rfl, Nat.le_of_ble_eq_true rfl⟩) ⟨tq_Pf.blind, tq_preF C hK (hP.sub [] rfl)⟩ rfl rfl hl.1 rfl (lv_room (Nat.le_of_ble_eq_true rfl)) dX5_rebuild_4 ⟨Nat.le_of_ble_eq_true rfl, Nat.le_of_ble_eq_true rfl⟩) (fun r4 hr4 => ?_)
  rcases hr4 with ⟨hr4, rfl⟩ | ⟨hr4, rfl⟩
  · obtain ⟨cq, hc2, hcx⟩ := tq_rng (x := cx) (M := 5) (by decide) (Int32.not_lt.mpr (Int32.le_trans (by decide) hr4.1)) hr4.2
    have hc1 : 1 ≤ cq := Nat.le_of_not_lt (fun q => absurd hr4.1 (Int32.not_le.mpr (by rw [hcx]; exact nI_lt q (by decide))))
    rw [hcx] at hl
    refine tq_callI (W3 := fun u => (wM cy bb sto vas sz cap low hig dpt glo ext mdb mhl msp mmg lin mlv mpt mls mov 0)) (wr := []) (va_runV C.fix (As := [.int (nI (1))]) (rest := []) ((c_X5_asked_1 l D cy bb sto vas sz cap low hig dpt glo ext mdb mhl msp mmg lin mlv mpt mls mov thr 1 rfl) s.heap.size) (tq_cV (n := 1) C ml_X5_46 im_X5_asked se_X5_asked ini_X5 cd_X5_asked ⟨by decide, by decide, by decide +kernel⟩ ⟨Nat.le_of_ble_eq_true rfl, Nat.le_of_ble_eq_true rfl⟩) ⟨tq_Pc.blind, va_recv hK hP (ci := 5) (q0 := 0) rfl rfl, tq_preC C hK hP hD⟩ rfl rfl hl.1 rfl (lv_room (Nat.le_of_ble_eq_true rfl)) dX5_rebuild_7 ⟨Nat.le_of_ble_eq_true rfl, Nat.le_of_ble_eq_true rfl⟩) hP hD hS hA [0, 1, 2, 3, 4, 5, 6] [] [0, 1, 2, 3, 4, 5, 6] rfl rfl (by decide) (by decide) (by decide) (fun _ => rfl) (fun r7 u7 H locs hr7 hP hD hS => ?_)
    have hP : va_P D vwCl (wM cy bb sto vas sz cap low hig dpt glo ext mdb mhl msp mmg lin mlv mpt mls mov 0) H := hP
    have hD : va_D A (wM cy bb sto vas sz cap low hig dpt glo ext mdb mhl msp mmg lin mlv mpt mls mov 0) := hD
    obtain rfl := hr7.symm
    refine lv_if_ne (tgt := 15) hx hb dX5_rebuild_10 (by decide) (fun _ => ?_) (fun h9 => absurd h9 (by decide))
    refine lv_aload_n hx hb dX5_rebuild_15 rfl (lv_at hl 0 rfl) ?_
    refine tq_get (C0 := RX5) (T := TX5) (N := 19) (ci := 5) (k := 3) C gX5 inX5 rfl (by decide) rfl fl_X5_16 hK hP 0 rfl rfl dX5_rebuild_16 ?_
    refine lv_istore_n (lv' := [(2, .int (nI (cap))), (0, .ref (bb 0)), (1, .int (nI (cq)))]) hx hb dX5_rebuild_19 rfl hl (by decide) rfl (fun ls hl => ?_)
    refine lv_aload_n hx hb dX5_rebuild_20 rfl (lv_at hl 1 rfl) ?_
    refine tq_callI (W3 := fun u => (wM cy bb sto vas 0 cap low hig u 0 ext mdb mhl msp mmg lin 0 0 mls mov 0)) (wr := []) (va_runV C.fix (As := []) (rest := []) ((c_X5_empties l D cy bb sto vas sz cap low hig dpt glo ext mdb mhl msp mmg lin mlv mpt mls mov 0) H.size) (tq_cV (n := 0) C ml_X5_151 im_X5_empties se_X5_empties ini_X5 cd_X5_empties ⟨by decide, by decide, by decide +kernel⟩ ⟨Nat.le_of_ble_eq_true rfl, Nat.le_of_ble_eq_true rfl⟩) ⟨tq_Pc.blind, va_recv hK hP (ci := 5) (q0 := 0) rfl rfl, tq_preC C hK hP hD⟩ rfl rfl hl.1 rfl (lv_room (Nat.le_of_ble_eq_true rfl)) dX5_rebuild_21 ⟨Nat.le_of_ble_eq_true rfl, Nat.le_of_ble_eq_true rfl⟩) hP hD hS hA [0, 1, 2, 3, 4, 5, 6] [] [0, 1, 2, 3, 4, 5, 6] rfl rfl (by decide) (by decide) (by decide) (fun _ => rfl) (fun r21 u21 H locs hr21 hP hD hS => ?_)
    obtain ⟨dpt2, rfl⟩ : ∃ z, z = u21 := ⟨_, rfl⟩
    try dsimp only at hr21
    have hP : va_P D vwCl (wM cy bb sto vas 0 cap low hig dpt2 0 ext mdb mhl msp mmg lin 0 0 mls mov 0) H := hP
    have hD : va_D A (wM cy bb sto vas 0 cap low hig dpt2 0 ext mdb mhl msp mmg lin 0 0 mls mov 0) := hD
    refine tq_top (y := nI (sz)) (by rw [hr21.1]) ?_
    refine lv_istore_n (lv' := [(3, .int (nI (sz))), (2, .int (nI (cap))), (0, .ref (bb 0)), (1, .int (nI (cq)))]) hx hb dX5_rebuild_24 rfl hl (by decide) rfl (fun ls hl => ?_)
    refine lv_aload_n hx hb dX5_rebuild_25 rfl (lv_at hl 2 rfl) ?_
    refine lv_iload_n hx hb dX5_rebuild_26 rfl (lv_at hl 3 rfl) ?_
    refine tq_put (v := .int (nI (cq))) (C0 := RX5) (T := TX5) (N := 19) (ci := 5) (k := 3) (ty := .int) C gX5 inX5 tyX5_ok nmX5 rfl (by decide) rfl fl_X5_16 rfl (by decide +kernel) hK hP hD hS 0 rfl rfl rfl (Nat.le_of_ble_eq_true rfl) dX5_rebuild_27 (fun H locs hP hD hS => ?_)
    have hP : va_P D vwCl (wM cy bb sto vas 0 cq low hig dpt2 0 ext mdb mhl msp mmg lin 0 0 mls mov 0) H := hP
    have hD : va_D A (wM cy bb sto vas 0 cq low hig dpt2 0 ext mdb mhl msp mmg lin 0 0 mls mov 0) := hD
    refine lv_iconst (v := nI 0) hx hb dX5_rebuild_30 (by decide) ?_
    refine lv_istore (lv' := [(4, .int (nI (0))), (3, .int (nI (sz))), (2, .int (nI (cap))), (0, .ref (bb 0)), (1, .int (nI (cq)))]) hx hb dX5_rebuild_31 hl (by decide) rfl (fun ls hl => ?_)
    suffices hlp33 : ∀ (n33 : Nat) (j : Nat) (sto1 : Nat → Nat) (vas1 : Nat → Nat) (dpt1 : Nat → Nat) (glo1 : Nat) (ext1 : Nat → Nat) (mdb1 : Int32) (msp1 : Int32) (lin1 : Nat → Nat) (mlv1 : Nat) (mpt1 : Nat) (mls1 : Int32) (dep1 : Nat → Nat) (E1 : List Nat) (L1 : List Nat), sz - j < n33 → (j ≤ sz) → (PM sto1 vas1 sz S) → (∀ i, i < j → (sto1 i, vas1 i) = S.getD i (0, 0)) → (MR sto1 vas1 j dpt1 ext1 lin1 mov (S.take j) dep1 E1 L1) → (MC cq low hig glo1 mlv1 mpt1 dep1) → (mkM (S.take j) cq low hig dep1 glo1 E1 mdb1 mhl msp1 mmg L1 mlv1 mpt1 mls1 = (S.take j).foldl (fun B q => aadd B q.1 q.2) (aclr (mkM S cap low hig dep glo E mdb mhl msp mmg L mlv mpt mls) cq)) → ∀ (H : Heap) (locs : List Loc), va_P D vwCl (wM cy bb sto1 vas1 j cq low hig dpt1 glo1 ext1 mdb1 mhl msp1 mmg lin1 mlv1 mpt1 mls1 mov 0) H → va_D A (wM cy bb sto1 vas1 j cq low hig dpt1 glo1 ext1 mdb1 mhl msp1 mmg lin1 mlv1 mpt1 mls1 mov 0) → va_S A s.heap H locs → ∀ ls : Array Slot, lv_has ls 8 [(0, .ref (bb 0)), (1, .int (nI (cq))), (2, .int (nI (cap))), (3, .int (nI (sz))), (4, .int (nI (j)))] → W p l e ({ frames := 5, cells := 0, slots := 0, locals := 112 } : Room) s m args below meth c H locs ((0 + 0) + 0) ((0 + 0) + 0) (MQ below (va_Qi (S := (Nat → Nat) × (Nat → Nat) × Nat × Nat × (Nat → Nat) × Nat × (Nat → Nat) × Int32 × Int32 × (Nat → Nat) × Nat × Nat × Int32 × Nat) (fun r u => (∃ cq : Nat, 1 ≤ cq ∧ cq ≤ 5 ∧ cx = nI cq ∧ r = nI cap ∧ (∃ S2 dep2 E2 L2, MR u.1 u.2.1 u.2.2.1 u.2.2.2.2.1 u.2.2.2.2.2.2.1 u.2.2.2.2.2.2.2.2.2.1 mov S2 dep2 E2 L2 ∧ MC u.2.2.2.1 low hig u.2.2.2.2.2.1 u.2.2.2.2.2.2.2.2.2.2.1 u.2.2.2.2.2.2.2.2.2.2.2.1 dep2 ∧ mkM S2 u.2.2.2.1 low hig dep2 u.2.2.2.2.2.1 E2 u.2.2.2.2.2.2.2.1 mhl u.2.2.2.2.2.2.2.2.1 mmg L2 u.2.2.2.2.2.2.2.2.2.2.1 u.2.2.2.2.2.2.2.2.2.2.2.1 u.2.2.2.2.2.2.2.2.2.2.2.2.1 = areb (mkM S cap low hig dep glo E mdb mhl msp mmg L mlv mpt mls) cq) ∧ u.2.2.2.2.2.2.2.2.2.2.2.2.2 = 0) ∨ (¬ (∃ cq : Nat, 1 ≤ cq ∧ cq ≤ 5 ∧ cx = nI cq) ∧ (∃ S2 dep2 E2 L2, MR u.1 u.2.1 u.2.2.1 u.2.2.2.2.1 u.2.2.2.2.2.2.1 u.2.2.2.2.2.2.2.2.2.1 mov S2 dep2 E2 L2 ∧ MC u.2.2.2.1 low hig u.2.2.2.2.2.1 u.2.2.2.2.2.2.2.2.2.2.1 u.2.2.2.2.2.2.2.2.2.2.2.1 dep2 ∧ mkM S2 u.2.2.2.1 low hig dep2 u.2.2.2.2.2.1 E2 u.2.2.2.2.2.2.2.1 mhl u.2.2.2.2.2.2.2.2.1 mmg L2 u.2.2.2.2.2.2.2.2.2.2.1 u.2.2.2.2.2.2.2.2.2.2.2.1 u.2.2.2.2.2.2.2.2.2.2.2.2.1 = (mkM S cap low hig dep glo E mdb mhl msp mmg L mlv mpt mls)) ∧ u.2.2.2.2.2.2.2.2.2.2.2.2.2 = 1)) (tq_B D A (fun u => (wM cy bb u.1 u.2.1 u.2.2.1 u.2.2.2.1 low hig u.2.2.2.2.1 u.2.2.2.2.2.1 u.2.2.2.2.2.2.1 u.2.2.2.2.2.2.2.1 mhl u.2.2.2.2.2.2.2.2.1 mmg u.2.2.2.2.2.2.2.2.2.1 u.2.2.2.2.2.2.2.2.2.2.1 u.2.2.2.2.2.2.2.2.2.2.2.1 u.2.2.2.2.2.2.2.2.2.2.2.2.1 mov u.2.2.2.2.2.2.2.2.2.2.2.2.2))) A) args s 0 0 A) (F0 m 33 ls []) from
      hlp33 (sz + 1) 0 sto vas dpt2 0 ext mdb msp lin 0 0 mls (fun _ => 0) ([]) ([]) (by omega) (by omega) (hPM) (fun i hi => absurd hi (Nat.not_lt_zero _)) (by rw [List.take_zero]; exact hMR.cleared hr21.2) (hMC.cleared ⟨hc1, hc2⟩) (rfl) _ _ hP hD hS _ (lv_sub hl [3, 4, 2, 1, 0] rfl)
    intro n33
    induction n33 with
    | zero => intro j sto1 vas1 dpt1 glo1 ext1 mdb1 msp1 lin1 mlv1 mpt1 mls1 dep1 E1 L1 hf; exact absurd hf (Nat.not_lt_zero _)
    | succ n33 ih33 =>
      intro j sto1 vas1 dpt1 glo1 ext1 mdb1 msp1 lin1 mlv1 mpt1 mls1 dep1 E1 L1 hf33 hj hPM1 hpre1 hM1 hC1 hA1 H locs hP hD hS ls hl
      refine lv_iload hx hb dX5_rebuild_33 (lv_at hl 4 rfl) ?_
      refine lv_iload_n hx hb dX5_rebuild_35 rfl (lv_at hl 3 rfl) ?_
      refine tq_icmp_ge (tgt := 147) C (by omega) (by omega) dX5_rebuild_36 (by decide) (fun h36 => ?_) (fun h36 => ?_)
      · have e8 : S.take j = S := List.take_of_length_le (by omega)
        rw [e8] at hM1 hA1
        refine lv_iload_n hx hb dX5_rebuild_147 rfl (lv_at hl 2 rfl) ?_
        exact tq_iret (v := (nI (cap))) C rfl (sto1, vas1, j, cq, dpt1, glo1, ext1, mdb1, msp1, lin1, mlv1, mpt1, mls1, 0) hP hD hS (Or.inl ⟨cq, hc1, hc2, hcx, rfl, ⟨S, dep1, E1, L1, hM1, hC1, hA1⟩, rfl⟩) (Nat.le_of_ble_eq_true rfl) (Nat.le_of_ble_eq_true rfl) dX5_rebuild_148
      · obtain ⟨kzS, kzE, kzL, kz120, kd, kAE, kAL, kPM, kKE, kKL, kSS, kbd⟩ := id hM1
        refine lv_iload hx hb dX5_rebuild_39 (lv_at hl 4 rfl) ?_
        refine lv_istore (lv' := [(5, .int (nI (j))), (0, .ref (bb 0)), (1, .int (nI (cq))), (2, .int (nI (cap))), (3, .int (nI (sz))), (4, .int (nI (j)))]) hx hb dX5_rebuild_41 hl (by decide) rfl (fun ls hl => ?_)
        refine lv_iload hx hb dX5_rebuild_43 (lv_at hl 5 rfl) ?_
        refine lv_iconst (v := nI 1) hx hb dX5_rebuild_45 (by decide) ?_
        refine tq_iadd C dX5_rebuild_46 ?_
        refine lv_istore (lv' := [(6, .int (nI (j + 1))), (5, .int (nI (j))), (0, .ref (bb 0)), (1, .int (nI (cq))), (2, .int (nI (cap))), (3, .int (nI (sz))), (4, .int (nI (j)))]) hx hb dX5_rebuild_47 hl (by decide) rfl (fun ls hl => ?_)
        suffices hlp49 : ∀ (n49 : Nat) (t : Nat) (i : Nat), sz - i < n49 → (j ≤ t) → (t < sz) → (i ≤ sz) → (j + 1 ≤ i) → (∀ x, j ≤ x → x < i → sto1 t ≤ sto1 x) → ∀ (H : Heap) (locs : List Loc), va_P D vwCl (wM cy bb sto1 vas1 j cq low hig dpt1 glo1 ext1 mdb1 mhl msp1 mmg lin1 mlv1 mpt1 mls1 mov 0) H → va_D A (wM cy bb sto1 vas1 j cq low hig dpt1 glo1 ext1 mdb1 mhl msp1 mmg lin1 mlv1 mpt1 mls1 mov 0) → va_S A s.heap H locs → ∀ ls : Array Slot, lv_has ls 8 [(0, .ref (bb 0)), (1, .int (nI (cq))), (2, .int (nI (cap))), (3, .int (nI (sz))), (4, .int (nI (j))), (5, .int (nI (t))), (6, .int (nI (i)))] → W p l e ({ frames := 5, cells := 0, slots := 0, locals := 112 } : Room) s m args below meth c H locs ((0 + 0) + 0) ((0 + 0) + 0) (MQ below (va_Qi (S := (Nat → Nat) × (Nat → Nat) × Nat × Nat × (Nat → Nat) × Nat × (Nat → Nat) × Int32 × Int32 × (Nat → Nat) × Nat × Nat × Int32 × Nat) (fun r u => (∃ cq : Nat, 1 ≤ cq ∧ cq ≤ 5 ∧ cx = nI cq ∧ r = nI cap ∧ (∃ S2 dep2 E2 L2, MR u.1 u.2.1 u.2.2.1 u.2.2.2.2.1 u.2.2.2.2.2.2.1 u.2.2.2.2.2.2.2.2.2.1 mov S2 dep2 E2 L2 ∧ MC u.2.2.2.1 low hig u.2.2.2.2.2.1 u.2.2.2.2.2.2.2.2.2.2.1 u.2.2.2.2.2.2.2.2.2.2.2.1 dep2 ∧ mkM S2 u.2.2.2.1 low hig dep2 u.2.2.2.2.2.1 E2 u.2.2.2.2.2.2.2.1 mhl u.2.2.2.2.2.2.2.2.1 mmg L2 u.2.2.2.2.2.2.2.2.2.2.1 u.2.2.2.2.2.2.2.2.2.2.2.1 u.2.2.2.2.2.2.2.2.2.2.2.2.1 = areb (mkM S cap low hig dep glo E mdb mhl msp mmg L mlv mpt mls) cq) ∧ u.2.2.2.2.2.2.2.2.2.2.2.2.2 = 0) ∨ (¬ (∃ cq : Nat, 1 ≤ cq ∧ cq ≤ 5 ∧ cx = nI cq) ∧ (∃ S2 dep2 E2 L2, MR u.1 u.2.1 u.2.2.1 u.2.2.2.2.1 u.2.2.2.2.2.2.1 u.2.2.2.2.2.2.2.2.2.1 mov S2 dep2 E2 L2 ∧ MC u.2.2.2.1 low hig u.2.2.2.2.2.1 u.2.2.2.2.2.2.2.2.2.2.1 u.2.2.2.2.2.2.2.2.2.2.2.1 dep2 ∧ mkM S2 u.2.2.2.1 low hig dep2 u.2.2.2.2.2.1 E2 u.2.2.2.2.2.2.2.1 mhl u.2.2.2.2.2.2.2.2.1 mmg L2 u.2.2.2.2.2.2.2.2.2.2.1 u.2.2.2.2.2.2.2.2.2.2.2.1 u.2.2.2.2.2.2.2.2.2.2.2.2.1 = (mkM S cap low hig dep glo E mdb mhl msp mmg L mlv mpt mls)) ∧ u.2.2.2.2.2.2.2.2.2.2.2.2.2 = 1)) (tq_B D A (fun u => (wM cy bb u.1 u.2.1 u.2.2.1 u.2.2.2.1 low hig u.2.2.2.2.1 u.2.2.2.2.2.1 u.2.2.2.2.2.2.1 u.2.2.2.2.2.2.2.1 mhl u.2.2.2.2.2.2.2.2.1 mmg u.2.2.2.2.2.2.2.2.2.1 u.2.2.2.2.2.2.2.2.2.2.1 u.2.2.2.2.2.2.2.2.2.2.2.1 u.2.2.2.2.2.2.2.2.2.2.2.2.1 mov u.2.2.2.2.2.2.2.2.2.2.2.2.2))) A) args s 0 0 A) (F0 m 49 ls []) from
          hlp49 (sz + 1) j (j + 1) (by omega) (Nat.le_refl _) (by omega) (by omega) (Nat.le_refl _) (fun x a b => by rw [show x = j from by omega]; exact Nat.le_refl _) _ _ hP hD hS _ (lv_sub hl [2, 3, 4, 5, 6, 1, 0] rfl)
        intro n49
        induction n49 with
        | zero => intro t i hf; exact absurd hf (Nat.not_lt_zero _)
        | succ n49 ih49 =>
          intro t i hf49 ht1 ht2 hi hji hmin H locs hP hD hS ls hl
          refine lv_iload hx hb dX5_rebuild_49 (lv_at hl 6 rfl) ?_
          refine lv_iload_n hx hb dX5_rebuild_51 rfl (lv_at hl 3 rfl) ?_
          refine tq_icmp_ge (tgt := 87) C (by omega) (by omega) dX5_rebuild_52 (by decide) (fun h52 => ?_) (fun h52 => ?_)
          · have hsel := sel_step hPM1 hSS hzS.symm hpre1 (by omega) ht1 ht2 (fun x a b => hmin x a (by omega))
            refine lv_aload_n hx hb dX5_rebuild_87 rfl (lv_at hl 0 rfl) ?_
            refine tq_get (C0 := RX5) (T := TX5) (N := 19) (ci := 5) (k := 0) C gX5 inX5 rfl (by decide) rfl fl_X5_7 hK hP 0 rfl rfl dX5_rebuild_88 ?_
            refine lv_iload hx hb dX5_rebuild_91 (lv_at hl 5 rfl) ?_
            refine tq_iald (n := 120) (i := t) (f := sto1) C hK hP 1 0 rfl rfl (by omega) (Nat.le_of_ble_eq_true rfl) dX5_rebuild_93 ?_
            refine lv_istore (lv' := [(6, .int (nI (sto1 t))), (0, .ref (bb 0)), (1, .int (nI (cq))), (2, .int (nI (cap))), (3, .int (nI (sz))), (4, .int (nI (j))), (5, .int (nI (t)))]) hx hb dX5_rebuild_94 hl (by decide) rfl (fun ls hl => ?_)
            refine lv_aload_n hx hb dX5_rebuild_96 rfl (lv_at hl 1 rfl) ?_
            refine tq_get (C0 := RX5) (T := TX5) (N := 19) (ci := 5) (k := 1) C gX5 inX5 rfl (by decide) rfl fl_X5_13 hK hP 0 rfl rfl dX5_rebuild_97 ?_
            refine lv_iload hx hb dX5_rebuild_100 (lv_at hl 6 rfl) ?_
            refine tq_iald (n := 120) (i := t) (f := vas1) C hK hP 2 0 rfl rfl (by omega) (Nat.le_of_ble_eq_true rfl) dX5_rebuild_102 ?_
            refine lv_istore (lv' := [(7, .int (nI (vas1 t))), (6, .int (nI (sto1 t))), (0, .ref (bb 0)), (1, .int (nI (cq))), (2, .int (nI (cap))), (3, .int (nI (sz))), (4, .int (nI (j))), (5, .int (nI (t)))]) hx hb dX5_rebuild_103 hl (by decide) rfl (fun ls hl => ?_)
            refine lv_aload_n hx hb dX5_rebuild_105 rfl (lv_at hl 2 rfl) ?_
            refine tq_get (C0 := RX5) (T := TX5) (N := 19) (ci := 5) (k := 0) C gX5 inX5 rfl (by decide) rfl fl_X5_7 hK hP 0 rfl rfl dX5_rebuild_106 ?_
            refine lv_iload hx hb dX5_rebuild_109 (lv_at hl 7 rfl) ?_
            refine lv_aload_n hx hb dX5_rebuild_111 rfl (lv_at hl 2 rfl) ?_
            refine tq_get (C0 := RX5) (T := TX5) (N := 19) (ci := 5) (k := 0) C gX5 inX5 rfl (by decide) rfl fl_X5_7 hK hP 0 rfl rfl dX5_rebuild_112 ?_
            refine lv_iload hx hb dX5_rebuild_115 (lv_at hl 6 rfl) ?_
            refine tq_iald (n := 120) (i := j) (f := sto1) C hK hP 1 0 rfl rfl (by omega) (Nat.le_of_ble_eq_true rfl) dX5_rebuild_117 ?_
            refine tq_iast (n := 120) (i := t) (v := (sto1 j)) (f := sto1) C hK hP hD hS 1 0 rfl rfl (by omega) (Nat.le_of_ble_eq_true rfl) dX5_rebuild_118 (fun H locs hP hD hS => ?_)
            have hP : va_P D vwCl (wM cy bb (va_up sto1 t (sto1 j)) vas1 j cq low hig dpt1 glo1 ext1 mdb1 mhl msp1 mmg lin1 mlv1 mpt1 mls1 mov 0) H := hP
            have hD : va_D A (wM cy bb (va_up sto1 t (sto1 j)) vas1 j cq low hig dpt1 glo1 ext1 mdb1 mhl msp1 mmg lin1 mlv1 mpt1 mls1 mov 0) := hD
            refine lv_aload_n hx hb dX5_rebuild_119 rfl (lv_at hl 2 rfl) ?_
            refine tq_get (C0 := RX5) (T := TX5) (N := 19) (ci := 5) (k := 1) C gX5 inX5 rfl (by decide) rfl fl_X5_13 hK hP 0 rfl rfl dX5_rebuild_120 ?_
            refine lv_iload hx hb dX5_rebuild_123 (lv_at hl 7 rfl) ?_
            refine lv_aload_n hx hb dX5_rebuild_125 rfl (lv_at hl 2 rfl) ?_
            refine tq_get (C0 := RX5) (T := TX5) (N := 19) (ci := 5) (k := 1) C gX5 inX5 rfl (by decide) rfl fl_X5_13 hK hP 0 rfl rfl dX5_rebuild_126 ?_
            refine lv_iload hx hb dX5_rebuild_129 (lv_at hl 6 rfl) ?_
            refine tq_iald (n := 120) (i := j) (f := vas1) C hK hP 2 0 rfl rfl (by omega) (Nat.le_of_ble_eq_true rfl) dX5_rebuild_131 ?_
            refine tq_iast (n := 120) (i := t) (v := (vas1 j)) (f := vas1) C hK hP hD hS 2 0 rfl rfl (by omega) (Nat.le_of_ble_eq_true rfl) dX5_rebuild_132 (fun H locs hP hD hS => ?_)
            have hP : va_P D vwCl (wM cy bb (va_up sto1 t (sto1 j)) (va_up vas1 t (vas1 j)) j cq low hig dpt1 glo1 ext1 mdb1 mhl msp1 mmg lin1 mlv1 mpt1 mls1 mov 0) H := hP
            have hD : va_D A (wM cy bb (va_up sto1 t (sto1 j)) (va_up vas1 t (vas1 j)) j cq low hig dpt1 glo1 ext1 mdb1 mhl msp1 mmg lin1 mlv1 mpt1 mls1 mov 0) := hD
            refine lv_aload_n hx hb dX5_rebuild_133 rfl (lv_at hl 2 rfl) ?_
            refine lv_iload hx hb dX5_rebuild_134 (lv_at hl 1 rfl) ?_
            refine lv_iload hx hb dX5_rebuild_136 (lv_at hl 0 rfl) ?_
            refine tq_callV (W3 := fun u => (wM cy bb (va_up (va_up sto1 t (sto1 j)) j (sto1 t)) (va_up (va_up vas1 t (vas1 j)) j (vas1 t)) (j + 1) cq low hig u.1 u.2.1 u.2.2.1 u.2.2.2.1 mhl u.2.2.2.2.1 mmg u.2.2.2.2.2.1 u.2.2.2.2.2.2.1 u.2.2.2.2.2.2.2.1 u.2.2.2.2.2.2.2.2 mov 0)) (wr := []) (va_runV C.fix (As := [.int (nI (sto1 t)), .int (nI (vas1 t))]) (rest := []) ((c_X5_adds l D cy bb (va_up sto1 t (sto1 j)) (va_up vas1 t (vas1 j)) j cq low hig dpt1 glo1 ext1 mdb1 mhl msp1 mmg lin1 mlv1 mpt1 mls1 mov 0 (sto1 t) (vas1 t) (S.take j) dep1 E1 L1 (hM1.agree (fun i hi => up_n _ _ (by omega)) (fun i hi => up_n _ _ (by omega)) (bd_up (fun q => (kbd q).1) (kbd j).1) (bd_up (fun q => (kbd q).2.1) (kbd j).2.1)) hC1 ((kbd t).1) ((kbd t).2.1) (fun i hi q => (by
              rw [up_n _ _ (by omega)] at q
              have := hPM1.2 i t (by omega) ht2 q
              omega)) (by omega)) H.size) (tq_cV (n := 2) C ml_X5_129 im_X5_adds se_X5_adds ini_X5 cd_X5_adds ⟨by decide, by decide, by decide +kernel⟩ ⟨Nat.le_of_ble_eq_true rfl, Nat.le_of_ble_eq_true rfl⟩) ⟨tq_Pc.blind, va_recv hK hP (ci := 5) (q0 := 0) rfl rfl, tq_preC C hK hP hD⟩ rfl rfl hl.1 rfl (lv_room (Nat.le_of_ble_eq_true rfl)) dX5_rebuild_138 ⟨Nat.le_of_ble_eq_true rfl, Nat.le_of_ble_eq_true rfl⟩) hP hD hS hA [0, 1, 2, 3, 4, 5, 6] [] [0, 1, 2, 3, 4, 5, 6] rfl rfl (by decide) (by decide) (by decide) (fun _ => rfl) (fun u138 H locs hr138 hP hD hS => ?_)
            obtain ⟨dpt3, glo3, ext3, mdb3, msp3, lin3, mlv3, mpt3, mls3⟩ := u138
            try dsimp only at hr138
            have hP : va_P D vwCl (wM cy bb (va_up (va_up sto1 t (sto1 j)) j (sto1 t)) (va_up (va_up vas1 t (vas1 j)) j (vas1 t)) (j + 1) cq low hig dpt3 glo3 ext3 mdb3 mhl msp3 mmg lin3 mlv3 mpt3 mls3 mov 0) H := hP
            have hD : va_D A (wM cy bb (va_up (va_up sto1 t (sto1 j)) j (sto1 t)) (va_up (va_up vas1 t (vas1 j)) j (vas1 t)) (j + 1) cq low hig dpt3 glo3 ext3 mdb3 mhl msp3 mmg lin3 mlv3 mpt3 mls3 mov 0) := hD
            obtain ⟨S3, dep3, E3, L3, hM3, hC3, hA3⟩ := hr138
            have hS3 : S3 = S.take (j + 1) := (congrArg (fun A : AS => A.1.1) hA3).trans (insS_next hSS (by omega) hsel.1)
            subst hS3
            refine lv_iinc (v := (nI (j + 1))) (lv' := [(4, .int (nI (j + 1))), (7, .int (nI (vas1 t))), (6, .int (nI (sto1 t))), (0, .ref (bb 0)), (1, .int (nI (cq))), (2, .int (nI (cap))), (3, .int (nI (sz))), (5, .int (nI (t)))]) hx hb dX5_rebuild_141 hl (k := 6) rfl (tq_inc1 _) (by decide) rfl (fun ls hl => ?_)
            refine lv_goto (tgt := 33) hx hb dX5_rebuild_144 (by decide) ?_
            exact ih33 (j + 1) (va_up (va_up sto1 t (sto1 j)) j (sto1 t)) (va_up (va_up vas1 t (vas1 j)) j (vas1 t)) dpt3 glo3 ext3 mdb3 msp3 lin3 mlv3 mpt3 mls3 dep3 E3 L3 (by omega) (by omega) (hsel.2.1) (hsel.2.2) (hM3) (hC3) (by rw [hA3, fold_next (by omega) hsel.1, ← hA1]) _ _ hP hD hS _ (lv_sub hl [3, 4, 5, 6, 0] rfl)
          · refine lv_aload_n hx hb dX5_rebuild_55 rfl (lv_at hl 0 rfl) ?_
            refine tq_get (C0 := RX5) (T := TX5) (N := 19) (ci := 5) (k := 0) C gX5 inX5 rfl (by decide) rfl fl_X5_7 hK hP 0 rfl rfl dX5_rebuild_56 ?_
            have hbi := kbd i
            have hbt := kbd t
            refine lv_iload hx hb dX5_rebuild_59 (lv_at hl 6 rfl) ?_
            refine tq_iald (n := 120) (i := i) (f := sto1) C hK hP 1 0 rfl rfl (by omega) (Nat.le_of_ble_eq_true rfl) dX5_rebuild_61 ?_
            refine lv_aload_n hx hb dX5_rebuild_62 rfl (lv_at hl 0 rfl) ?_
            refine tq_get (C0 := RX5) (T := TX5) (N := 19) (ci := 5) (k := 0) C gX5 inX5 rfl (by decide) rfl fl_X5_7 hK hP 0 rfl rfl dX5_rebuild_63 ?_
            refine lv_iload hx hb dX5_rebuild_66 (lv_at hl 5 rfl) ?_
            refine tq_iald (n := 120) (i := t) (f := sto1) C hK hP 1 0 rfl rfl (by omega) (Nat.le_of_ble_eq_true rfl) dX5_rebuild_68 ?_
            refine tq_icmp_ge (tgt := 77) C (by omega) (by omega) dX5_rebuild_69 (by decide) (fun h69 => ?_) (fun h69 => ?_)
            · refine lv_iload hx hb dX5_rebuild_77 (lv_at hl 5 rfl) ?_
              refine lv_istore (lv' := [(5, .int (nI (t))), (0, .ref (bb 0)), (1, .int (nI (cq))), (2, .int (nI (cap))), (3, .int (nI (sz))), (4, .int (nI (j))), (6, .int (nI (i)))]) hx hb dX5_rebuild_79 hl (by decide) rfl (fun ls hl => ?_)
              refine lv_iinc (v := (nI (i + 1))) (lv' := [(6, .int (nI (i + 1))), (5, .int (nI (t))), (0, .ref (bb 0)), (1, .int (nI (cq))), (2, .int (nI (cap))), (3, .int (nI (sz))), (4, .int (nI (j)))]) hx hb dX5_rebuild_81 hl (k := 6) rfl (tq_inc1 _) (by decide) rfl (fun ls hl => ?_)
              refine lv_goto (tgt := 49) hx hb dX5_rebuild_84 (by decide) ?_
              exact ih49 t (i + 1) (by omega) (ht1) (ht2) (by omega) (by omega) (fun x a b => (Nat.lt_or_eq_of_le (Nat.le_of_lt_succ b)).elim (hmin x a) (fun e => by rw [e]; exact h69)) _ _ hP hD hS _ (lv_sub hl [2, 3, 4, 5, 6, 1, 0] rfl)
            · refine lv_iload hx hb dX5_rebuild_72 (lv_at hl 6 rfl) ?_
              refine lv_goto (tgt := 79) hx hb dX5_rebuild_74 (by decide) ?_
              refine lv_istore (lv' := [(5, .int (nI (i))), (0, .ref (bb 0)), (1, .int (nI (cq))), (2, .int (nI (cap))), (3, .int (nI (sz))), (4, .int (nI (j))), (6, .int (nI (i)))]) hx hb dX5_rebuild_79 hl (by decide) rfl (fun ls hl => ?_)
              refine lv_iinc (v := (nI (i + 1))) (lv' := [(6, .int (nI (i + 1))), (5, .int (nI (i))), (0, .ref (bb 0)), (1, .int (nI (cq))), (2, .int (nI (cap))), (3, .int (nI (sz))), (4, .int (nI (j)))]) hx hb dX5_rebuild_81 hl (k := 6) rfl (tq_inc1 _) (by decide) rfl (fun ls hl => ?_)
              refine lv_goto (tgt := 49) hx hb dX5_rebuild_84 (by decide) ?_
              exact ih49 i (i + 1) (by omega) (by omega) (by omega) (by omega) (by omega) (fun x a b => (Nat.lt_or_eq_of_le (Nat.le_of_lt_succ b)).elim (fun z => Nat.le_trans (Nat.le_of_lt h69) (hmin x a z)) (fun e => by rw [e]; exact Nat.le_refl _)) _ _ hP hD hS _ (lv_sub hl [2, 3, 4, 5, 6, 1, 0] rfl)
  · refine tq_callI (W3 := fun u => (wM cy bb sto vas sz cap low hig dpt glo ext mdb mhl msp mmg lin mlv mpt mls mov 1)) (wr := []) (va_runV C.fix (As := [.int (nI (0))]) (rest := []) ((c_X5_asked_0 l D cy bb sto vas sz cap low hig dpt glo ext mdb mhl msp mmg lin mlv mpt mls mov thr 0 rfl) s.heap.size) (tq_cV (n := 1) C ml_X5_46 im_X5_asked se_X5_asked ini_X5 cd_X5_asked ⟨by decide, by decide, by decide +kernel⟩ ⟨Nat.le_of_ble_eq_true rfl, Nat.le_of_ble_eq_true rfl⟩) ⟨tq_Pc.blind, va_recv hK hP (ci := 5) (q0 := 0) rfl rfl, tq_preC C hK hP hD⟩ rfl rfl hl.1 rfl (lv_room (Nat.le_of_ble_eq_true rfl)) dX5_rebuild_7 ⟨Nat.le_of_ble_eq_true rfl, Nat.le_of_ble_eq_true rfl⟩) hP hD hS hA [0, 1, 2, 3, 4, 5, 6] [] [0, 1, 2, 3, 4, 5, 6] rfl rfl (by decide) (by decide) (by decide) (fun _ => rfl) (fun r7 u7 H locs hr7 hP hD hS => ?_)
    have hP : va_P D vwCl (wM cy bb sto vas sz cap low hig dpt glo ext mdb mhl msp mmg lin mlv mpt mls mov 1) H := hP
    have hD : va_D A (wM cy bb sto vas sz cap low hig dpt glo ext mdb mhl msp mmg lin mlv mpt mls mov 1) := hD
    obtain rfl := hr7.symm
    refine lv_if_ne (tgt := 15) hx hb dX5_rebuild_10 (by decide) (fun h9 => absurd (by decide : nI 0 = 0) h9) (fun _ => ?_)
    refine lv_iconst (v := nI 0) hx hb dX5_rebuild_13 (by decide) ?_
    exact tq_iret (v := (nI (0))) C rfl (sto, vas, sz, cap, dpt, glo, ext, mdb, msp, lin, mlv, mpt, mls, 1) hP hD hS (Or.inr ⟨fun ⟨c7, a1, a2, a3⟩ => hr4 (by rw [a3]; exact ⟨nI_le a1 (by omega), nI_le a2 (by decide)⟩), ⟨S, dep, E, L, hMR, hMC, rfl⟩, rfl⟩) (Nat.le_of_ble_eq_true rfl) (Nat.le_of_ble_eq_true rfl) dX5_rebuild_14
