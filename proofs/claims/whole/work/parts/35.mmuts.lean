
theorem MR.cleared {sto vas : Nat → Nat} {sz : Nat} {dpt ext lin mov : Nat → Nat} {S : List (Nat × Nat)} {dep : Nat → Nat} {E L : List Nat} {dpt2 : Nat → Nat} (h : MR sto vas sz dpt ext lin mov S dep E L) (hd : ∀ q, q < 256 → dpt2 q = 0) :
    MR sto vas 0 dpt2 ext lin mov [] (fun _ => 0) [] [] :=
  ⟨rfl, rfl, rfl, by omega, hd, AL_nil, AL_nil, ⟨fun _ => ⟨fun h => absurd h List.not_mem_nil, fun ⟨_, h, _⟩ => absurd h (Nat.not_lt_zero _)⟩, fun _ _ h => absurd h (Nat.not_lt_zero _)⟩,
    ⟨List.nodup_nil, fun _ => ⟨fun h => absurd h List.not_mem_nil, fun ⟨_, h, _⟩ => absurd h (Nat.not_lt_zero _)⟩⟩, ⟨List.nodup_nil, fun _ => ⟨fun h => absurd h List.not_mem_nil, fun ⟨_, h, _⟩ => absurd h (Nat.not_lt_zero _)⟩⟩, List.Pairwise.nil, h.2.2.2.2.2.2.2.2.2.2.2⟩
theorem MC.cleared {cap low hig glo mlv mpt : Nat} {dep : Nat → Nat} {c : Nat} (h : MC cap low hig glo mlv mpt dep) (hc : 1 ≤ c ∧ c ≤ 5) : MC c low hig 0 0 0 (fun _ => 0) :=
  ⟨⟨by decide, fun _ _ => Nat.le_refl 0, fun _ _ _ _ _ => rfl⟩, ⟨by decide, by decide⟩, hc, h.2.2.2⟩
theorem MR.repl {sto vas : Nat → Nat} {sz : Nat} {dpt ext lin mov : Nat → Nat} {S : List (Nat × Nat)} {dep : Nat → Nat} {E L : List Nat} {i v : Nat} (h : MR sto vas sz dpt ext lin mov S dep E L) (hi : i < sz) (hv : v < 1000000) :
    MR sto (va_up vas i v) sz dpt ext lin mov (repS S (sto i) v) dep E L := by
  obtain ⟨hzS, hzE, hzL, hz120, hd, hAE, hAL, hPM, hKE, hKL, hSS, hbd⟩ := h
  exact ⟨by unfold repS; rw [List.length_map]; exact hzS, hzE, hzL, hz120, hd, hAE, hAL, hPM.rep hi rfl, hKE, hKL, repS_sorted hSS, fun j => ⟨(hbd j).1, bd_up (fun q => (hbd q).2.1) hv j, (hbd j).2.2⟩⟩

theorem dX5_get_0 : decode cX5_get 0 = .ok (.aload_n 0, 1) := by decide +kernel
theorem dX5_get_1 : decode cX5_get 1 = .ok (.iload_n 1, 1) := by decide +kernel
theorem dX5_get_2 : decode cX5_get 2 = .ok (.invokevirtual 132, 3) := by decide +kernel
theorem dX5_get_5 : decode cX5_get 5 = .ok (.ifCond .ne 5, 3) := by decide +kernel
theorem dX5_get_8 : decode cX5_get 8 = .ok (.iconst 0, 1) := by decide +kernel
theorem dX5_get_9 : decode cX5_get 9 = .ok (.ireturn, 1) := by decide +kernel
theorem dX5_get_10 : decode cX5_get 10 = .ok (.aload_n 0, 1) := by decide +kernel
theorem dX5_get_11 : decode cX5_get 11 = .ok (.iload_n 1, 1) := by decide +kernel
theorem dX5_get_12 : decode cX5_get 12 = .ok (.invokevirtual 126, 3) := by decide +kernel
theorem dX5_get_15 : decode cX5_get 15 = .ok (.istore_n 2, 1) := by decide +kernel
theorem dX5_get_16 : decode cX5_get 16 = .ok (.iload_n 2, 1) := by decide +kernel
theorem dX5_get_17 : decode cX5_get 17 = .ok (.iconst (-1), 1) := by decide +kernel
theorem dX5_get_18 : decode cX5_get 18 = .ok (.if_icmp .ne 7, 3) := by decide +kernel
theorem dX5_get_21 : decode cX5_get 21 = .ok (.iconst (-1), 1) := by decide +kernel
theorem dX5_get_22 : decode cX5_get 22 = .ok (.goto 9, 3) := by decide +kernel
theorem dX5_get_25 : decode cX5_get 25 = .ok (.aload_n 0, 1) := by decide +kernel
theorem dX5_get_26 : decode cX5_get 26 = .ok (.getfield 13, 3) := by decide +kernel
theorem dX5_get_29 : decode cX5_get 29 = .ok (.iload_n 2, 1) := by decide +kernel
theorem dX5_get_30 : decode cX5_get 30 = .ok (.iaload, 1) := by decide +kernel
theorem dX5_get_31 : decode cX5_get 31 = .ok (.ireturn, 1) := by decide +kernel
theorem dX5_getByLinear_0 : decode cX5_getByLinear 0 = .ok (.aload_n 0, 1) := by decide +kernel
theorem dX5_getByLinear_1 : decode cX5_getByLinear 1 = .ok (.iload_n 1, 1) := by decide +kernel
theorem dX5_getByLinear_2 : decode cX5_getByLinear 2 = .ok (.invokevirtual 145, 3) := by decide +kernel
theorem dX5_getByLinear_5 : decode cX5_getByLinear 5 = .ok (.ireturn, 1) := by decide +kernel
theorem dX5_empties_0 : decode cX5_empties 0 = .ok (.aload_n 0, 1) := by decide +kernel
theorem dX5_empties_1 : decode cX5_empties 1 = .ok (.getfield 51, 3) := by decide +kernel
theorem dX5_empties_4 : decode cX5_empties 4 = .ok (.istore_n 1, 1) := by decide +kernel
theorem dX5_empties_5 : decode cX5_empties 5 = .ok (.aload_n 0, 1) := by decide +kernel
theorem dX5_empties_6 : decode cX5_empties 6 = .ok (.iconst 0, 1) := by decide +kernel
theorem dX5_empties_7 : decode cX5_empties 7 = .ok (.putfield 51, 3) := by decide +kernel
theorem dX5_empties_10 : decode cX5_empties 10 = .ok (.aload_n 0, 1) := by decide +kernel
theorem dX5_empties_11 : decode cX5_empties 11 = .ok (.iconst 0, 1) := by decide +kernel
theorem dX5_empties_12 : decode cX5_empties 12 = .ok (.putfield 68, 3) := by decide +kernel
theorem dX5_empties_15 : decode cX5_empties 15 = .ok (.aload_n 0, 1) := by decide +kernel
theorem dX5_empties_16 : decode cX5_empties 16 = .ok (.iconst 0, 1) := by decide +kernel
theorem dX5_empties_17 : decode cX5_empties 17 = .ok (.putfield 102, 3) := by decide +kernel
theorem dX5_empties_20 : decode cX5_empties 20 = .ok (.aload_n 0, 1) := by decide +kernel
theorem dX5_empties_21 : decode cX5_empties 21 = .ok (.iconst 0, 1) := by decide +kernel
theorem dX5_empties_22 : decode cX5_empties 22 = .ok (.putfield 105, 3) := by decide +kernel
theorem dX5_empties_25 : decode cX5_empties 25 = .ok (.iconst 0, 1) := by decide +kernel
theorem dX5_empties_26 : decode cX5_empties 26 = .ok (.istore_n 2, 1) := by decide +kernel
theorem dX5_empties_27 : decode cX5_empties 27 = .ok (.iload_n 2, 1) := by decide +kernel
theorem dX5_empties_28 : decode cX5_empties 28 = .ok (.sipush 256, 3) := by decide +kernel
theorem dX5_empties_31 : decode cX5_empties 31 = .ok (.if_icmp .ge 16, 3) := by decide +kernel
theorem dX5_empties_34 : decode cX5_empties 34 = .ok (.aload_n 0, 1) := by decide +kernel
theorem dX5_empties_35 : decode cX5_empties 35 = .ok (.getfield 26, 3) := by decide +kernel
theorem dX5_empties_38 : decode cX5_empties 38 = .ok (.iload_n 2, 1) := by decide +kernel
theorem dX5_empties_39 : decode cX5_empties 39 = .ok (.iconst 0, 1) := by decide +kernel
theorem dX5_empties_40 : decode cX5_empties 40 = .ok (.iastore, 1) := by decide +kernel
theorem dX5_empties_41 : decode cX5_empties 41 = .ok (.iinc 2 1, 3) := by decide +kernel
theorem dX5_empties_44 : decode cX5_empties 44 = .ok (.goto (-17), 3) := by decide +kernel
theorem dX5_empties_47 : decode cX5_empties 47 = .ok (.iload_n 1, 1) := by decide +kernel
theorem dX5_empties_48 : decode cX5_empties 48 = .ok (.ireturn, 1) := by decide +kernel
theorem dX5_clear_0 : decode cX5_clear 0 = .ok (.aload_n 0, 1) := by decide +kernel
theorem dX5_clear_1 : decode cX5_clear 1 = .ok (.iconst 0, 1) := by decide +kernel
theorem dX5_clear_2 : decode cX5_clear 2 = .ok (.putfield 38, 3) := by decide +kernel
theorem dX5_clear_5 : decode cX5_clear 5 = .ok (.aload_n 0, 1) := by decide +kernel
theorem dX5_clear_6 : decode cX5_clear 6 = .ok (.invokevirtual 151, 3) := by decide +kernel
theorem dX5_clear_9 : decode cX5_clear 9 = .ok (.ireturn, 1) := by decide +kernel
theorem dX5_setLoads_0 : decode cX5_setLoads 0 = .ok (.aload_n 0, 1) := by decide +kernel
theorem dX5_setLoads_1 : decode cX5_setLoads 1 = .ok (.iload_n 1, 1) := by decide +kernel
theorem dX5_setLoads_2 : decode cX5_setLoads 2 = .ok (.iconst 0, 1) := by decide +kernel
theorem dX5_setLoads_3 : decode cX5_setLoads 3 = .ok (.bipush 50, 2) := by decide +kernel
theorem dX5_setLoads_5 : decode cX5_setLoads 5 = .ok (.invokestatic 42, 3) := by decide +kernel
theorem dX5_setLoads_8 : decode cX5_setLoads 8 = .ok (.ifCond .eq 26, 3) := by decide +kernel
theorem dX5_setLoads_11 : decode cX5_setLoads 11 = .ok (.iload_n 2, 1) := by decide +kernel
theorem dX5_setLoads_12 : decode cX5_setLoads 12 = .ok (.bipush 50, 2) := by decide +kernel
theorem dX5_setLoads_14 : decode cX5_setLoads 14 = .ok (.sipush 200, 3) := by decide +kernel
theorem dX5_setLoads_17 : decode cX5_setLoads 17 = .ok (.invokestatic 42, 3) := by decide +kernel
theorem dX5_setLoads_20 : decode cX5_setLoads 20 = .ok (.ifCond .eq 14, 3) := by decide +kernel
theorem dX5_setLoads_23 : decode cX5_setLoads 23 = .ok (.iconst 2, 1) := by decide +kernel
theorem dX5_setLoads_24 : decode cX5_setLoads 24 = .ok (.iload_n 1, 1) := by decide +kernel
theorem dX5_setLoads_25 : decode cX5_setLoads 25 = .ok (.imul, 1) := by decide +kernel
theorem dX5_setLoads_26 : decode cX5_setLoads 26 = .ok (.iload_n 2, 1) := by decide +kernel
theorem dX5_setLoads_27 : decode cX5_setLoads 27 = .ok (.if_icmp .gt 7, 3) := by decide +kernel
theorem dX5_setLoads_30 : decode cX5_setLoads 30 = .ok (.iconst 1, 1) := by decide +kernel
theorem dX5_setLoads_31 : decode cX5_setLoads 31 = .ok (.goto 4, 3) := by decide +kernel
theorem dX5_setLoads_34 : decode cX5_setLoads 34 = .ok (.iconst 0, 1) := by decide +kernel
theorem dX5_setLoads_35 : decode cX5_setLoads 35 = .ok (.invokevirtual 46, 3) := by decide +kernel
theorem dX5_setLoads_38 : decode cX5_setLoads 38 = .ok (.ifCond .ne 5, 3) := by decide +kernel
theorem dX5_setLoads_41 : decode cX5_setLoads 41 = .ok (.iconst 0, 1) := by decide +kernel
theorem dX5_setLoads_42 : decode cX5_setLoads 42 = .ok (.ireturn, 1) := by decide +kernel
theorem dX5_setLoads_43 : decode cX5_setLoads 43 = .ok (.aload_n 0, 1) := by decide +kernel
theorem dX5_setLoads_44 : decode cX5_setLoads 44 = .ok (.getfield 23, 3) := by decide +kernel
theorem dX5_setLoads_47 : decode cX5_setLoads 47 = .ok (.istore_n 3, 1) := by decide +kernel
theorem dX5_setLoads_48 : decode cX5_setLoads 48 = .ok (.aload_n 0, 1) := by decide +kernel
theorem dX5_setLoads_49 : decode cX5_setLoads 49 = .ok (.iload_n 1, 1) := by decide +kernel
theorem dX5_setLoads_50 : decode cX5_setLoads 50 = .ok (.putfield 20, 3) := by decide +kernel
theorem dX5_setLoads_53 : decode cX5_setLoads 53 = .ok (.aload_n 0, 1) := by decide +kernel
theorem dX5_setLoads_54 : decode cX5_setLoads 54 = .ok (.iload_n 2, 1) := by decide +kernel
theorem dX5_setLoads_55 : decode cX5_setLoads 55 = .ok (.putfield 23, 3) := by decide +kernel
theorem dX5_setLoads_58 : decode cX5_setLoads 58 = .ok (.iload_n 3, 1) := by decide +kernel
theorem dX5_setLoads_59 : decode cX5_setLoads 59 = .ok (.ireturn, 1) := by decide +kernel
theorem dX5_put_0 : decode cX5_put 0 = .ok (.iload_n 1, 1) := by decide +kernel
theorem dX5_put_1 : decode cX5_put 1 = .ok (.iconst 0, 1) := by decide +kernel
theorem dX5_put_2 : decode cX5_put 2 = .ok (.ldc 41, 2) := by decide +kernel
theorem dX5_put_4 : decode cX5_put 4 = .ok (.invokestatic 42, 3) := by decide +kernel
theorem dX5_put_7 : decode cX5_put 7 = .ok (.ifCond .eq 17, 3) := by decide +kernel
theorem dX5_put_10 : decode cX5_put 10 = .ok (.iload_n 2, 1) := by decide +kernel
theorem dX5_put_11 : decode cX5_put 11 = .ok (.iconst 0, 1) := by decide +kernel
theorem dX5_put_12 : decode cX5_put 12 = .ok (.ldc 125, 2) := by decide +kernel
theorem dX5_put_14 : decode cX5_put 14 = .ok (.invokestatic 42, 3) := by decide +kernel
theorem dX5_put_17 : decode cX5_put 17 = .ok (.ifCond .eq 7, 3) := by decide +kernel
theorem dX5_put_20 : decode cX5_put 20 = .ok (.iconst 1, 1) := by decide +kernel
theorem dX5_put_21 : decode cX5_put 21 = .ok (.goto 4, 3) := by decide +kernel
theorem dX5_put_24 : decode cX5_put 24 = .ok (.iconst 0, 1) := by decide +kernel
theorem dX5_put_25 : decode cX5_put 25 = .ok (.istore_n 3, 1) := by decide +kernel
theorem dX5_put_26 : decode cX5_put 26 = .ok (.aload_n 0, 1) := by decide +kernel
theorem dX5_put_27 : decode cX5_put 27 = .ok (.iload_n 1, 1) := by decide +kernel
theorem dX5_put_28 : decode cX5_put 28 = .ok (.invokevirtual 126, 3) := by decide +kernel
theorem dX5_put_31 : decode cX5_put 31 = .ok (.istore 4, 2) := by decide +kernel
theorem dX5_put_33 : decode cX5_put 33 = .ok (.aload_n 0, 1) := by decide +kernel
theorem dX5_put_34 : decode cX5_put 34 = .ok (.iload_n 3, 1) := by decide +kernel
theorem dX5_put_35 : decode cX5_put 35 = .ok (.ifCond .ne 7, 3) := by decide +kernel
theorem dX5_put_38 : decode cX5_put 38 = .ok (.iconst 1, 1) := by decide +kernel
theorem dX5_put_39 : decode cX5_put 39 = .ok (.goto 23, 3) := by decide +kernel
theorem dX5_put_42 : decode cX5_put 42 = .ok (.iload 4, 2) := by decide +kernel
theorem dX5_put_44 : decode cX5_put 44 = .ok (.iconst (-1), 1) := by decide +kernel
theorem dX5_put_45 : decode cX5_put 45 = .ok (.if_icmp .ne 16, 3) := by decide +kernel
theorem dX5_put_48 : decode cX5_put 48 = .ok (.aload_n 0, 1) := by decide +kernel
theorem dX5_put_49 : decode cX5_put 49 = .ok (.getfield 51, 3) := by decide +kernel
theorem dX5_put_52 : decode cX5_put 52 = .ok (.bipush 120, 2) := by decide +kernel
theorem dX5_put_54 : decode cX5_put 54 = .ok (.if_icmp .ne 7, 3) := by decide +kernel
theorem dX5_put_57 : decode cX5_put 57 = .ok (.iconst 2, 1) := by decide +kernel
theorem dX5_put_58 : decode cX5_put 58 = .ok (.goto 4, 3) := by decide +kernel
theorem dX5_put_61 : decode cX5_put 61 = .ok (.iconst 0, 1) := by decide +kernel
theorem dX5_put_62 : decode cX5_put 62 = .ok (.putfield 38, 3) := by decide +kernel
theorem dX5_put_65 : decode cX5_put 65 = .ok (.aload_n 0, 1) := by decide +kernel
theorem dX5_put_66 : decode cX5_put 66 = .ok (.getfield 38, 3) := by decide +kernel
theorem dX5_put_69 : decode cX5_put 69 = .ok (.ifCond .le 5, 3) := by decide +kernel
theorem dX5_put_72 : decode cX5_put 72 = .ok (.iconst 0, 1) := by decide +kernel
theorem dX5_put_73 : decode cX5_put 73 = .ok (.ireturn, 1) := by decide +kernel
theorem dX5_put_74 : decode cX5_put 74 = .ok (.iload 4, 2) := by decide +kernel
theorem dX5_put_76 : decode cX5_put 76 = .ok (.iconst (-1), 1) := by decide +kernel
theorem dX5_put_77 : decode cX5_put 77 = .ok (.if_icmp .ne 11, 3) := by decide +kernel
theorem dX5_put_80 : decode cX5_put 80 = .ok (.aload_n 0, 1) := by decide +kernel
theorem dX5_put_81 : decode cX5_put 81 = .ok (.iload_n 1, 1) := by decide +kernel
theorem dX5_put_82 : decode cX5_put 82 = .ok (.iload_n 2, 1) := by decide +kernel
theorem dX5_put_83 : decode cX5_put 83 = .ok (.invokevirtual 129, 3) := by decide +kernel
theorem dX5_put_86 : decode cX5_put 86 = .ok (.iconst (-1), 1) := by decide +kernel
theorem dX5_put_87 : decode cX5_put 87 = .ok (.ireturn, 1) := by decide +kernel
theorem dX5_put_88 : decode cX5_put 88 = .ok (.aload_n 0, 1) := by decide +kernel
theorem dX5_put_89 : decode cX5_put 89 = .ok (.getfield 13, 3) := by decide +kernel
theorem dX5_put_92 : decode cX5_put 92 = .ok (.iload 4, 2) := by decide +kernel
theorem dX5_put_94 : decode cX5_put 94 = .ok (.iaload, 1) := by decide +kernel
theorem dX5_put_95 : decode cX5_put 95 = .ok (.istore 5, 2) := by decide +kernel
theorem dX5_put_97 : decode cX5_put 97 = .ok (.aload_n 0, 1) := by decide +kernel
theorem dX5_put_98 : decode cX5_put 98 = .ok (.getfield 13, 3) := by decide +kernel
theorem dX5_put_101 : decode cX5_put 101 = .ok (.iload 4, 2) := by decide +kernel
theorem dX5_put_103 : decode cX5_put 103 = .ok (.iload_n 2, 1) := by decide +kernel
theorem dX5_put_104 : decode cX5_put 104 = .ok (.iastore, 1) := by decide +kernel
theorem dX5_put_105 : decode cX5_put 105 = .ok (.iload 5, 2) := by decide +kernel
theorem dX5_put_107 : decode cX5_put 107 = .ok (.ireturn, 1) := by decide +kernel
set_option maxHeartbeats 4000000 in
set_option maxRecDepth 100000 in
theorem c_X5_get (l : Launch) (D : va_G) (cy : ClassId) (bb : Nat → Nat) (sto : Nat → Nat) (vas : Nat → Nat) (sz : Nat) (cap : Nat) (low : Nat) (hig : Nat) (dpt : Nat → Nat) (glo : Nat) (ext : Nat → Nat) (mdb : Int32) (mhl : Int32) (msp : Int32) (mmg : Int32) (lin : Nat → Nat) (mlv : Nat) (mpt : Nat) (mls : Int32) (mov : Nat → Nat) (thr : Nat) (kx : Int32) (S : List (Nat × Nat)) (dep : Nat → Nat) (E L : List Nat) (hMR : MR sto vas sz dpt ext lin mov S dep E L) (hMC : MC cap low hig glo mlv mpt dep)  : tq_I (S := Nat) l yX5_get cX5_get 3 (some .int) 2 43 0 0 D cy (wM cy bb sto vas sz cap low hig dpt glo ext mdb mhl msp mmg lin mlv mpt mls mov thr) [.ref (bb 0), .int (kx)] (fun r u => ((getP S kx r) ∧ u = 0) ∨ (¬ (isKey kx) ∧ u = 1)) (fun u => (wM cy bb sto vas sz cap low hig dpt glo ext mdb mhl msp mmg lin mlv mpt mls mov u)) := by
  refine tq_I.mk (by decide) (Nat.le_of_ble_eq_true rfl) ?_
  intro p e s m args below meth c A C hP hK hD hS hA ls hl
  obtain ⟨hx, hb, hml, hown, hrt, hlk, hT⟩ := id C
  have hl : lv_has ls 3 [(0, .ref (bb 0)), (1, .int (kx))] := hl
  obtain ⟨hzS, hzE, hzL, hz120, hd, hAE, hAL, hPM, hKE, hKL, hSS, hbd⟩ := id hMR
  obtain ⟨hXo, hY, ⟨hcp1, hcp2⟩, ⟨hlo, hh1, hh2⟩⟩ := id hMC
  refine lv_aload_n hx hb dX5_get_0 rfl (lv_at hl 0 rfl) ?_
  refine lv_iload_n hx hb dX5_get_1 rfl (lv_at hl 1 rfl) ?_
  refine tq_callI (W3 := fun u => (wM cy bb sto vas sz cap low hig dpt glo ext mdb mhl msp mmg lin mlv mpt mls mov u)) (wr := []) (va_runV C.fix (As := [.int (kx)]) (rest := []) ((c_X5_isKey l D cy bb sto vas sz cap low hig dpt glo ext mdb mhl msp mmg lin mlv mpt mls mov thr kx) s.heap.size) (tq_cV (n := 1) C ml_X5_132 im_X5_isKey se_X5_isKey ini_X5 cd_X5_isKey ⟨by decide, by decide, by decide +kernel⟩ ⟨Nat.le_of_ble_eq_true rfl, Nat.le_of_ble_eq_true rfl⟩) ⟨tq_Pc.blind, va_recv hK hP (ci := 5) (q0 := 0) rfl rfl, tq_preC C hK hP hD⟩ rfl rfl hl.1 rfl (lv_room (Nat.le_of_ble_eq_true rfl)) dX5_get_2 ⟨Nat.le_of_ble_eq_true rfl, Nat.le_of_ble_eq_true rfl⟩) hP hD hS hA [0, 1, 2, 3, 4, 5, 6] [] [0, 1, 2, 3, 4, 5, 6] rfl rfl (by decide) (by decide) (by decide) (fun _ => rfl) (fun r2 u2 H locs hr2 hP hD hS => ?_)
  obtain ⟨thr2, rfl⟩ : ∃ z, z = u2 := ⟨_, rfl⟩
  try dsimp only at hr2
  have hP : va_P D vwCl (wM cy bb sto vas sz cap low hig dpt glo ext mdb mhl msp mmg lin mlv mpt mls mov thr2) H := hP
  have hD : va_D A (wM cy bb sto vas sz cap low hig dpt glo ext mdb mhl msp mmg lin mlv mpt mls mov thr2) := hD
  rcases hr2 with ⟨⟨k, hk, hkx⟩, rfl, rfl⟩ | ⟨hn, rfl, rfl⟩
  · rw [hkx] at hl
    refine lv_if_ne (tgt := 10) hx hb dX5_get_5 (by decide) (fun _ => ?_) (fun h9 => absurd h9 (by decide))
    refine lv_aload_n hx hb dX5_get_10 rfl (lv_at hl 0 rfl) ?_
    refine lv_iload_n hx hb dX5_get_11 rfl (lv_at hl 1 rfl) ?_
    refine tq_callF (va_runV C.fix (As := [.int (nI k)]) (rest := []) (c_X5_found l D cy bb sto vas sz cap low hig dpt glo ext mdb mhl msp mmg lin mlv mpt mls mov 0 (nI k) hz120) (tq_cV (n := 1) C ml_X5_126 im_X5_found se_X5_found ini_X5 cd_X5_found ⟨by decide, by decide, by decide +kernel⟩ ⟨Nat.le_of_ble_eq_true rfl, Nat.le_of_ble_eq_true rfl⟩) ⟨tq_Pf.blind, va_recv hK hP (ci := 5) (q0 := 0) rfl rfl, tq_preF C hK hP⟩ rfl rfl hl.1 rfl (lv_room (Nat.le_of_ble_eq_true rfl)) dX5_get_12 ⟨Nat.le_of_ble_eq_true rfl, Nat.le_of_ble_eq_true rfl⟩) (fun r12 hr12 => ?_)
    rcases hr12 with ⟨i, hi, hki, rfl⟩ | ⟨hno, rfl⟩
    · have hbi := hbd i
      have hsi : sto i = k := ((nI_eq (by omega) (by omega)).mp hki).symm
      refine lv_istore_n (lv' := [(2, .int (nI (i))), (0, .ref (bb 0)), (1, .int (nI (k)))]) hx hb dX5_get_15 rfl hl (by decide) rfl (fun ls hl => ?_)
      refine lv_iload_n hx hb dX5_get_16 rfl (lv_at hl 0 rfl) ?_
      refine lv_iconst (v := (-1)) hx hb dX5_get_17 (by decide) ?_
      refine lv_icmp_ne (tgt := 25) hx hb dX5_get_18 (by decide) (fun h18 => ?_) (fun h18 => ?_)
      · refine lv_aload_n hx hb dX5_get_25 rfl (lv_at hl 1 rfl) ?_
        refine tq_get (C0 := RX5) (T := TX5) (N := 19) (ci := 5) (k := 1) C gX5 inX5 rfl (by decide) rfl fl_X5_13 hK hP 0 rfl rfl dX5_get_26 ?_
        refine lv_iload_n hx hb dX5_get_29 rfl (lv_at hl 0 rfl) ?_
        refine tq_iald (n := 120) (i := i) (f := vas) C hK hP 2 0 rfl rfl (by omega) (Nat.le_of_ble_eq_true rfl) dX5_get_30 ?_
        exact tq_iret (v := (nI (vas i))) C rfl (0) hP hD hS (Or.inl ⟨⟨k, hk, hkx, Or.inl ⟨vas i, (hPM.get hi hsi _).mpr rfl, rfl⟩⟩, rfl⟩) (Nat.le_of_ble_eq_true rfl) (Nat.le_of_ble_eq_true rfl) dX5_get_31
      · exact absurd h18 (tq_neg1 (by omega))
    · have hno2 : ∀ i, i < sz → sto i ≠ k := fun i hi q => hno i hi (by rw [q])
      have hnS := (hPM.no hno2).2
      refine lv_istore_n (lv' := [(2, .int ((-1))), (0, .ref (bb 0)), (1, .int (nI (k)))]) hx hb dX5_get_15 rfl hl (by decide) rfl (fun ls hl => ?_)
      refine lv_iload_n hx hb dX5_get_16 rfl (lv_at hl 0 rfl) ?_
      refine lv_iconst (v := (-1)) hx hb dX5_get_17 (by decide) ?_
      refine lv_icmp_ne (tgt := 25) hx hb dX5_get_18 (by decide) (fun h18 => ?_) (fun h18 => ?_)
      · exact absurd rfl h18
      · refine lv_iconst (v := (-1)) hx hb dX5_get_21 (by decide) ?_
        refine lv_goto (tgt := 31) hx hb dX5_get_22 (by decide) ?_
        exact tq_iret (v := ((-1))) C rfl (0) hP hD hS (Or.inl ⟨⟨k, hk, hkx, Or.inr ⟨hnS, rfl⟩⟩, rfl⟩) (Nat.le_of_ble_eq_true rfl) (Nat.le_of_ble_eq_true rfl) dX5_get_31
  · refine lv_if_ne (tgt := 10) hx hb dX5_get_5 (by decide) (fun h9 => absurd (by decide : nI 0 = 0) h9) (fun _ => ?_)
    refine lv_iconst (v := nI 0) hx hb dX5_get_8 (by decide) ?_
    exact tq_iret (v := (nI (0))) C rfl (1) hP hD hS (Or.inr ⟨hn, rfl⟩) (Nat.le_of_ble_eq_true rfl) (Nat.le_of_ble_eq_true rfl) dX5_get_9
set_option maxHeartbeats 4000000 in
set_option maxRecDepth 100000 in
theorem c_X5_getByLinear (l : Launch) (D : va_G) (cy : ClassId) (bb : Nat → Nat) (sto : Nat → Nat) (vas : Nat → Nat) (sz : Nat) (cap : Nat) (low : Nat) (hig : Nat) (dpt : Nat → Nat) (glo : Nat) (ext : Nat → Nat) (mdb : Int32) (mhl : Int32) (msp : Int32) (mmg : Int32) (lin : Nat → Nat) (mlv : Nat) (mpt : Nat) (mls : Int32) (mov : Nat → Nat) (thr : Nat) (kx : Int32) (S : List (Nat × Nat)) (dep : Nat → Nat) (E L : List Nat) (hMR : MR sto vas sz dpt ext lin mov S dep E L) (hMC : MC cap low hig glo mlv mpt dep)  : tq_I (S := Nat) l yX5_getByLinear cX5_getByLinear 2 (some .int) 3 65 0 0 D cy (wM cy bb sto vas sz cap low hig dpt glo ext mdb mhl msp mmg lin mlv mpt mls mov thr) [.ref (bb 0), .int (kx)] (fun r u => ((getP S kx r) ∧ u = 0) ∨ (¬ (isKey kx) ∧ u = 1)) (fun u => (wM cy bb sto vas sz cap low hig dpt glo ext mdb mhl msp mmg lin mlv mpt mls mov u)) := by
  refine tq_I.mk (by decide) (Nat.le_of_ble_eq_true rfl) ?_
  intro p e s m args below meth c A C hP hK hD hS hA ls hl
  obtain ⟨hx, hb, hml, hown, hrt, hlk, hT⟩ := id C
  have hl : lv_has ls 2 [(0, .ref (bb 0)), (1, .int (kx))] := hl
  refine lv_aload_n hx hb dX5_getByLinear_0 rfl (lv_at hl 0 rfl) ?_
  refine lv_iload_n hx hb dX5_getByLinear_1 rfl (lv_at hl 1 rfl) ?_
  refine tq_callI (W3 := fun u => (wM cy bb sto vas sz cap low hig dpt glo ext mdb mhl msp mmg lin mlv mpt mls mov u)) (wr := []) (va_runV C.fix (As := [.int (kx)]) (rest := []) ((c_X5_get l D cy bb sto vas sz cap low hig dpt glo ext mdb mhl msp mmg lin mlv mpt mls mov thr kx S dep E L hMR hMC) s.heap.size) (tq_cV (n := 1) C ml_X5_145 im_X5_get se_X5_get ini_X5 cd_X5_get ⟨by decide, by decide, by decide +kernel⟩ ⟨Nat.le_of_ble_eq_true rfl, Nat.le_of_ble_eq_true rfl⟩) ⟨tq_Pc.blind, va_recv hK hP (ci := 5) (q0 := 0) rfl rfl, tq_preC C hK hP hD⟩ rfl rfl hl.1 rfl (lv_room (Nat.le_of_ble_eq_true rfl)) dX5_getByLinear_2 ⟨Nat.le_of_ble_eq_true rfl, Nat.le_of_ble_eq_true rfl⟩) hP hD hS hA [0, 1, 2, 3, 4, 5, 6] [] [0, 1, 2, 3, 4, 5, 6] rfl rfl (by decide) (by decide) (by decide) (fun _ => rfl) (fun r2 u2 H locs hr2 hP hD hS => ?_)
  obtain ⟨thr2, rfl⟩ : ∃ z, z = u2 := ⟨_, rfl⟩
  try dsimp only at hr2
  have hP : va_P D vwCl (wM cy bb sto vas sz cap low hig dpt glo ext mdb mhl msp mmg lin mlv mpt mls mov thr2) H := hP
  have hD : va_D A (wM cy bb sto vas sz cap low hig dpt glo ext mdb mhl msp mmg lin mlv mpt mls mov thr2) := hD
  exact tq_iret (v := (r2)) C rfl (thr2) hP hD hS (hr2) (Nat.le_of_ble_eq_true rfl) (Nat.le_of_ble_eq_true rfl) dX5_getByLinear_5
set_option maxHeartbeats 4000000 in
set_option maxRecDepth 100000 in
theorem c_X5_empties (l : Launch) (D : va_G) (cy : ClassId) (bb : Nat → Nat) (sto : Nat → Nat) (vas : Nat → Nat) (sz : Nat) (cap : Nat) (low : Nat) (hig : Nat) (dpt : Nat → Nat) (glo : Nat) (ext : Nat → Nat) (mdb : Int32) (mhl : Int32) (msp : Int32) (mmg : Int32) (lin : Nat → Nat) (mlv : Nat) (mpt : Nat) (mls : Int32) (mov : Nat → Nat) (thr : Nat)   : tq_I (S := (Nat → Nat)) l yX5_empties cX5_empties 3 (some .int) 0 0 0 0 D cy (wM cy bb sto vas sz cap low hig dpt glo ext mdb mhl msp mmg lin mlv mpt mls mov thr) [.ref (bb 0)] (fun r u => r = nI sz ∧ ∀ q, q < 256 → u q = 0) (fun u => (wM cy bb sto vas 0 cap low hig u 0 ext mdb mhl msp mmg lin 0 0 mls mov thr)) := by
  refine tq_I.mk (by decide) (Nat.le_of_ble_eq_true rfl) ?_
  intro p e s m args below meth c A C hP hK hD hS hA ls hl
  obtain ⟨hx, hb, hml, hown, hrt, hlk, hT⟩ := id C
  have hl : lv_has ls 3 [(0, .ref (bb 0))] := hl
  refine lv_aload_n hx hb dX5_empties_0 rfl (lv_at hl 0 rfl) ?_
  refine tq_get (C0 := RX5) (T := TX5) (N := 19) (ci := 5) (k := 2) C gX5 inX5 rfl (by decide) rfl fl_X5_51 hK hP 0 rfl rfl dX5_empties_1 ?_
  refine lv_istore_n (lv' := [(1, .int (nI (sz))), (0, .ref (bb 0))]) hx hb dX5_empties_4 rfl hl (by decide) rfl (fun ls hl => ?_)
  refine lv_aload_n hx hb dX5_empties_5 rfl (lv_at hl 1 rfl) ?_
  refine lv_iconst (v := nI 0) hx hb dX5_empties_6 (by decide) ?_
  refine tq_put (v := .int (nI (0))) (C0 := RX5) (T := TX5) (N := 19) (ci := 5) (k := 2) (ty := .int) C gX5 inX5 tyX5_ok nmX5 rfl (by decide) rfl fl_X5_51 rfl (by decide +kernel) hK hP hD hS 0 rfl rfl rfl (Nat.le_of_ble_eq_true rfl) dX5_empties_7 (fun H locs hP hD hS => ?_)
  have hP : va_P D vwCl (wM cy bb sto vas 0 cap low hig dpt glo ext mdb mhl msp mmg lin mlv mpt mls mov thr) H := hP
  have hD : va_D A (wM cy bb sto vas 0 cap low hig dpt glo ext mdb mhl msp mmg lin mlv mpt mls mov thr) := hD
  refine lv_aload_n hx hb dX5_empties_10 rfl (lv_at hl 1 rfl) ?_
  refine lv_iconst (v := nI 0) hx hb dX5_empties_11 (by decide) ?_
  refine tq_put (v := .int (nI (0))) (C0 := RX5) (T := TX5) (N := 19) (ci := 5) (k := 7) (ty := .int) C gX5 inX5 tyX5_ok nmX5 rfl (by decide) rfl fl_X5_68 rfl (by decide +kernel) hK hP hD hS 0 rfl rfl rfl (Nat.le_of_ble_eq_true rfl) dX5_empties_12 (fun H locs hP hD hS => ?_)
  have hP : va_P D vwCl (wM cy bb sto vas 0 cap low hig dpt 0 ext mdb mhl msp mmg lin mlv mpt mls mov thr) H := hP
  have hD : va_D A (wM cy bb sto vas 0 cap low hig dpt 0 ext mdb mhl msp mmg lin mlv mpt mls mov thr) := hD
  refine lv_aload_n hx hb dX5_empties_15 rfl (lv_at hl 1 rfl) ?_
  refine lv_iconst (v := nI 0) hx hb dX5_empties_16 (by decide) ?_
  refine tq_put (v := .int (nI (0))) (C0 := RX5) (T := TX5) (N := 19) (ci := 5) (k := 14) (ty := .int) C gX5 inX5 tyX5_ok nmX5 rfl (by decide) rfl fl_X5_102 rfl (by decide +kernel) hK hP hD hS 0 rfl rfl rfl (Nat.le_of_ble_eq_true rfl) dX5_empties_17 (fun H locs hP hD hS => ?_)
  have hP : va_P D vwCl (wM cy bb sto vas 0 cap low hig dpt 0 ext mdb mhl msp mmg lin 0 mpt mls mov thr) H := hP
  have hD : va_D A (wM cy bb sto vas 0 cap low hig dpt 0 ext mdb mhl msp mmg lin 0 mpt mls mov thr) := hD
  refine lv_aload_n hx hb dX5_empties_20 rfl (lv_at hl 1 rfl) ?_
  refine lv_iconst (v := nI 0) hx hb dX5_empties_21 (by decide) ?_
  refine tq_put (v := .int (nI (0))) (C0 := RX5) (T := TX5) (N := 19) (ci := 5) (k := 15) (ty := .int) C gX5 inX5 tyX5_ok nmX5 rfl (by decide) rfl fl_X5_105 rfl (by decide +kernel) hK hP hD hS 0 rfl rfl rfl (Nat.le_of_ble_eq_true rfl) dX5_empties_22 (fun H locs hP hD hS => ?_)
  have hP : va_P D vwCl (wM cy bb sto vas 0 cap low hig dpt 0 ext mdb mhl msp mmg lin 0 0 mls mov thr) H := hP
  have hD : va_D A (wM cy bb sto vas 0 cap low hig dpt 0 ext mdb mhl msp mmg lin 0 0 mls mov thr) := hD
  refine lv_iconst (v := nI 0) hx hb dX5_empties_25 (by decide) ?_
  refine lv_istore_n (lv' := [(2, .int (nI (0))), (1, .int (nI (sz))), (0, .ref (bb 0))]) hx hb dX5_empties_26 rfl hl (by decide) rfl (fun ls hl => ?_)
  suffices hlp27 : ∀ (n27 : Nat) (i : Nat) (dpt1 : Nat → Nat), 256 - i < n27 → (i ≤ 256) → (∀ q, q < i → dpt1 q = 0) → ∀ (H : Heap) (locs : List Loc), va_P D vwCl (wM cy bb sto vas 0 cap low hig dpt1 0 ext mdb mhl msp mmg lin 0 0 mls mov thr) H → va_D A (wM cy bb sto vas 0 cap low hig dpt1 0 ext mdb mhl msp mmg lin 0 0 mls mov thr) → va_S A s.heap H locs → ∀ ls : Array Slot, lv_has ls 3 [(0, .ref (bb 0)), (1, .int (nI (sz))), (2, .int (nI (i)))] → W p l e ({ frames := 0, cells := 0, slots := 0, locals := 0 } : Room) s m args below meth c H locs 0 0 (MQ below (va_Qi (S := (Nat → Nat)) (fun r u => r = nI sz ∧ ∀ q, q < 256 → u q = 0) (tq_B D A (fun u => (wM cy bb sto vas 0 cap low hig u 0 ext mdb mhl msp mmg lin 0 0 mls mov thr))) A) args s 0 0 A) (F0 m 27 ls []) from
    hlp27 257 0 dpt (by omega) (by omega) (fun q hq => absurd hq (Nat.not_lt_zero _)) _ _ hP hD hS _ (lv_sub hl [2, 1, 0] rfl)
  intro n27
  induction n27 with
  | zero => intro i dpt1 hf; exact absurd hf (Nat.not_lt_zero _)
  | succ n27 ih27 =>
    intro i dpt1 hf27 hi hq H locs hP hD hS ls hl
    refine lv_iload_n hx hb dX5_empties_27 rfl (lv_at hl 2 rfl) ?_
    refine lv_sipush (v := nI 256) hx hb dX5_empties_28 (by decide) ?_
    refine tq_icmp_ge (tgt := 47) C (by omega) (by omega) dX5_empties_31 (by decide) (fun h31 => ?_) (fun h31 => ?_)
    · refine lv_iload_n hx hb dX5_empties_47 rfl (lv_at hl 1 rfl) ?_
      exact tq_iret (v := (nI (sz))) C rfl (dpt1) hP hD hS (⟨rfl, fun q hq9 => hq q (by omega)⟩) (Nat.le_of_ble_eq_true rfl) (Nat.le_of_ble_eq_true rfl) dX5_empties_48
    · refine lv_aload_n hx hb dX5_empties_34 rfl (lv_at hl 0 rfl) ?_
      refine tq_get (C0 := RX5) (T := TX5) (N := 19) (ci := 5) (k := 6) C gX5 inX5 rfl (by decide) rfl fl_X5_26 hK hP 0 rfl rfl dX5_empties_35 ?_
      refine lv_iload_n hx hb dX5_empties_38 rfl (lv_at hl 2 rfl) ?_
      refine lv_iconst (v := nI 0) hx hb dX5_empties_39 (by decide) ?_
      refine tq_iast (n := 256) (i := i) (v := 0) (f := dpt1) C hK hP hD hS 3 0 rfl rfl (by omega) (Nat.le_of_ble_eq_true rfl) dX5_empties_40 (fun H locs hP hD hS => ?_)
      have hP : va_P D vwCl (wM cy bb sto vas 0 cap low hig (va_up dpt1 i 0) 0 ext mdb mhl msp mmg lin 0 0 mls mov thr) H := hP
      have hD : va_D A (wM cy bb sto vas 0 cap low hig (va_up dpt1 i 0) 0 ext mdb mhl msp mmg lin 0 0 mls mov thr) := hD
      refine lv_iinc (v := (nI (i + 1))) (lv' := [(2, .int (nI (i + 1))), (0, .ref (bb 0)), (1, .int (nI (sz)))]) hx hb dX5_empties_41 hl (k := 2) rfl (tq_inc1 _) (by decide) rfl (fun ls hl => ?_)
      refine lv_goto (tgt := 27) hx hb dX5_empties_44 (by decide) ?_
      exact ih27 (i + 1) (va_up dpt1 i 0) (by omega) (by omega) (fun q hq9 => by
        by_cases z : q = i
        · rw [z, up_s]
        · rw [up_n _ _ z]; exact hq q (by omega)) _ _ hP hD hS _ (lv_sub hl [1, 2, 0] rfl)
set_option maxHeartbeats 4000000 in
set_option maxRecDepth 100000 in
theorem c_X5_clear (l : Launch) (D : va_G) (cy : ClassId) (bb : Nat → Nat) (sto : Nat → Nat) (vas : Nat → Nat) (sz : Nat) (cap : Nat) (low : Nat) (hig : Nat) (dpt : Nat → Nat) (glo : Nat) (ext : Nat → Nat) (mdb : Int32) (mhl : Int32) (msp : Int32) (mmg : Int32) (lin : Nat → Nat) (mlv : Nat) (mpt : Nat) (mls : Int32) (mov : Nat → Nat) (thr : Nat)  (S : List (Nat × Nat)) (dep : Nat → Nat) (E L : List Nat) (hMR : MR sto vas sz dpt ext lin mov S dep E L) (hMC : MC cap low hig glo mlv mpt dep)  : tq_I (S := (Nat → Nat)) l yX5_clear cX5_clear 1 (some .int) 1 22 0 0 D cy (wM cy bb sto vas sz cap low hig dpt glo ext mdb mhl msp mmg lin mlv mpt mls mov thr) [.ref (bb 0)] (fun r u => r = nI sz ∧ ∃ S2 dep2 E2 L2, MR sto vas 0 u ext lin mov S2 dep2 E2 L2 ∧ MC cap low hig 0 0 0 dep2 ∧ mkM S2 cap low hig dep2 0 E2 mdb mhl msp mmg L2 0 0 mls = aclr (mkM S cap low hig dep glo E mdb mhl msp mmg L mlv mpt mls) cap) (fun u => (wM cy bb sto vas 0 cap low hig u 0 ext mdb mhl msp mmg lin 0 0 mls mov 0)) := by
  refine tq_I.mk (by decide) (Nat.le_of_ble_eq_true rfl) ?_
  intro p e s m args below meth c A C hP hK hD hS hA ls hl
  obtain ⟨hx, hb, hml, hown, hrt, hlk, hT⟩ := id C
  have hl : lv_has ls 1 [(0, .ref (bb 0))] := hl
  obtain ⟨hzS, hzE, hzL, hz120, hd, hAE, hAL, hPM, hKE, hKL, hSS, hbd⟩ := id hMR
  obtain ⟨hXo, hY, ⟨hcp1, hcp2⟩, ⟨hlo, hh1, hh2⟩⟩ := id hMC
  refine lv_aload_n hx hb dX5_clear_0 rfl (lv_at hl 0 rfl) ?_
  refine lv_iconst (v := nI 0) hx hb dX5_clear_1 (by decide) ?_
  refine tq_put (v := .int (nI (0))) (C0 := RX5) (T := TX5) (N := 19) (ci := 5) (k := 18) (ty := .int) C gX5 inX5 tyX5_ok nmX5 rfl (by decide) rfl fl_X5_38 rfl (by decide +kernel) hK hP hD hS 0 rfl rfl rfl (Nat.le_of_ble_eq_true rfl) dX5_clear_2 (fun H locs hP hD hS => ?_)
  have hP : va_P D vwCl (wM cy bb sto vas sz cap low hig dpt glo ext mdb mhl msp mmg lin mlv mpt mls mov 0) H := hP
  have hD : va_D A (wM cy bb sto vas sz cap low hig dpt glo ext mdb mhl msp mmg lin mlv mpt mls mov 0) := hD
  refine lv_aload_n hx hb dX5_clear_5 rfl (lv_at hl 0 rfl) ?_
  refine tq_callI (W3 := fun u => (wM cy bb sto vas 0 cap low hig u 0 ext mdb mhl msp mmg lin 0 0 mls mov 0)) (wr := []) (va_runV C.fix (As := []) (rest := []) ((c_X5_empties l D cy bb sto vas sz cap low hig dpt glo ext mdb mhl msp mmg lin mlv mpt mls mov 0) H.size) (tq_cV (n := 0) C ml_X5_151 im_X5_empties se_X5_empties ini_X5 cd_X5_empties ⟨by decide, by decide, by decide +kernel⟩ ⟨Nat.le_of_ble_eq_true rfl, Nat.le_of_ble_eq_true rfl⟩) ⟨tq_Pc.blind, va_recv hK hP (ci := 5) (q0 := 0) rfl rfl, tq_preC C hK hP hD⟩ rfl rfl hl.1 rfl (lv_room (Nat.le_of_ble_eq_true rfl)) dX5_clear_6 ⟨Nat.le_of_ble_eq_true rfl, Nat.le_of_ble_eq_true rfl⟩) hP hD hS hA [0, 1, 2, 3, 4, 5, 6] [] [0, 1, 2, 3, 4, 5, 6] rfl rfl (by decide) (by decide) (by decide) (fun _ => rfl) (fun r6 u6 H locs hr6 hP hD hS => ?_)
  obtain ⟨dpt2, rfl⟩ : ∃ z, z = u6 := ⟨_, rfl⟩
  try dsimp only at hr6
  have hP : va_P D vwCl (wM cy bb sto vas 0 cap low hig dpt2 0 ext mdb mhl msp mmg lin 0 0 mls mov 0) H := hP
  have hD : va_D A (wM cy bb sto vas 0 cap low hig dpt2 0 ext mdb mhl msp mmg lin 0 0 mls mov 0) := hD
  exact tq_iret (v := (r6)) C rfl (dpt2) hP hD hS (⟨hr6.1, [], fun _ => 0, [], [], hMR.cleared hr6.2, hMC.cleared ⟨hcp1, hcp2⟩, rfl⟩) (Nat.le_of_ble_eq_true rfl) (Nat.le_of_ble_eq_true rfl) dX5_clear_9
set_option maxHeartbeats 4000000 in
set_option maxRecDepth 100000 in
theorem c_X5_setLoads (l : Launch) (D : va_G) (cy : ClassId) (bb : Nat → Nat) (sto : Nat → Nat) (vas : Nat → Nat) (sz : Nat) (cap : Nat) (low : Nat) (hig : Nat) (dpt : Nat → Nat) (glo : Nat) (ext : Nat → Nat) (mdb : Int32) (mhl : Int32) (msp : Int32) (mmg : Int32) (lin : Nat → Nat) (mlv : Nat) (mpt : Nat) (mls : Int32) (mov : Nat → Nat) (thr : Nat) (lx : Int32) (hx9 : Int32) (S : List (Nat × Nat)) (dep : Nat → Nat) (E L : List Nat) (hMR : MR sto vas sz dpt ext lin mov S dep E L) (hMC : MC cap low hig glo mlv mpt dep)  : tq_I (S := Nat × Nat × Nat) l yX5_setLoads cX5_setLoads 4 (some .int) 1 22 0 0 D cy (wM cy bb sto vas sz cap low hig dpt glo ext mdb mhl msp mmg lin mlv mpt mls mov thr) [.ref (bb 0), .int (lx), .int (hx9)] (fun r u => ((∃ lo hi : Nat, lo ≤ 50 ∧ 50 ≤ hi ∧ hi ≤ 200 ∧ 2 * lo ≤ hi ∧ lx = nI lo ∧ hx9 = nI hi ∧ r = nI hig ∧ ∃ S2 dep2 E2 L2, MR sto vas sz dpt ext lin mov S2 dep2 E2 L2 ∧ MC cap u.1 u.2.1 glo mlv mpt dep2 ∧ mkM S2 cap u.1 u.2.1 dep2 glo E2 mdb mhl msp mmg L2 mlv mpt mls = ((S, cap, lo, hi), (mkM S cap low hig dep glo E mdb mhl msp mmg L mlv mpt mls).2)) ∧ u.2.2 = 0) ∨ (¬ (∃ lo hi : Nat, lo ≤ 50 ∧ 50 ≤ hi ∧ hi ≤ 200 ∧ 2 * lo ≤ hi ∧ lx = nI lo ∧ hx9 = nI hi) ∧ (∃ S2 dep2 E2 L2, MR sto vas sz dpt ext lin mov S2 dep2 E2 L2 ∧ MC cap u.1 u.2.1 glo mlv mpt dep2 ∧ mkM S2 cap u.1 u.2.1 dep2 glo E2 mdb mhl msp mmg L2 mlv mpt mls = (mkM S cap low hig dep glo E mdb mhl msp mmg L mlv mpt mls)) ∧ u.2.2 = 1)) (fun u => (wM cy bb sto vas sz cap u.1 u.2.1 dpt glo ext mdb mhl msp mmg lin mlv mpt mls mov u.2.2)) := by
  refine tq_I.mk (by decide) (Nat.le_of_ble_eq_true rfl) ?_
  intro p e s m args below meth c A C hP hK hD hS hA ls hl
  obtain ⟨hx, hb, hml, hown, hrt, hlk, hT⟩ := id C
  have hl : lv_has ls 4 [(0, .ref (bb 0)), (1, .int (lx)), (2, .int (hx9))] := hl
  obtain ⟨hzS, hzE, hzL, hz120, hd, hAE, hAL, hPM, hKE, hKL, hSS, hbd⟩ := id hMR
  obtain ⟨hXo, hY, ⟨hcp1, hcp2⟩, ⟨hlo, hh1, hh2⟩⟩ := id hMC
  refine lv_aload_n hx hb dX5_setLoads_0 rfl (lv_at hl 0 rfl) ?_
  refine lv_iload_n hx hb dX5_setLoads_1 rfl (lv_at hl 1 rfl) ?_
  refine lv_iconst (v := nI 0) hx hb dX5_setLoads_2 (by decide) ?_
  refine lv_bipush (v := nI 50) hx hb dX5_setLoads_3 (by decide) ?_
  refine tq_callF (va_runS C.fix (As := [.int (lx), .int (nI 0), .int (nI 50)]) (rest := [.ref (bb 0)]) (c_X5_in l D cy lx (nI 0) (nI 50)) (tq_cS (n := 3) C ml_X5_42 sm_X5_in ini_X5 cd_X5_in ⟨by decide, by decide, by decide +kernel⟩ ⟨Nat.le_of_ble_eq_true rfl, Nat.le_of_ble_eq_true rfl⟩) ⟨tq_Pf.blind, tq_preF C hK (hP.sub [] rfl)⟩ rfl rfl hl.1 rfl (lv_room (Nat.le_of_ble_eq_true rfl)) dX5_setLoads_5 ⟨Nat.le_of_ble_eq_true rfl, Nat.le_of_ble_eq_true rfl⟩) (fun r5 hr5 => ?_)
  rcases hr5 with ⟨hr5, rfl⟩ | ⟨hr5, rfl⟩
  · obtain ⟨lo, hlo9, hlx⟩ := tq_rng (x := lx) (M := 50) (by decide) (Int32.not_lt.mpr hr5.1) hr5.2
    rw [hlx] at hl
    refine lv_if_eq (tgt := 34) hx hb dX5_setLoads_8 (by decide) (fun h9 => absurd h9 (by decide)) (fun _ => ?_)
    refine lv_iload_n hx hb dX5_setLoads_11 rfl (lv_at hl 2 rfl) ?_
    refine lv_bipush (v := nI 50) hx hb dX5_setLoads_12 (by decide) ?_
    refine lv_sipush (v := nI 200) hx hb dX5_setLoads_14 (by decide) ?_
    refine tq_callF (va_runS C.fix (As := [.int (hx9), .int (nI 50), .int (nI 200)]) (rest := [.ref (bb 0)]) (c_X5_in l D cy hx9 (nI 50) (nI 200)) (tq_cS (n := 3) C ml_X5_42 sm_X5_in ini_X5 cd_X5_in ⟨by decide, by decide, by decide +kernel⟩ ⟨Nat.le_of_ble_eq_true rfl, Nat.le_of_ble_eq_true rfl⟩) ⟨tq_Pf.blind, tq_preF C hK (hP.sub [] rfl)⟩ rfl rfl hl.1 rfl (lv_room (Nat.le_of_ble_eq_true rfl)) dX5_setLoads_17 ⟨Nat.le_of_ble_eq_true rfl, Nat.le_of_ble_eq_true rfl⟩) (fun r17 hr17 => ?_)
    rcases hr17 with ⟨hr17, rfl⟩ | ⟨hr17, rfl⟩
    · obtain ⟨hi, hhi, hhx⟩ := tq_rng (x := hx9) (M := 200) (by decide) (Int32.not_lt.mpr (Int32.le_trans (by decide) hr17.1)) hr17.2
      have hhi2 : 50 ≤ hi := Nat.le_of_not_lt (fun q => absurd hr17.1 (Int32.not_le.mpr (by rw [hhx]; exact nI_lt q (by decide))))
      rw [hhx] at hl
      refine lv_if_eq (tgt := 34) hx hb dX5_setLoads_20 (by decide) (fun h9 => absurd h9 (by decide)) (fun _ => ?_)
      refine lv_iconst (v := nI 2) hx hb dX5_setLoads_23 (by decide) ?_
      refine lv_iload_n hx hb dX5_setLoads_24 rfl (lv_at hl 1 rfl) ?_
      refine tq_imul C dX5_setLoads_25 ?_
      refine lv_iload_n hx hb dX5_setLoads_26 rfl (lv_at hl 2 rfl) ?_
      refine tq_icmp_gt (tgt := 34) C (by omega) (by omega) dX5_setLoads_27 (by decide) (fun h27 => ?_) (fun h27 => ?_)
      · refine lv_iconst (v := nI 0) hx hb dX5_setLoads_34 (by decide) ?_
        refine tq_callI (W3 := fun u => (wM cy bb sto vas sz cap low hig dpt glo ext mdb mhl msp mmg lin mlv mpt mls mov 1)) (wr := []) (va_runV C.fix (As := [.int (nI (0))]) (rest := []) ((c_X5_asked_0 l D cy bb sto vas sz cap low hig dpt glo ext mdb mhl msp mmg lin mlv mpt mls mov thr 0 rfl) s.heap.size) (tq_cV (n := 1) C ml_X5_46 im_X5_asked se_X5_asked ini_X5 cd_X5_asked ⟨by decide, by decide, by decide +kernel⟩ ⟨Nat.le_of_ble_eq_true rfl, Nat.le_of_ble_eq_true rfl⟩) ⟨tq_Pc.blind, va_recv hK hP (ci := 5) (q0 := 0) rfl rfl, tq_preC C hK hP hD⟩ rfl rfl hl.1 rfl (lv_room (Nat.le_of_ble_eq_true rfl)) dX5_setLoads_35 ⟨Nat.le_of_ble_eq_true rfl, Nat.le_of_ble_eq_true rfl⟩) hP hD hS hA [0, 1, 2, 3, 4, 5, 6] [] [0, 1, 2, 3, 4, 5, 6] rfl rfl (by decide) (by decide) (by decide) (fun _ => rfl) (fun r35 u35 H locs hr35 hP hD hS => ?_)
        have hP : va_P D vwCl (wM cy bb sto vas sz cap low hig dpt glo ext mdb mhl msp mmg lin mlv mpt mls mov 1) H := hP
        have hD : va_D A (wM cy bb sto vas sz cap low hig dpt glo ext mdb mhl msp mmg lin mlv mpt mls mov 1) := hD
        obtain rfl := hr35.symm
        refine lv_if_ne (tgt := 43) hx hb dX5_setLoads_38 (by decide) (fun h9 => absurd (by decide : nI 0 = 0) h9) (fun _ => ?_)
        refine lv_iconst (v := nI 0) hx hb dX5_setLoads_41 (by decide) ?_
        exact tq_iret (v := (nI (0))) C rfl (low, hig, 1) hP hD hS (Or.inr ⟨fun ⟨lo7, hi7, a1, a2, a3, a4, a5, a6⟩ => (by have e1 := (nI_eq (by omega) (by omega)).mp (hlx.symm.trans a5); have e2 := (nI_eq (by omega) (by omega)).mp (hhx.symm.trans a6); omega), ⟨S, dep, E, L, hMR, hMC, rfl⟩, rfl⟩) (Nat.le_of_ble_eq_true rfl) (Nat.le_of_ble_eq_true rfl) dX5_setLoads_42
      · refine lv_iconst (v := nI 1) hx hb dX5_setLoads_30 (by decide) ?_
        refine lv_goto (tgt := 35) hx hb dX5_setLoads_31 (by decide) ?_
        refine tq_callI (W3 := fun u => (wM cy bb sto vas sz cap low hig dpt glo ext mdb mhl msp mmg lin mlv mpt mls mov 0)) (wr := []) (va_runV C.fix (As := [.int (nI (1))]) (rest := []) ((c_X5_asked_1 l D cy bb sto vas sz cap low hig dpt glo ext mdb mhl msp mmg lin mlv mpt mls mov thr 1 rfl) s.heap.size) (tq_cV (n := 1) C ml_X5_46 im_X5_asked se_X5_asked ini_X5 cd_X5_asked ⟨by decide, by decide, by decide +kernel⟩ ⟨Nat.le_of_ble_eq_true rfl, Nat.le_of_ble_eq_true rfl⟩) ⟨tq_Pc.blind, va_recv hK hP (ci := 5) (q0 := 0) rfl rfl, tq_preC C hK hP hD⟩ rfl rfl hl.1 rfl (lv_room (Nat.le_of_ble_eq_true rfl)) dX5_setLoads_35 ⟨Nat.le_of_ble_eq_true rfl, Nat.le_of_ble_eq_true rfl⟩) hP hD hS hA [0, 1, 2, 3, 4, 5, 6] [] [0, 1, 2, 3, 4, 5, 6] rfl rfl (by decide) (by decide) (by decide) (fun _ => rfl) (fun r35 u35 H locs hr35 hP hD hS => ?_)
        have hP : va_P D vwCl (wM cy bb sto vas sz cap low hig dpt glo ext mdb mhl msp mmg lin mlv mpt mls mov 0) H := hP
        have hD : va_D A (wM cy bb sto vas sz cap low hig dpt glo ext mdb mhl msp mmg lin mlv mpt mls mov 0) := hD
        obtain rfl := hr35.symm
        refine lv_if_ne (tgt := 43) hx hb dX5_setLoads_38 (by decide) (fun _ => ?_) (fun h9 => absurd h9 (by decide))
        refine lv_aload_n hx hb dX5_setLoads_43 rfl (lv_at hl 0 rfl) ?_
        refine tq_get (C0 := RX5) (T := TX5) (N := 19) (ci := 5) (k := 5) C gX5 inX5 rfl (by decide) rfl fl_X5_23 hK hP 0 rfl rfl dX5_setLoads_44 ?_
        refine lv_istore_n (lv' := [(3, .int (nI (hig))), (0, .ref (bb 0)), (1, .int (nI (lo))), (2, .int (nI (hi)))]) hx hb dX5_setLoads_47 rfl hl (by decide) rfl (fun ls hl => ?_)
        refine lv_aload_n hx hb dX5_setLoads_48 rfl (lv_at hl 1 rfl) ?_
        refine lv_iload_n hx hb dX5_setLoads_49 rfl (lv_at hl 2 rfl) ?_
        refine tq_put (v := .int (nI (lo))) (C0 := RX5) (T := TX5) (N := 19) (ci := 5) (k := 4) (ty := .int) C gX5 inX5 tyX5_ok nmX5 rfl (by decide) rfl fl_X5_20 rfl (by decide +kernel) hK hP hD hS 0 rfl rfl rfl (Nat.le_of_ble_eq_true rfl) dX5_setLoads_50 (fun H locs hP hD hS => ?_)
        have hP : va_P D vwCl (wM cy bb sto vas sz cap lo hig dpt glo ext mdb mhl msp mmg lin mlv mpt mls mov 0) H := hP
        have hD : va_D A (wM cy bb sto vas sz cap lo hig dpt glo ext mdb mhl msp mmg lin mlv mpt mls mov 0) := hD
        refine lv_aload_n hx hb dX5_setLoads_53 rfl (lv_at hl 1 rfl) ?_
        refine lv_iload_n hx hb dX5_setLoads_54 rfl (lv_at hl 3 rfl) ?_
        refine tq_put (v := .int (nI (hi))) (C0 := RX5) (T := TX5) (N := 19) (ci := 5) (k := 5) (ty := .int) C gX5 inX5 tyX5_ok nmX5 rfl (by decide) rfl fl_X5_23 rfl (by decide +kernel) hK hP hD hS 0 rfl rfl rfl (Nat.le_of_ble_eq_true rfl) dX5_setLoads_55 (fun H locs hP hD hS => ?_)
        have hP : va_P D vwCl (wM cy bb sto vas sz cap lo hi dpt glo ext mdb mhl msp mmg lin mlv mpt mls mov 0) H := hP
        have hD : va_D A (wM cy bb sto vas sz cap lo hi dpt glo ext mdb mhl msp mmg lin mlv mpt mls mov 0) := hD
        refine lv_iload_n hx hb dX5_setLoads_58 rfl (lv_at hl 0 rfl) ?_
        exact tq_iret (v := (nI (hig))) C rfl (lo, hi, 0) hP hD hS (Or.inl ⟨⟨lo, hi, by omega, hhi2, by omega, by omega, hlx, hhx, rfl, S, dep, E, L, hMR, ⟨hXo, hY, ⟨hcp1, hcp2⟩, by omega, hhi2, by omega⟩, rfl⟩, rfl⟩) (Nat.le_of_ble_eq_true rfl) (Nat.le_of_ble_eq_true rfl) dX5_setLoads_59
    · refine lv_if_eq (tgt := 34) hx hb dX5_setLoads_20 (by decide) (fun _ => ?_) (fun h9 => absurd (by decide : nI 0 = 0) h9)
      refine lv_iconst (v := nI 0) hx hb dX5_setLoads_34 (by decide) ?_
      refine tq_callI (W3 := fun u => (wM cy bb sto vas sz cap low hig dpt glo ext mdb mhl msp mmg lin mlv mpt mls mov 1)) (wr := []) (va_runV C.fix (As := [.int (nI (0))]) (rest := []) ((c_X5_asked_0 l D cy bb sto vas sz cap low hig dpt glo ext mdb mhl msp mmg lin mlv mpt mls mov thr 0 rfl) s.heap.size) (tq_cV (n := 1) C ml_X5_46 im_X5_asked se_X5_asked ini_X5 cd_X5_asked ⟨by decide, by decide, by decide +kernel⟩ ⟨Nat.le_of_ble_eq_true rfl, Nat.le_of_ble_eq_true rfl⟩) ⟨tq_Pc.blind, va_recv hK hP (ci := 5) (q0 := 0) rfl rfl, tq_preC C hK hP hD⟩ rfl rfl hl.1 rfl (lv_room (Nat.le_of_ble_eq_true rfl)) dX5_setLoads_35 ⟨Nat.le_of_ble_eq_true rfl, Nat.le_of_ble_eq_true rfl⟩) hP hD hS hA [0, 1, 2, 3, 4, 5, 6] [] [0, 1, 2, 3, 4, 5, 6] rfl rfl (by decide) (by decide) (by decide) (fun _ => rfl) (fun r35 u35 H locs hr35 hP hD hS => ?_)
      have hP : va_P D vwCl (wM cy bb sto vas sz cap low hig dpt glo ext mdb mhl msp mmg lin mlv mpt mls mov 1) H := hP
      have hD : va_D A (wM cy bb sto vas sz cap low hig dpt glo ext mdb mhl msp mmg lin mlv mpt mls mov 1) := hD
      obtain rfl := hr35.symm
      refine lv_if_ne (tgt := 43) hx hb dX5_setLoads_38 (by decide) (fun h9 => absurd (by decide : nI 0 = 0) h9) (fun _ => ?_)
      refine lv_iconst (v := nI 0) hx hb dX5_setLoads_41 (by decide) ?_
      exact tq_iret (v := (nI (0))) C rfl (low, hig, 1) hP hD hS (Or.inr ⟨fun ⟨lo7, hi7, a1, a2, a3, a4, a5, a6⟩ => hr17 (by rw [a6]; exact ⟨nI_le a2 (by omega), nI_le a3 (by decide)⟩), ⟨S, dep, E, L, hMR, hMC, rfl⟩, rfl⟩) (Nat.le_of_ble_eq_true rfl) (Nat.le_of_ble_eq_true rfl) dX5_setLoads_42
  · refine lv_if_eq (tgt := 34) hx hb dX5_setLoads_8 (by decide) (fun _ => ?_) (fun h9 => absurd (by decide : nI 0 = 0) h9)
    refine lv_iconst (v := nI 0) hx hb dX5_setLoads_34 (by decide) ?_
    refine tq_callI (W3 := fun u => (wM cy bb sto vas sz cap low hig dpt glo ext mdb mhl msp mmg lin mlv mpt mls mov 1)) (wr := []) (va_runV C.fix (As := [.int (nI (0))]) (rest := []) ((c_X5_asked_0 l D cy bb sto vas sz cap low hig dpt glo ext mdb mhl msp mmg lin mlv mpt mls mov thr 0 rfl) s.heap.size) (tq_cV (n := 1) C ml_X5_46 im_X5_asked se_X5_asked ini_X5 cd_X5_asked ⟨by decide, by decide, by decide +kernel⟩ ⟨Nat.le_of_ble_eq_true rfl, Nat.le_of_ble_eq_true rfl⟩) ⟨tq_Pc.blind, va_recv hK hP (ci := 5) (q0 := 0) rfl rfl, tq_preC C hK hP hD⟩ rfl rfl hl.1 rfl (lv_room (Nat.le_of_ble_eq_true rfl)) dX5_setLoads_35 ⟨Nat.le_of_ble_eq_true rfl, Nat.le_of_ble_eq_true rfl⟩) hP hD hS hA [0, 1, 2, 3, 4, 5, 6] [] [0, 1, 2, 3, 4, 5, 6] rfl rfl (by decide) (by decide) (by decide) (fun _ => rfl) (fun r35 u35 H locs hr35 hP hD hS => ?_)
    have hP : va_P D vwCl (wM cy bb sto vas sz cap low hig dpt glo ext mdb mhl msp mmg lin mlv mpt mls mov 1) H := hP
    have hD : va_D A (wM cy bb sto vas sz cap low hig dpt glo ext mdb mhl msp mmg lin mlv mpt mls mov 1) := hD
    obtain rfl := hr35.symm
    refine lv_if_ne (tgt := 43) hx hb dX5_setLoads_38 (by decide) (fun h9 => absurd (by decide : nI 0 = 0) h9) (fun _ => ?_)
    refine lv_iconst (v := nI 0) hx hb dX5_setLoads_41 (by decide) ?_
    exact tq_iret (v := (nI (0))) C rfl (low, hig, 1) hP hD hS (Or.inr ⟨fun ⟨lo7, hi7, a1, a2, a3, a4, a5, a6⟩ => hr5 (by rw [a5]; exact ⟨nI_le (Nat.zero_le _) (by omega), nI_le a1 (by decide)⟩), ⟨S, dep, E, L, hMR, hMC, rfl⟩, rfl⟩) (Nat.le_of_ble_eq_true rfl) (Nat.le_of_ble_eq_true rfl) dX5_setLoads_42
set_option maxHeartbeats 4000000 in
set_option maxRecDepth 100000 in
theorem c_X5_put (l : Launch) (D : va_G) (cy : ClassId) (bb : Nat → Nat) (sto : Nat → Nat) (vas : Nat → Nat) (sz : Nat) (cap : Nat) (low : Nat) (hig : Nat) (dpt : Nat → Nat) (glo : Nat) (ext : Nat → Nat) (mdb : Int32) (mhl : Int32) (msp : Int32) (mmg : Int32) (lin : Nat → Nat) (mlv : Nat) (mpt : Nat) (mls : Int32) (mov : Nat → Nat) (thr : Nat) (kx : Int32) (vx : Int32) (S : List (Nat × Nat)) (dep : Nat → Nat) (E L : List Nat) (hMR : MR sto vas sz dpt ext lin mov S dep E L) (hMC : MC cap low hig glo mlv mpt dep)  : tq_I (S := (Nat → Nat) × (Nat → Nat) × Nat × (Nat → Nat) × Nat × (Nat → Nat) × Int32 × Int32 × (Nat → Nat) × Nat × Nat × Int32 × Nat) l yX5_put cX5_put 6 (some .int) 5 112 0 0 D cy (wM cy bb sto vas sz cap low hig dpt glo ext mdb mhl msp mmg lin mlv mpt mls mov thr) [.ref (bb 0), .int (kx), .int (vx)] (fun r u => (∃ k v, k < 65536 ∧ v < 1000000 ∧ kx = nI k ∧ vx = nI v ∧ ((∃ w, (k, w) ∈ S ∧ r = nI w ∧ (∃ S2 dep2 E2 L2, MR u.1 u.2.1 u.2.2.1 u.2.2.2.1 u.2.2.2.2.2.1 u.2.2.2.2.2.2.2.2.1 mov S2 dep2 E2 L2 ∧ MC cap low hig u.2.2.2.2.1 u.2.2.2.2.2.2.2.2.2.1 u.2.2.2.2.2.2.2.2.2.2.1 dep2 ∧ mkM S2 cap low hig dep2 u.2.2.2.2.1 E2 u.2.2.2.2.2.2.1 mhl u.2.2.2.2.2.2.2.1 mmg L2 u.2.2.2.2.2.2.2.2.2.1 u.2.2.2.2.2.2.2.2.2.2.1 u.2.2.2.2.2.2.2.2.2.2.2.1 = arep (mkM S cap low hig dep glo E mdb mhl msp mmg L mlv mpt mls) k v) ∧ u.2.2.2.2.2.2.2.2.2.2.2.2 = 0) ∨ ((∀ w, (k, w) ∉ S) ∧ sz < 120 ∧ r = -1 ∧ (∃ S2 dep2 E2 L2, MR u.1 u.2.1 u.2.2.1 u.2.2.2.1 u.2.2.2.2.2.1 u.2.2.2.2.2.2.2.2.1 mov S2 dep2 E2 L2 ∧ MC cap low hig u.2.2.2.2.1 u.2.2.2.2.2.2.2.2.2.1 u.2.2.2.2.2.2.2.2.2.2.1 dep2 ∧ mkM S2 cap low hig dep2 u.2.2.2.2.1 E2 u.2.2.2.2.2.2.1 mhl u.2.2.2.2.2.2.2.1 mmg L2 u.2.2.2.2.2.2.2.2.2.1 u.2.2.2.2.2.2.2.2.2.2.1 u.2.2.2.2.2.2.2.2.2.2.2.1 = aadd (mkM S cap low hig dep glo E mdb mhl msp mmg L mlv mpt mls) k v) ∧ u.2.2.2.2.2.2.2.2.2.2.2.2 = 0) ∨ ((∀ w, (k, w) ∉ S) ∧ sz = 120 ∧ (∃ S2 dep2 E2 L2, MR u.1 u.2.1 u.2.2.1 u.2.2.2.1 u.2.2.2.2.2.1 u.2.2.2.2.2.2.2.2.1 mov S2 dep2 E2 L2 ∧ MC cap low hig u.2.2.2.2.1 u.2.2.2.2.2.2.2.2.2.1 u.2.2.2.2.2.2.2.2.2.2.1 dep2 ∧ mkM S2 cap low hig dep2 u.2.2.2.2.1 E2 u.2.2.2.2.2.2.1 mhl u.2.2.2.2.2.2.2.1 mmg L2 u.2.2.2.2.2.2.2.2.2.1 u.2.2.2.2.2.2.2.2.2.2.1 u.2.2.2.2.2.2.2.2.2.2.2.1 = (mkM S cap low hig dep glo E mdb mhl msp mmg L mlv mpt mls)) ∧ u.2.2.2.2.2.2.2.2.2.2.2.2 = 2))) ∨ (¬ (isKey kx ∧ isVal vx) ∧ (∃ S2 dep2 E2 L2, MR u.1 u.2.1 u.2.2.1 u.2.2.2.1 u.2.2.2.2.2.1 u.2.2.2.2.2.2.2.2.1 mov S2 dep2 E2 L2 ∧ MC cap low hig u.2.2.2.2.1 u.2.2.2.2.2.2.2.2.2.1 u.2.2.2.2.2.2.2.2.2.2.1 dep2 ∧ mkM S2 cap low hig dep2 u.2.2.2.2.1 E2 u.2.2.2.2.2.2.1 mhl u.2.2.2.2.2.2.2.1 mmg L2 u.2.2.2.2.2.2.2.2.2.1 u.2.2.2.2.2.2.2.2.2.2.1 u.2.2.2.2.2.2.2.2.2.2.2.1 = (mkM S cap low hig dep glo E mdb mhl msp mmg L mlv mpt mls)) ∧ u.2.2.2.2.2.2.2.2.2.2.2.2 = 1)) (fun u => (wM cy bb u.1 u.2.1 u.2.2.1 cap low hig u.2.2.2.1 u.2.2.2.2.1 u.2.2.2.2.2.1 u.2.2.2.2.2.2.1 mhl u.2.2.2.2.2.2.2.1 mmg u.2.2.2.2.2.2.2.2.1 u.2.2.2.2.2.2.2.2.2.1 u.2.2.2.2.2.2.2.2.2.2.1 u.2.2.2.2.2.2.2.2.2.2.2.1 mov u.2.2.2.2.2.2.2.2.2.2.2.2)) := by
  refine tq_I.mk (by decide) (Nat.le_of_ble_eq_true rfl) ?_
  intro p e s m args below meth c A C hP hK hD hS hA ls hl
  obtain ⟨hx, hb, hml, hown, hrt, hlk, hT⟩ := id C
  have hl : lv_has ls 6 [(0, .ref (bb 0)), (1, .int (kx)), (2, .int (vx))] := hl
  obtain ⟨hzS, hzE, hzL, hz120, hd, hAE, hAL, hPM, hKE, hKL, hSS, hbd⟩ := id hMR
  obtain ⟨hXo, hY, ⟨hcp1, hcp2⟩, ⟨hlo, hh1, hh2⟩⟩ := id hMC
  refine lv_iload_n hx hb dX5_put_0 rfl (lv_at hl 1 rfl) ?_
  refine lv_iconst (v := nI 0) hx hb dX5_put_1 (by decide) ?_
  refine lv_ldc (v := 65535) hx hb hown (hT.use kc_X5_41 rfl) dX5_put_2 ?_
  refine tq_top (y := nI 65535) (by decide) ?_
  refine tq_callF (va_runS C.fix (As := [.int (kx), .int (nI 0), .int (nI 65535)]) (rest := []) (c_X5_in l D cy kx (nI 0) (nI 65535)) (tq_cS (n := 3) C ml_X5_42 sm_X5_in ini_X5 cd_X5_in ⟨by decide, by decide, by decide +kernel⟩ ⟨Nat.le_of_ble_eq_true rfl, Nat.le_of_ble_eq_true rfl⟩) ⟨tq_Pf.blind, tq_preF C hK (hP.sub [] rfl)⟩ rfl rfl hl.1 rfl (lv_room (Nat.le_of_ble_eq_true rfl)) dX5_put_4 ⟨Nat.le_of_ble_eq_true rfl, Nat.le_of_ble_eq_true rfl⟩) (fun r4 hr4 => ?_)
  rcases hr4 with ⟨hr4, rfl⟩ | ⟨hr4, rfl⟩
  · obtain ⟨k, hk, hkx⟩ := tq_rng (x := kx) (M := 65535) (by decide) (Int32.not_lt.mpr hr4.1) hr4.2
    rw [hkx] at hl
    refine lv_if_eq (tgt := 24) hx hb dX5_put_7 (by decide) (fun h9 => absurd h9 (by decide)) (fun _ => ?_)
    refine lv_iload_n hx hb dX5_put_10 rfl (lv_at hl 2 rfl) ?_
    refine lv_iconst (v := nI 0) hx hb dX5_put_11 (by decide) ?_
    refine lv_ldc (v := 999999) hx hb hown (hT.use kc_X5_125 rfl) dX5_put_12 ?_
    refine tq_top (y := nI 999999) (by decide) ?_
    refine tq_callF (va_runS C.fix (As := [.int (vx), .int (nI 0), .int (nI 999999)]) (rest := []) (c_X5_in l D cy vx (nI 0) (nI 999999)) (tq_cS (n := 3) C ml_X5_42 sm_X5_in ini_X5 cd_X5_in ⟨by decide, by decide, by decide +kernel⟩ ⟨Nat.le_of_ble_eq_true rfl, Nat.le_of_ble_eq_true rfl⟩) ⟨tq_Pf.blind, tq_preF C hK (hP.sub [] rfl)⟩ rfl rfl hl.1 rfl (lv_room (Nat.le_of_ble_eq_true rfl)) dX5_put_14 ⟨Nat.le_of_ble_eq_true rfl, Nat.le_of_ble_eq_true rfl⟩) (fun r14 hr14 => ?_)
    rcases hr14 with ⟨hr14, rfl⟩ | ⟨hr14, rfl⟩
    · obtain ⟨v, hv, hvx⟩ := tq_rng (x := vx) (M := 999999) (by decide) (Int32.not_lt.mpr hr14.1) hr14.2
      rw [hvx] at hl
      refine lv_if_eq (tgt := 24) hx hb dX5_put_17 (by decide) (fun h9 => absurd h9 (by decide)) (fun _ => ?_)
      refine lv_iconst (v := nI 1) hx hb dX5_put_20 (by decide) ?_
      refine lv_goto (tgt := 25) hx hb dX5_put_21 (by decide) ?_
      refine lv_istore_n (lv' := [(3, .int (nI (1))), (0, .ref (bb 0)), (1, .int (nI (k))), (2, .int (nI (v)))]) hx hb dX5_put_25 rfl hl (by decide) rfl (fun ls hl => ?_)
      refine lv_aload_n hx hb dX5_put_26 rfl (lv_at hl 1 rfl) ?_
      refine lv_iload_n hx hb dX5_put_27 rfl (lv_at hl 2 rfl) ?_
      refine tq_callF (va_runV C.fix (As := [.int (nI k)]) (rest := []) (c_X5_found l D cy bb sto vas sz cap low hig dpt glo ext mdb mhl msp mmg lin mlv mpt mls mov thr (nI k) hz120) (tq_cV (n := 1) C ml_X5_126 im_X5_found se_X5_found ini_X5 cd_X5_found ⟨by decide, by decide, by decide +kernel⟩ ⟨Nat.le_of_ble_eq_true rfl, Nat.le_of_ble_eq_true rfl⟩) ⟨tq_Pf.blind, va_recv hK hP (ci := 5) (q0 := 0) rfl rfl, tq_preF C hK hP⟩ rfl rfl hl.1 rfl (lv_room (Nat.le_of_ble_eq_true rfl)) dX5_put_28 ⟨Nat.le_of_ble_eq_true rfl, Nat.le_of_ble_eq_true rfl⟩) (fun r28 hr28 => ?_)
      rcases hr28 with ⟨i, hi, hki, rfl⟩ | ⟨hno, rfl⟩
      · have hbi := hbd i
        have hsi : sto i = k := ((nI_eq (by omega) (by omega)).mp hki).symm
        refine lv_istore (lv' := [(4, .int (nI (i))), (3, .int (nI (1))), (0, .ref (bb 0)), (1, .int (nI (k))), (2, .int (nI (v)))]) hx hb dX5_put_31 hl (by decide) rfl (fun ls hl => ?_)
        refine lv_aload_n hx hb dX5_put_33 rfl (lv_at hl 2 rfl) ?_
        refine lv_iload_n hx hb dX5_put_34 rfl (lv_at hl 1 rfl) ?_
        refine lv_if_ne (tgt := 42) hx hb dX5_put_35 (by decide) (fun _ => ?_) (fun h9 => absurd h9 (by decide))
        refine lv_iload hx hb dX5_put_42 (lv_at hl 0 rfl) ?_
        refine lv_iconst (v := (-1)) hx hb dX5_put_44 (by decide) ?_
        refine lv_icmp_ne (tgt := 61) hx hb dX5_put_45 (by decide) (fun h45 => ?_) (fun h45 => ?_)
        · refine lv_iconst (v := nI 0) hx hb dX5_put_61 (by decide) ?_
          refine tq_put (v := .int (nI (0))) (C0 := RX5) (T := TX5) (N := 19) (ci := 5) (k := 18) (ty := .int) C gX5 inX5 tyX5_ok nmX5 rfl (by decide) rfl fl_X5_38 rfl (by decide +kernel) hK hP hD hS 0 rfl rfl rfl (Nat.le_of_ble_eq_true rfl) dX5_put_62 (fun H locs hP hD hS => ?_)
          have hP : va_P D vwCl (wM cy bb sto vas sz cap low hig dpt glo ext mdb mhl msp mmg lin mlv mpt mls mov 0) H := hP
          have hD : va_D A (wM cy bb sto vas sz cap low hig dpt glo ext mdb mhl msp mmg lin mlv mpt mls mov 0) := hD
          refine lv_aload_n hx hb dX5_put_65 rfl (lv_at hl 2 rfl) ?_
          refine tq_get (C0 := RX5) (T := TX5) (N := 19) (ci := 5) (k := 18) C gX5 inX5 rfl (by decide) rfl fl_X5_38 hK hP 0 rfl rfl dX5_put_66 ?_
          refine lv_if_le (tgt := 74) hx hb dX5_put_69 (by decide) (fun _ => ?_) (fun h9 => absurd (by decide : nI 0 ≤ 0) h9)
          refine lv_iload hx hb dX5_put_74 (lv_at hl 0 rfl) ?_
          refine lv_iconst (v := (-1)) hx hb dX5_put_76 (by decide) ?_
          refine lv_icmp_ne (tgt := 88) hx hb dX5_put_77 (by decide) (fun h77 => ?_) (fun h77 => ?_)
          · refine lv_aload_n hx hb dX5_put_88 rfl (lv_at hl 2 rfl) ?_
            refine tq_get (C0 := RX5) (T := TX5) (N := 19) (ci := 5) (k := 1) C gX5 inX5 rfl (by decide) rfl fl_X5_13 hK hP 0 rfl rfl dX5_put_89 ?_
            refine lv_iload hx hb dX5_put_92 (lv_at hl 0 rfl) ?_
            refine tq_iald (n := 120) (i := i) (f := vas) C hK hP 2 0 rfl rfl (by omega) (Nat.le_of_ble_eq_true rfl) dX5_put_94 ?_
            refine lv_istore (lv' := [(5, .int (nI (vas i))), (4, .int (nI (i))), (3, .int (nI (1))), (0, .ref (bb 0)), (1, .int (nI (k))), (2, .int (nI (v)))]) hx hb dX5_put_95 hl (by decide) rfl (fun ls hl => ?_)
            refine lv_aload_n hx hb dX5_put_97 rfl (lv_at hl 3 rfl) ?_
            refine tq_get (C0 := RX5) (T := TX5) (N := 19) (ci := 5) (k := 1) C gX5 inX5 rfl (by decide) rfl fl_X5_13 hK hP 0 rfl rfl dX5_put_98 ?_
            refine lv_iload hx hb dX5_put_101 (lv_at hl 1 rfl) ?_
            refine lv_iload_n hx hb dX5_put_103 rfl (lv_at hl 5 rfl) ?_
            refine tq_iast (n := 120) (i := i) (v := v) (f := vas) C hK hP hD hS 2 0 rfl rfl (by omega) (Nat.le_of_ble_eq_true rfl) dX5_put_104 (fun H locs hP hD hS => ?_)
            have hP : va_P D vwCl (wM cy bb sto (va_up vas i v) sz cap low hig dpt glo ext mdb mhl msp mmg lin mlv mpt mls mov 0) H := hP
            have hD : va_D A (wM cy bb sto (va_up vas i v) sz cap low hig dpt glo ext mdb mhl msp mmg lin mlv mpt mls mov 0) := hD
            refine lv_iload hx hb dX5_put_105 (lv_at hl 0 rfl) ?_
            exact tq_iret (v := (nI (vas i))) C rfl (sto, va_up vas i v, sz, dpt, glo, ext, mdb, msp, lin, mlv, mpt, mls, 0) hP hD hS (Or.inl ⟨k, v, by omega, by omega, hkx, hvx, Or.inl ⟨vas i, (hPM.get hi hsi _).mpr rfl, rfl, ⟨repS S k v, dep, E, L, hsi ▸ hMR.repl hi (by omega), hMC, rfl⟩, rfl⟩⟩) (Nat.le_of_ble_eq_true rfl) (Nat.le_of_ble_eq_true rfl) dX5_put_107
          · exact absurd h77 (tq_neg1 (by omega))
        · exact absurd h45 (tq_neg1 (by omega))
      · have hno2 : ∀ i, i < sz → sto i ≠ k := fun i hi q => hno i hi (by rw [q])
        have hnS := (hPM.no hno2).2
        refine lv_istore (lv' := [(4, .int ((-1))), (3, .int (nI (1))), (0, .ref (bb 0)), (1, .int (nI (k))), (2, .int (nI (v)))]) hx hb dX5_put_31 hl (by decide) rfl (fun ls hl => ?_)
        refine lv_aload_n hx hb dX5_put_33 rfl (lv_at hl 2 rfl) ?_
        refine lv_iload_n hx hb dX5_put_34 rfl (lv_at hl 1 rfl) ?_
        refine lv_if_ne (tgt := 42) hx hb dX5_put_35 (by decide) (fun _ => ?_) (fun h9 => absurd h9 (by decide))
        refine lv_iload hx hb dX5_put_42 (lv_at hl 0 rfl) ?_
        refine lv_iconst (v := (-1)) hx hb dX5_put_44 (by decide) ?_
        refine lv_icmp_ne (tgt := 61) hx hb dX5_put_45 (by decide) (fun h45 => ?_) (fun h45 => ?_)
        · exact absurd rfl h45
        · refine lv_aload_n hx hb dX5_put_48 rfl (lv_at hl 2 rfl) ?_
          refine tq_get (C0 := RX5) (T := TX5) (N := 19) (ci := 5) (k := 2) C gX5 inX5 rfl (by decide) rfl fl_X5_51 hK hP 0 rfl rfl dX5_put_49 ?_
          refine lv_bipush (v := nI 120) hx hb dX5_put_52 (by decide) ?_
          refine tq_icmp_ne (tgt := 61) C (by omega) (by omega) dX5_put_54 (by decide) (fun h54 => ?_) (fun h54 => ?_)
          · refine lv_iconst (v := nI 0) hx hb dX5_put_61 (by decide) ?_
            refine tq_put (v := .int (nI (0))) (C0 := RX5) (T := TX5) (N := 19) (ci := 5) (k := 18) (ty := .int) C gX5 inX5 tyX5_ok nmX5 rfl (by decide) rfl fl_X5_38 rfl (by decide +kernel) hK hP hD hS 0 rfl rfl rfl (Nat.le_of_ble_eq_true rfl) dX5_put_62 (fun H locs hP hD hS => ?_)
            have hP : va_P D vwCl (wM cy bb sto vas sz cap low hig dpt glo ext mdb mhl msp mmg lin mlv mpt mls mov 0) H := hP
            have hD : va_D A (wM cy bb sto vas sz cap low hig dpt glo ext mdb mhl msp mmg lin mlv mpt mls mov 0) := hD
            refine lv_aload_n hx hb dX5_put_65 rfl (lv_at hl 2 rfl) ?_
            refine tq_get (C0 := RX5) (T := TX5) (N := 19) (ci := 5) (k := 18) C gX5 inX5 rfl (by decide) rfl fl_X5_38 hK hP 0 rfl rfl dX5_put_66 ?_
            refine lv_if_le (tgt := 74) hx hb dX5_put_69 (by decide) (fun _ => ?_) (fun h9 => absurd (by decide : nI 0 ≤ 0) h9)
            refine lv_iload hx hb dX5_put_74 (lv_at hl 0 rfl) ?_
            refine lv_iconst (v := (-1)) hx hb dX5_put_76 (by decide) ?_
            refine lv_icmp_ne (tgt := 88) hx hb dX5_put_77 (by decide) (fun h77 => ?_) (fun h77 => ?_)
            · exact absurd rfl h77
            · refine lv_aload_n hx hb dX5_put_80 rfl (lv_at hl 2 rfl) ?_
              refine lv_iload_n hx hb dX5_put_81 rfl (lv_at hl 3 rfl) ?_
              refine lv_iload_n hx hb dX5_put_82 rfl (lv_at hl 4 rfl) ?_
              refine tq_callV (W3 := fun u => (wM cy bb (va_up sto sz k) (va_up vas sz v) (sz + 1) cap low hig u.1 u.2.1 u.2.2.1 u.2.2.2.1 mhl u.2.2.2.2.1 mmg u.2.2.2.2.2.1 u.2.2.2.2.2.2.1 u.2.2.2.2.2.2.2.1 u.2.2.2.2.2.2.2.2 mov 0)) (wr := []) (va_runV C.fix (As := [.int (nI (k)), .int (nI (v))]) (rest := []) ((c_X5_adds l D cy bb sto vas sz cap low hig dpt glo ext mdb mhl msp mmg lin mlv mpt mls mov 0 k v S dep E L hMR hMC (by omega) (by omega) hno2 (by omega)) H.size) (tq_cV (n := 2) C ml_X5_129 im_X5_adds se_X5_adds ini_X5 cd_X5_adds ⟨by decide, by decide, by decide +kernel⟩ ⟨Nat.le_of_ble_eq_true rfl, Nat.le_of_ble_eq_true rfl⟩) ⟨tq_Pc.blind, va_recv hK hP (ci := 5) (q0 := 0) rfl rfl, tq_preC C hK hP hD⟩ rfl rfl hl.1 rfl (lv_room (Nat.le_of_ble_eq_true rfl)) dX5_put_83 ⟨Nat.le_of_ble_eq_true rfl, Nat.le_of_ble_eq_true rfl⟩) hP hD hS hA [0, 1, 2, 3, 4, 5, 6] [] [0, 1, 2, 3, 4, 5, 6] rfl rfl (by decide) (by decide) (by decide) (fun _ => rfl) (fun u83 H locs hr83 hP hD hS => ?_)
              obtain ⟨dpt2, glo2, ext2, mdb2, msp2, lin2, mlv2, mpt2, mls2⟩ := u83
              try dsimp only at hr83
              have hP : va_P D vwCl (wM cy bb (va_up sto sz k) (va_up vas sz v) (sz + 1) cap low hig dpt2 glo2 ext2 mdb2 mhl msp2 mmg lin2 mlv2 mpt2 mls2 mov 0) H := hP
              have hD : va_D A (wM cy bb (va_up sto sz k) (va_up vas sz v) (sz + 1) cap low hig dpt2 glo2 ext2 mdb2 mhl msp2 mmg lin2 mlv2 mpt2 mls2 mov 0) := hD
              refine lv_iconst (v := (-1)) hx hb dX5_put_86 (by decide) ?_
              exact tq_iret (v := ((-1))) C rfl (va_up sto sz k, va_up vas sz v, sz + 1, dpt2, glo2, ext2, mdb2, msp2, lin2, mlv2, mpt2, mls2, 0) hP hD hS (Or.inl ⟨k, v, by omega, by omega, hkx, hvx, Or.inr (Or.inl ⟨hnS, by omega, rfl, hr83, rfl⟩)⟩) (Nat.le_of_ble_eq_true rfl) (Nat.le_of_ble_eq_true rfl) dX5_put_87
          · refine lv_iconst (v := nI 2) hx hb dX5_put_57 (by decide) ?_
            refine lv_goto (tgt := 62) hx hb dX5_put_58 (by decide) ?_
            refine tq_put (v := .int (nI (2))) (C0 := RX5) (T := TX5) (N := 19) (ci := 5) (k := 18) (ty := .int) C gX5 inX5 tyX5_ok nmX5 rfl (by decide) rfl fl_X5_38 rfl (by decide +kernel) hK hP hD hS 0 rfl rfl rfl (Nat.le_of_ble_eq_true rfl) dX5_put_62 (fun H locs hP hD hS => ?_)
            have hP : va_P D vwCl (wM cy bb sto vas sz cap low hig dpt glo ext mdb mhl msp mmg lin mlv mpt mls mov 2) H := hP
            have hD : va_D A (wM cy bb sto vas sz cap low hig dpt glo ext mdb mhl msp mmg lin mlv mpt mls mov 2) := hD
            refine lv_aload_n hx hb dX5_put_65 rfl (lv_at hl 2 rfl) ?_
            refine tq_get (C0 := RX5) (T := TX5) (N := 19) (ci := 5) (k := 18) C gX5 inX5 rfl (by decide) rfl fl_X5_38 hK hP 0 rfl rfl dX5_put_66 ?_
            refine lv_if_le (tgt := 74) hx hb dX5_put_69 (by decide) (fun h9 => absurd h9 (by decide)) (fun _ => ?_)
            refine lv_iconst (v := nI 0) hx hb dX5_put_72 (by decide) ?_
            exact tq_iret (v := (nI (0))) C rfl (sto, vas, sz, dpt, glo, ext, mdb, msp, lin, mlv, mpt, mls, 2) hP hD hS (Or.inl ⟨k, v, by omega, by omega, hkx, hvx, Or.inr (Or.inr ⟨hnS, h54, ⟨S, dep, E, L, hMR, hMC, rfl⟩, rfl⟩)⟩) (Nat.le_of_ble_eq_true rfl) (Nat.le_of_ble_eq_true rfl) dX5_put_73
    · refine lv_if_eq (tgt := 24) hx hb dX5_put_17 (by decide) (fun _ => ?_) (fun h9 => absurd (by decide : nI 0 = 0) h9)
      refine lv_iconst (v := nI 0) hx hb dX5_put_24 (by decide) ?_
      refine lv_istore_n (lv' := [(3, .int (nI (0))), (0, .ref (bb 0)), (1, .int (nI (k))), (2, .int (vx))]) hx hb dX5_put_25 rfl hl (by decide) rfl (fun ls hl => ?_)
      refine lv_aload_n hx hb dX5_put_26 rfl (lv_at hl 1 rfl) ?_
      refine lv_iload_n hx hb dX5_put_27 rfl (lv_at hl 2 rfl) ?_
      refine tq_callF (va_runV C.fix (As := [.int (nI k)]) (rest := []) (c_X5_found l D cy bb sto vas sz cap low hig dpt glo ext mdb mhl msp mmg lin mlv mpt mls mov thr (nI k) hz120) (tq_cV (n := 1) C ml_X5_126 im_X5_found se_X5_found ini_X5 cd_X5_found ⟨by decide, by decide, by decide +kernel⟩ ⟨Nat.le_of_ble_eq_true rfl, Nat.le_of_ble_eq_true rfl⟩) ⟨tq_Pf.blind, va_recv hK hP (ci := 5) (q0 := 0) rfl rfl, tq_preF C hK hP⟩ rfl rfl hl.1 rfl (lv_room (Nat.le_of_ble_eq_true rfl)) dX5_put_28 ⟨Nat.le_of_ble_eq_true rfl, Nat.le_of_ble_eq_true rfl⟩) (fun r28 hr28 => ?_)
      refine lv_istore (lv' := [(4, .int (r28)), (3, .int (nI (0))), (0, .ref (bb 0)), (1, .int (nI (k))), (2, .int (vx))]) hx hb dX5_put_31 hl (by decide) rfl (fun ls hl => ?_)
      refine lv_aload_n hx hb dX5_put_33 rfl (lv_at hl 2 rfl) ?_
      refine lv_iload_n hx hb dX5_put_34 rfl (lv_at hl 1 rfl) ?_
      refine lv_if_ne (tgt := 42) hx hb dX5_put_35 (by decide) (fun h9 => absurd (by decide : nI 0 = 0) h9) (fun _ => ?_)
      refine lv_iconst (v := nI 1) hx hb dX5_put_38 (by decide) ?_
      refine lv_goto (tgt := 62) hx hb dX5_put_39 (by decide) ?_
      refine tq_put (v := .int (nI (1))) (C0 := RX5) (T := TX5) (N := 19) (ci := 5) (k := 18) (ty := .int) C gX5 inX5 tyX5_ok nmX5 rfl (by decide) rfl fl_X5_38 rfl (by decide +kernel) hK hP hD hS 0 rfl rfl rfl (Nat.le_of_ble_eq_true rfl) dX5_put_62 (fun H locs hP hD hS => ?_)
      have hP : va_P D vwCl (wM cy bb sto vas sz cap low hig dpt glo ext mdb mhl msp mmg lin mlv mpt mls mov 1) H := hP
      have hD : va_D A (wM cy bb sto vas sz cap low hig dpt glo ext mdb mhl msp mmg lin mlv mpt mls mov 1) := hD
      refine lv_aload_n hx hb dX5_put_65 rfl (lv_at hl 2 rfl) ?_
      refine tq_get (C0 := RX5) (T := TX5) (N := 19) (ci := 5) (k := 18) C gX5 inX5 rfl (by decide) rfl fl_X5_38 hK hP 0 rfl rfl dX5_put_66 ?_
      refine lv_if_le (tgt := 74) hx hb dX5_put_69 (by decide) (fun h9 => absurd h9 (by decide)) (fun _ => ?_)
      refine lv_iconst (v := nI 0) hx hb dX5_put_72 (by decide) ?_
      exact tq_iret (v := (nI (0))) C rfl (sto, vas, sz, dpt, glo, ext, mdb, msp, lin, mlv, mpt, mls, 1) hP hD hS (Or.inr ⟨fun ⟨q1, q2⟩ => q2.elim fun k7 ⟨a1, a2⟩ => hr14 (by rw [a2]; exact ⟨nI_le (Nat.zero_le _) (by omega), nI_le (by omega) (by decide)⟩), ⟨S, dep, E, L, hMR, hMC, rfl⟩, rfl⟩) (Nat.le_of_ble_eq_true rfl) (Nat.le_of_ble_eq_true rfl) dX5_put_73
  · refine lv_if_eq (tgt := 24) hx hb dX5_put_7 (by decide) (fun _ => ?_) (fun h9 => absurd (by decide : nI 0 = 0) h9)
    refine lv_iconst (v := nI 0) hx hb dX5_put_24 (by decide) ?_
    refine lv_istore_n (lv' := [(3, .int (nI (0))), (0, .ref (bb 0)), (1, .int (kx)), (2, .int (vx))]) hx hb dX5_put_25 rfl hl (by decide) rfl (fun ls hl => ?_)
    refine lv_aload_n hx hb dX5_put_26 rfl (lv_at hl 1 rfl) ?_
    refine lv_iload_n hx hb dX5_put_27 rfl (lv_at hl 2 rfl) ?_
    refine tq_callF (va_runV C.fix (As := [.int (kx)]) (rest := []) (c_X5_found l D cy bb sto vas sz cap low hig dpt glo ext mdb mhl msp mmg lin mlv mpt mls mov thr kx hz120) (tq_cV (n := 1) C ml_X5_126 im_X5_found se_X5_found ini_X5 cd_X5_found ⟨by decide, by decide, by decide +kernel⟩ ⟨Nat.le_of_ble_eq_true rfl, Nat.le_of_ble_eq_true rfl⟩) ⟨tq_Pf.blind, va_recv hK hP (ci := 5) (q0 := 0) rfl rfl, tq_preF C hK hP⟩ rfl rfl hl.1 rfl (lv_room (Nat.le_of_ble_eq_true rfl)) dX5_put_28 ⟨Nat.le_of_ble_eq_true rfl, Nat.le_of_ble_eq_true rfl⟩) (fun r28 hr28 => ?_)
    refine lv_istore (lv' := [(4, .int (r28)), (3, .int (nI (0))), (0, .ref (bb 0)), (1, .int (kx)), (2, .int (vx))]) hx hb dX5_put_31 hl (by decide) rfl (fun ls hl => ?_)
    refine lv_aload_n hx hb dX5_put_33 rfl (lv_at hl 2 rfl) ?_
    refine lv_iload_n hx hb dX5_put_34 rfl (lv_at hl 1 rfl) ?_
    refine lv_if_ne (tgt := 42) hx hb dX5_put_35 (by decide) (fun h9 => absurd (by decide : nI 0 = 0) h9) (fun _ => ?_)
    refine lv_iconst (v := nI 1) hx hb dX5_put_38 (by decide) ?_
    refine lv_goto (tgt := 62) hx hb dX5_put_39 (by decide) ?_
    refine tq_put (v := .int (nI (1))) (C0 := RX5) (T := TX5) (N := 19) (ci := 5) (k := 18) (ty := .int) C gX5 inX5 tyX5_ok nmX5 rfl (by decide) rfl fl_X5_38 rfl (by decide +kernel) hK hP hD hS 0 rfl rfl rfl (Nat.le_of_ble_eq_true rfl) dX5_put_62 (fun H locs hP hD hS => ?_)
    have hP : va_P D vwCl (wM cy bb sto vas sz cap low hig dpt glo ext mdb mhl msp mmg lin mlv mpt mls mov 1) H := hP
    have hD : va_D A (wM cy bb sto vas sz cap low hig dpt glo ext mdb mhl msp mmg lin mlv mpt mls mov 1) := hD
    refine lv_aload_n hx hb dX5_put_65 rfl (lv_at hl 2 rfl) ?_
    refine tq_get (C0 := RX5) (T := TX5) (N := 19) (ci := 5) (k := 18) C gX5 inX5 rfl (by decide) rfl fl_X5_38 hK hP 0 rfl rfl dX5_put_66 ?_
    refine lv_if_le (tgt := 74) hx hb dX5_put_69 (by decide) (fun h9 => absurd h9 (by decide)) (fun _ => ?_)
    refine lv_iconst (v := nI 0) hx hb dX5_put_72 (by decide) ?_
    exact tq_iret (v := (nI (0))) C rfl (sto, vas, sz, dpt, glo, ext, mdb, msp, lin, mlv, mpt, mls, 1) hP hD hS (Or.inr ⟨fun ⟨q1, q2⟩ => q1.elim fun k7 ⟨a1, a2⟩ => hr4 (by rw [a2]; exact ⟨nI_le (Nat.zero_le _) (by omega), nI_le (by omega) (by decide)⟩), ⟨S, dep, E, L, hMR, hMC, rfl⟩, rfl⟩) (Nat.le_of_ble_eq_true rfl) (Nat.le_of_ble_eq_true rfl) dX5_put_73
