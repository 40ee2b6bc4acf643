theorem dL_drawn_0 : decode cL_drawn 0 = .ok (.iload_n 1, 1) := by decide +kernel
theorem dL_drawn_1 : decode cL_drawn 1 = .ok (.aload_n 0, 1) := by decide +kernel
theorem dL_drawn_2 : decode cL_drawn 2 = .ok (.arraylength, 1) := by decide +kernel
theorem dL_drawn_3 : decode cL_drawn 3 = .ok (.if_icmp .ge 9, 3) := by decide +kernel
theorem dL_drawn_6 : decode cL_drawn 6 = .ok (.aload_n 0, 1) := by decide +kernel
theorem dL_drawn_7 : decode cL_drawn 7 = .ok (.iload_n 1, 1) := by decide +kernel
theorem dL_drawn_8 : decode cL_drawn 8 = .ok (.iaload, 1) := by decide +kernel
theorem dL_drawn_9 : decode cL_drawn 9 = .ok (.goto 12, 3) := by decide +kernel
theorem dL_drawn_12 : decode cL_drawn 12 = .ok (.sipush 10009, 3) := by decide +kernel
theorem dL_drawn_15 : decode cL_drawn 15 = .ok (.iload_n 1, 1) := by decide +kernel
theorem dL_drawn_16 : decode cL_drawn 16 = .ok (.imul, 1) := by decide +kernel
theorem dL_drawn_17 : decode cL_drawn 17 = .ok (.sipush 3109, 3) := by decide +kernel
theorem dL_drawn_20 : decode cL_drawn 20 = .ok (.iadd, 1) := by decide +kernel
theorem dL_drawn_21 : decode cL_drawn 21 = .ok (.istore_n 2, 1) := by decide +kernel
theorem dL_drawn_22 : decode cL_drawn 22 = .ok (.iload_n 2, 1) := by decide +kernel
theorem dL_drawn_23 : decode cL_drawn 23 = .ok (.ldc 7, 2) := by decide +kernel
theorem dL_drawn_25 : decode cL_drawn 25 = .ok (.iand, 1) := by decide +kernel
theorem dL_drawn_26 : decode cL_drawn 26 = .ok (.ireturn, 1) := by decide +kernel
def wQ (cy : ClassId) (a : Nat → Nat) (key : Nat → Nat) (val : Nat → Nat) (ord : Nat → Nat) (tk : Nat) (cp : Nat) (efi : Nat → Nat) (ela : Nat → Nat) (eco : Nat → Nat) (ene : Nat → Nat) (ldp : Nat → Nat) (dp : Nat) (dbl : Int32) (hlv : Int32) (spl : Int32) (mrg : Int32) (lfi : Nat → Nat) (lla : Nat → Nat) (lco : Nat → Nat) (lne : Nat → Nat) (lev : Nat) (ptr : Nat) (llo : Nat) (lhi : Nat) (lsp : Int32) (pa : Nat) (na : Nat) (ha : Nat) (kp : Nat → Nat) (kn : Nat → Nat) (kh : Nat → Nat) : va_W := [
  (a 0, .inr (4, [.ref (a 1), .ref (a 2), .ref (a 3)])),
  (a 1, .inr (3, [.ref (a 4), .ref (a 5), .ref (a 6), .int (nI (tk)), .int (nI (cp))])),
  (a 2, .inr (0, [.ref (a 1), .ref (a 7), .ref (a 8), .int (nI (dp)), .int (dbl), .int (hlv), .int (spl), .int (mrg)])),
  (a 3, .inr (1, [.ref (a 1), .ref (a 9), .int (nI (lev)), .int (nI (ptr)), .int (nI (llo)), .int (nI (lhi)), .int (lsp)])),
  (a 4, .inl (cy, 121, .inl (fun j => nI (key j)))),
  (a 5, .inl (cy, 121, .inl (fun j => nI (val j)))),
  (a 6, .inl (cy, 120, .inl (fun j => nI (ord j)))),
  (a 7, .inr (2, [.ref (a 1), .ref (a 10), .ref (a 11), .ref (a 12), .ref (a 13)])),
  (a 8, .inl (cy, 256, .inl (fun j => nI (ldp j)))),
  (a 9, .inr (2, [.ref (a 1), .ref (a 14), .ref (a 15), .ref (a 16), .ref (a 17)])),
  (a 10, .inl (cy, 256, .inl (fun j => nI (efi j)))),
  (a 11, .inl (cy, 256, .inl (fun j => nI (ela j)))),
  (a 12, .inl (cy, 256, .inl (fun j => nI (eco j)))),
  (a 13, .inl (cy, 121, .inl (fun j => nI (ene j)))),
  (a 14, .inl (cy, 256, .inl (fun j => nI (lfi j)))),
  (a 15, .inl (cy, 256, .inl (fun j => nI (lla j)))),
  (a 16, .inl (cy, 256, .inl (fun j => nI (lco j)))),
  (a 17, .inl (cy, 121, .inl (fun j => nI (lne j)))),
  (pa, .inl (cy, 60, .inl (fun j => nI (kp j)))),
  (na, .inl (cy, 60, .inl (fun j => nI (kn j)))),
  (ha, .inl (cy, 60, .inl (fun j => nI (kh j))))]
def wN (cy : ClassId) (pa : Nat) (na : Nat) (kp : Nat → Nat) (kn : Nat → Nat) : va_W := [
  (pa, .inl (cy, 60, .inl (fun j => nI (kp j)))),
  (na, .inl (cy, 60, .inl (fun j => nI (kn j))))]
theorem getD_at {B : List Nat} {j : Nat} (hj : j < B.length) : B.getD j 0 = B[j] := by
  rw [List.getD_eq_getElem?_getD, List.getElem?_eq_getElem hj]; rfl
theorem count_step {B : List Nat} {j k : Nat} (hj : j < B.length) : (B.take (j + 1)).count k = (B.take j).count k + if k = B.getD j 0 then 1 else 0 := by
  rw [List.take_succ_eq_append_getElem hj, List.count_append, getD_at hj, List.count_singleton]
  by_cases z : k = B[j]
  · rw [if_pos z, if_pos (by simp [z])]
  · rw [if_neg z, if_neg (by simpa using fun y => z (Eq.symm y))]
theorem and31 (x : Int32) : ∃ j : Nat, j < 2 ^ 31 ∧ x &&& 2147483647 = nI j := by
  refine ⟨(x &&& 2147483647).toBitVec.toNat, ?_, ?_⟩
  · show (x.toBitVec &&& (2147483647 : Int32).toBitVec).toNat < 2 ^ 31
    rw [BitVec.toNat_and]
    exact Nat.lt_of_le_of_lt Nat.and_le_right (by decide)
  · apply Int32.toBitVec_inj.mp
    show (x &&& 2147483647).toBitVec = BitVec.ofNat 32 (x &&& 2147483647).toBitVec.toNat
    rw [BitVec.ofNat_toNat, BitVec.setWidth_eq]
theorem vp_inN {k L : Nat} (h : k < L) (hL : L ≤ 1536) : vp_in (nI k) L := by
  rintro (q | q)
  · exact nI_pos (by omega) q
  · rw [nI_clamp (by omega)] at q; omega
def tq_PX (b N : Nat) (xs : Nat → Int32) (av : List Value) : Array Value → State → Prop := va_Pc av (fun U => tq_T U ∧ va_X b N xs U U.heap ∧ b < U.heap.size)
theorem tq_PX.blind {b N : Nat} {xs : Nat → Int32} {av : List Value} : FrameBlind (tq_PX b N xs av) := fun a U g mk h =>
  ⟨h.1, tq_calling h.2.1, va_X.moved (u := U) (U := U.calling g mk a) (Vm.Alike.refl U.vm) h.2.2.1, h.2.2.2⟩
set_option maxHeartbeats 4000000 in
theorem c_L_drawn (l : Launch) (b N : Nat) (xs : Nat → Int32) (k : Nat) (hk : k < 60) (hN : N ≤ 260) : Met l yL_drawn [.code yL_drawn cL_drawn 3 (some .int)] { frames := 0, cells := 0, slots := 0, locals := 0 } (tq_PX b N xs [.ref b, .int (nI k)]) (tq_Qf (fun r => ∃ j : Nat, j < 2 ^ 31 ∧ r = nI j)) 0 0 (fun _ => False) := by
  refine Met.ofW (cc := cL_drawn) (maxL := 3) (ret := some .int) (by decide) rfl ?_
  intro p e s m args below meth c s₁ B hml hv
  obtain ⟨rfl, hT, hX, hbl⟩ := hv
  rw [lg_entry_eq]
  have C : tq_C p s m meth c "TwinHashTablesLaw" cL_drawn 3 (some .int) := ⟨B.exec, B.bytes, hml, findClass_of_methodNamed B.named, B.returns, B.notSynchronized, hT⟩
  have hx := C.1
  have hb := C.2.1
  have hown := C.2.2.2.1
  have hend : ∀ (x : Int32) (ls : Array Slot), lv_has ls 3 [(0, .ref b), (1, .int (nI k))] → W p l e { frames := 0, cells := 0, slots := 0, locals := 0 } s m ([Value.ref b, .int (nI k)]).toArray below meth c s.heap [] 0 0 (MQ below (tq_Qf (fun r => ∃ j : Nat, j < 2 ^ 31 ∧ r = nI j)) ([Value.ref b, .int (nI k)]).toArray s 0 0 (fun _ => False)) (F0 m 21 ls [.int x]) := by
    intro x ls hl
    refine lv_istore_n (lv' := [(2, .int x), (0, .ref b), (1, .int (nI k))]) hx hb dL_drawn_21 rfl hl (by decide) rfl (fun ls hl => ?_)
    refine lv_iload_n hx hb dL_drawn_22 rfl (lv_at hl 0 rfl) ?_
    refine lv_ldc (v := 2147483647) hx hb hown (hT.use kc_L_7 rfl) dL_drawn_23 ?_
    refine lv_iand hx hb dL_drawn_25 ?_
    exact tq_fret C rfl (and31 x) dL_drawn_26
  have body : ∀ ls : Array Slot, lv_has ls 3 [(0, .ref b), (1, .int (nI k))] → W p l e { frames := 0, cells := 0, slots := 0, locals := 0 } s m ([Value.ref b, .int (nI k)]).toArray below meth c s.heap [] 0 0 (MQ below (tq_Qf (fun r => ∃ j : Nat, j < 2 ^ 31 ∧ r = nI j)) ([Value.ref b, .int (nI k)]).toArray s 0 0 (fun _ => False)) (F0 m 0 ls []) := by
    intro ls hl
    refine lv_iload_n hx hb dL_drawn_0 rfl (lv_at hl 1 rfl) ?_
    refine lv_aload_n hx hb dL_drawn_1 rfl (lv_at hl 0 rfl) ?_
    refine va_slen (A := fun _ => False) hx hb hX hbl (fun h => h) va_S.rf dL_drawn_2 ?_
    refine tq_icmp_ge (tgt := 12) (a := k) (b := N) C (by omega) (by omega) dL_drawn_3 (by decide) (fun h3 => ?_) (fun h3 => ?_)
    · refine lv_sipush (v := nI 10009) hx hb dL_drawn_12 (by decide) ?_
      refine lv_iload_n hx hb dL_drawn_15 rfl (lv_at hl 1 rfl) ?_
      refine tq_imul C dL_drawn_16 ?_
      refine lv_sipush (v := nI 3109) hx hb dL_drawn_17 (by decide) ?_
      refine tq_iadd C dL_drawn_20 ?_
      exact hend _ _ hl
    · refine lv_aload_n hx hb dL_drawn_6 rfl (lv_at hl 0 rfl) ?_
      refine lv_iload_n hx hb dL_drawn_7 rfl (lv_at hl 1 rfl) ?_
      refine va_sld (A := fun _ => False) hx hb hX hbl (fun h => h) va_S.rf (vp_inN h3 (by omega)) dL_drawn_8 ?_
      refine lv_goto (tgt := 21) hx hb dL_drawn_9 (by decide) ?_
      exact hend _ _ hl
  exact body _ (lv_entry _ (Nat.le_of_ble_eq_true rfl))

theorem dL_seen_0 : decode cL_seen 0 = .ok (.iconst 0, 1) := by decide +kernel
theorem dL_seen_1 : decode cL_seen 1 = .ok (.istore_n 3, 1) := by decide +kernel
theorem dL_seen_2 : decode cL_seen 2 = .ok (.iload_n 3, 1) := by decide +kernel
theorem dL_seen_3 : decode cL_seen 3 = .ok (.bipush 60, 2) := by decide +kernel
theorem dL_seen_5 : decode cL_seen 5 = .ok (.if_icmp .ge 27, 3) := by decide +kernel
theorem dL_seen_8 : decode cL_seen 8 = .ok (.aload_n 1, 1) := by decide +kernel
theorem dL_seen_9 : decode cL_seen 9 = .ok (.iload_n 3, 1) := by decide +kernel
theorem dL_seen_10 : decode cL_seen 10 = .ok (.dup2, 1) := by decide +kernel
theorem dL_seen_11 : decode cL_seen 11 = .ok (.iaload, 1) := by decide +kernel
theorem dL_seen_12 : decode cL_seen 12 = .ok (.aload_n 0, 1) := by decide +kernel
theorem dL_seen_13 : decode cL_seen 13 = .ok (.iload_n 3, 1) := by decide +kernel
theorem dL_seen_14 : decode cL_seen 14 = .ok (.iaload, 1) := by decide +kernel
theorem dL_seen_15 : decode cL_seen 15 = .ok (.iload_n 2, 1) := by decide +kernel
theorem dL_seen_16 : decode cL_seen 16 = .ok (.if_icmp .ne 7, 3) := by decide +kernel
theorem dL_seen_19 : decode cL_seen 19 = .ok (.iconst 1, 1) := by decide +kernel
theorem dL_seen_20 : decode cL_seen 20 = .ok (.goto 4, 3) := by decide +kernel
theorem dL_seen_23 : decode cL_seen 23 = .ok (.iconst 0, 1) := by decide +kernel
theorem dL_seen_24 : decode cL_seen 24 = .ok (.iadd, 1) := by decide +kernel
theorem dL_seen_25 : decode cL_seen 25 = .ok (.iastore, 1) := by decide +kernel
theorem dL_seen_26 : decode cL_seen 26 = .ok (.iinc 3 1, 3) := by decide +kernel
theorem dL_seen_29 : decode cL_seen 29 = .ok (.goto (-27), 3) := by decide +kernel
theorem dL_seen_32 : decode cL_seen 32 = .ok (.return_, 1) := by decide +kernel
theorem dL_looks_0 : decode cL_looks 0 = .ok (.aload_n 0, 1) := by decide +kernel
theorem dL_looks_1 : decode cL_looks 1 = .ok (.iload_n 3, 1) := by decide +kernel
theorem dL_looks_2 : decode cL_looks 2 = .ok (.invokestatic 39, 3) := by decide +kernel
theorem dL_looks_5 : decode cL_looks 5 = .ok (.istore 4, 2) := by decide +kernel
theorem dL_looks_7 : decode cL_looks 7 = .ok (.aload_n 0, 1) := by decide +kernel
theorem dL_looks_8 : decode cL_looks 8 = .ok (.iload 4, 2) := by decide +kernel
theorem dL_looks_10 : decode cL_looks 10 = .ok (.invokestatic 44, 3) := by decide +kernel
theorem dL_looks_13 : decode cL_looks 13 = .ok (.istore 5, 2) := by decide +kernel
theorem dL_looks_15 : decode cL_looks 15 = .ok (.iload 5, 2) := by decide +kernel
theorem dL_looks_17 : decode cL_looks 17 = .ok (.ifCond .lt 7, 3) := by decide +kernel
theorem dL_looks_20 : decode cL_looks 20 = .ok (.iconst 1, 1) := by decide +kernel
theorem dL_looks_21 : decode cL_looks 21 = .ok (.goto 4, 3) := by decide +kernel
theorem dL_looks_24 : decode cL_looks 24 = .ok (.iconst 0, 1) := by decide +kernel
theorem dL_looks_25 : decode cL_looks 25 = .ok (.istore 6, 2) := by decide +kernel
theorem dL_looks_27 : decode cL_looks 27 = .ok (.iconst 0, 1) := by decide +kernel
theorem dL_looks_28 : decode cL_looks 28 = .ok (.istore 7, 2) := by decide +kernel
theorem dL_looks_30 : decode cL_looks 30 = .ok (.iload 7, 2) := by decide +kernel
theorem dL_looks_32 : decode cL_looks 32 = .ok (.iload 5, 2) := by decide +kernel
theorem dL_looks_34 : decode cL_looks 34 = .ok (.if_icmp .ge 43, 3) := by decide +kernel
theorem dL_looks_37 : decode cL_looks 37 = .ok (.iload 6, 2) := by decide +kernel
theorem dL_looks_39 : decode cL_looks 39 = .ok (.ifCond .eq 38, 3) := by decide +kernel
theorem dL_looks_42 : decode cL_looks 42 = .ok (.aload_n 0, 1) := by decide +kernel
theorem dL_looks_43 : decode cL_looks 43 = .ok (.iload 4, 2) := by decide +kernel
theorem dL_looks_45 : decode cL_looks 45 = .ok (.iload 7, 2) := by decide +kernel
theorem dL_looks_47 : decode cL_looks 47 = .ok (.invokestatic 47, 3) := by decide +kernel
theorem dL_looks_50 : decode cL_looks 50 = .ok (.istore 8, 2) := by decide +kernel
theorem dL_looks_52 : decode cL_looks 52 = .ok (.iload 8, 2) := by decide +kernel
theorem dL_looks_54 : decode cL_looks 54 = .ok (.ifCond .lt 7, 3) := by decide +kernel
theorem dL_looks_57 : decode cL_looks 57 = .ok (.iconst 1, 1) := by decide +kernel
theorem dL_looks_58 : decode cL_looks 58 = .ok (.goto 4, 3) := by decide +kernel
theorem dL_looks_61 : decode cL_looks 61 = .ok (.iconst 0, 1) := by decide +kernel
theorem dL_looks_62 : decode cL_looks 62 = .ok (.istore 6, 2) := by decide +kernel
theorem dL_looks_64 : decode cL_looks 64 = .ok (.aload_n 1, 1) := by decide +kernel
theorem dL_looks_65 : decode cL_looks 65 = .ok (.aload_n 2, 1) := by decide +kernel
theorem dL_looks_66 : decode cL_looks 66 = .ok (.iload 8, 2) := by decide +kernel
theorem dL_looks_68 : decode cL_looks 68 = .ok (.invokestatic 50, 3) := by decide +kernel
theorem dL_looks_71 : decode cL_looks 71 = .ok (.iinc 7 1, 3) := by decide +kernel
theorem dL_looks_74 : decode cL_looks 74 = .ok (.goto (-44), 3) := by decide +kernel
theorem dL_looks_77 : decode cL_looks 77 = .ok (.iload 6, 2) := by decide +kernel
theorem dL_looks_79 : decode cL_looks 79 = .ok (.ireturn, 1) := by decide +kernel
theorem dL_changes_0 : decode cL_changes 0 = .ok (.iload_n 3, 1) := by decide +kernel
theorem dL_changes_1 : decode cL_changes 1 = .ok (.bipush 16, 2) := by decide +kernel
theorem dL_changes_3 : decode cL_changes 3 = .ok (.idiv, 1) := by decide +kernel
theorem dL_changes_4 : decode cL_changes 4 = .ok (.bipush 60, 2) := by decide +kernel
theorem dL_changes_6 : decode cL_changes 6 = .ok (.irem, 1) := by decide +kernel
theorem dL_changes_7 : decode cL_changes 7 = .ok (.istore 4, 2) := by decide +kernel
theorem dL_changes_9 : decode cL_changes 9 = .ok (.iload_n 3, 1) := by decide +kernel
theorem dL_changes_10 : decode cL_changes 10 = .ok (.bipush 16, 2) := by decide +kernel
theorem dL_changes_12 : decode cL_changes 12 = .ok (.irem, 1) := by decide +kernel
theorem dL_changes_13 : decode cL_changes 13 = .ok (.bipush 6, 2) := by decide +kernel
theorem dL_changes_15 : decode cL_changes 15 = .ok (.if_icmp .ge 55, 3) := by decide +kernel
theorem dL_changes_18 : decode cL_changes 18 = .ok (.aload_n 0, 1) := by decide +kernel
theorem dL_changes_19 : decode cL_changes 19 = .ok (.aload_n 1, 1) := by decide +kernel
theorem dL_changes_20 : decode cL_changes 20 = .ok (.iload 4, 2) := by decide +kernel
theorem dL_changes_22 : decode cL_changes 22 = .ok (.iaload, 1) := by decide +kernel
theorem dL_changes_23 : decode cL_changes 23 = .ok (.invokestatic 54, 3) := by decide +kernel
theorem dL_changes_26 : decode cL_changes 26 = .ok (.aload_n 2, 1) := by decide +kernel
theorem dL_changes_27 : decode cL_changes 27 = .ok (.iload 4, 2) := by decide +kernel
theorem dL_changes_29 : decode cL_changes 29 = .ok (.iaload, 1) := by decide +kernel
theorem dL_changes_30 : decode cL_changes 30 = .ok (.ifCond .ne 7, 3) := by decide +kernel
theorem dL_changes_33 : decode cL_changes 33 = .ok (.iconst (-1), 1) := by decide +kernel
theorem dL_changes_34 : decode cL_changes 34 = .ok (.goto 4, 3) := by decide +kernel
theorem dL_changes_37 : decode cL_changes 37 = .ok (.iconst 5, 1) := by decide +kernel
theorem dL_changes_38 : decode cL_changes 38 = .ok (.if_icmp .ne 7, 3) := by decide +kernel
theorem dL_changes_41 : decode cL_changes 41 = .ok (.iconst 1, 1) := by decide +kernel
theorem dL_changes_42 : decode cL_changes 42 = .ok (.goto 4, 3) := by decide +kernel
theorem dL_changes_45 : decode cL_changes 45 = .ok (.iconst 0, 1) := by decide +kernel
theorem dL_changes_46 : decode cL_changes 46 = .ok (.istore 5, 2) := by decide +kernel
theorem dL_changes_48 : decode cL_changes 48 = .ok (.aload_n 2, 1) := by decide +kernel
theorem dL_changes_49 : decode cL_changes 49 = .ok (.iload 4, 2) := by decide +kernel
theorem dL_changes_51 : decode cL_changes 51 = .ok (.aload_n 2, 1) := by decide +kernel
theorem dL_changes_52 : decode cL_changes 52 = .ok (.iload 4, 2) := by decide +kernel
theorem dL_changes_54 : decode cL_changes 54 = .ok (.iaload, 1) := by decide +kernel
theorem dL_changes_55 : decode cL_changes 55 = .ok (.ifCond .ne 7, 3) := by decide +kernel
theorem dL_changes_58 : decode cL_changes 58 = .ok (.iconst 1, 1) := by decide +kernel
theorem dL_changes_59 : decode cL_changes 59 = .ok (.goto 7, 3) := by decide +kernel
theorem dL_changes_62 : decode cL_changes 62 = .ok (.aload_n 2, 1) := by decide +kernel
theorem dL_changes_63 : decode cL_changes 63 = .ok (.iload 4, 2) := by decide +kernel
theorem dL_changes_65 : decode cL_changes 65 = .ok (.iaload, 1) := by decide +kernel
theorem dL_changes_66 : decode cL_changes 66 = .ok (.iastore, 1) := by decide +kernel
theorem dL_changes_67 : decode cL_changes 67 = .ok (.iload 5, 2) := by decide +kernel
theorem dL_changes_69 : decode cL_changes 69 = .ok (.ireturn, 1) := by decide +kernel
theorem dL_changes_70 : decode cL_changes 70 = .ok (.iload_n 3, 1) := by decide +kernel
theorem dL_changes_71 : decode cL_changes 71 = .ok (.bipush 16, 2) := by decide +kernel
theorem dL_changes_73 : decode cL_changes 73 = .ok (.irem, 1) := by decide +kernel
theorem dL_changes_74 : decode cL_changes 74 = .ok (.bipush 12, 2) := by decide +kernel
theorem dL_changes_76 : decode cL_changes 76 = .ok (.if_icmp .ge 41, 3) := by decide +kernel
theorem dL_changes_79 : decode cL_changes 79 = .ok (.aload_n 0, 1) := by decide +kernel
theorem dL_changes_80 : decode cL_changes 80 = .ok (.aload_n 1, 1) := by decide +kernel
theorem dL_changes_81 : decode cL_changes 81 = .ok (.iload 4, 2) := by decide +kernel
theorem dL_changes_83 : decode cL_changes 83 = .ok (.iaload, 1) := by decide +kernel
theorem dL_changes_84 : decode cL_changes 84 = .ok (.invokestatic 56, 3) := by decide +kernel
theorem dL_changes_87 : decode cL_changes 87 = .ok (.aload_n 2, 1) := by decide +kernel
theorem dL_changes_88 : decode cL_changes 88 = .ok (.iload 4, 2) := by decide +kernel
theorem dL_changes_90 : decode cL_changes 90 = .ok (.iaload, 1) := by decide +kernel
theorem dL_changes_91 : decode cL_changes 91 = .ok (.ifCond .ne 7, 3) := by decide +kernel
theorem dL_changes_94 : decode cL_changes 94 = .ok (.iconst (-1), 1) := by decide +kernel
theorem dL_changes_95 : decode cL_changes 95 = .ok (.goto 4, 3) := by decide +kernel
theorem dL_changes_98 : decode cL_changes 98 = .ok (.iconst 5, 1) := by decide +kernel
theorem dL_changes_99 : decode cL_changes 99 = .ok (.if_icmp .ne 7, 3) := by decide +kernel
theorem dL_changes_102 : decode cL_changes 102 = .ok (.iconst 1, 1) := by decide +kernel
theorem dL_changes_103 : decode cL_changes 103 = .ok (.goto 4, 3) := by decide +kernel
theorem dL_changes_106 : decode cL_changes 106 = .ok (.iconst 0, 1) := by decide +kernel
theorem dL_changes_107 : decode cL_changes 107 = .ok (.istore 5, 2) := by decide +kernel
theorem dL_changes_109 : decode cL_changes 109 = .ok (.aload_n 2, 1) := by decide +kernel
theorem dL_changes_110 : decode cL_changes 110 = .ok (.iload 4, 2) := by decide +kernel
theorem dL_changes_112 : decode cL_changes 112 = .ok (.iconst 0, 1) := by decide +kernel
theorem dL_changes_113 : decode cL_changes 113 = .ok (.iastore, 1) := by decide +kernel
theorem dL_changes_114 : decode cL_changes 114 = .ok (.iload 5, 2) := by decide +kernel
theorem dL_changes_116 : decode cL_changes 116 = .ok (.ireturn, 1) := by decide +kernel
theorem dL_changes_117 : decode cL_changes 117 = .ok (.iload_n 3, 1) := by decide +kernel
theorem dL_changes_118 : decode cL_changes 118 = .ok (.bipush 16, 2) := by decide +kernel
theorem dL_changes_120 : decode cL_changes 120 = .ok (.irem, 1) := by decide +kernel
theorem dL_changes_121 : decode cL_changes 121 = .ok (.bipush 15, 2) := by decide +kernel
theorem dL_changes_123 : decode cL_changes 123 = .ok (.if_icmp .lt 19, 3) := by decide +kernel
theorem dL_changes_126 : decode cL_changes 126 = .ok (.aload_n 0, 1) := by decide +kernel
theorem dL_changes_127 : decode cL_changes 127 = .ok (.iconst 1, 1) := by decide +kernel
theorem dL_changes_128 : decode cL_changes 128 = .ok (.iload_n 3, 1) := by decide +kernel
theorem dL_changes_129 : decode cL_changes 129 = .ok (.sipush 960, 3) := by decide +kernel
theorem dL_changes_132 : decode cL_changes 132 = .ok (.idiv, 1) := by decide +kernel
theorem dL_changes_133 : decode cL_changes 133 = .ok (.iconst 5, 1) := by decide +kernel
theorem dL_changes_134 : decode cL_changes 134 = .ok (.irem, 1) := by decide +kernel
theorem dL_changes_135 : decode cL_changes 135 = .ok (.iadd, 1) := by decide +kernel
theorem dL_changes_136 : decode cL_changes 136 = .ok (.invokestatic 59, 3) := by decide +kernel
theorem dL_changes_139 : decode cL_changes 139 = .ok (.ifCond .le 7, 3) := by decide +kernel
theorem dL_changes_142 : decode cL_changes 142 = .ok (.iconst 1, 1) := by decide +kernel
theorem dL_changes_143 : decode cL_changes 143 = .ok (.goto 4, 3) := by decide +kernel
theorem dL_changes_146 : decode cL_changes 146 = .ok (.iconst 0, 1) := by decide +kernel
theorem dL_changes_147 : decode cL_changes 147 = .ok (.ireturn, 1) := by decide +kernel
set_option maxHeartbeats 4000000 in
set_option maxRecDepth 100000 in
theorem c_L_seen (l : Launch) (D : va_G) (cy : ClassId) (pa : Nat) (na : Nat) (kp : Nat → Nat) (kn : Nat → Nat) (ky : Nat) (hkp : ∀ i, i < 60 → kp i < 65536) (hky : ky < 65536) : tq_V (S := (Nat → Nat)) l yL_seen cL_seen 4 0 0 0 0 D cy (wN cy pa na kp kn) [.ref (pa), .ref (na), .int (nI (ky))] (fun u => ∀ q, u q = kn q + if q < 60 ∧ kp q = ky then 1 else 0) (fun u => (wN cy pa na kp u)) := by
  refine tq_V.mk (by decide) (Nat.le_of_ble_eq_true rfl) ?_
  intro p e s m args below meth c A C hin hP hK hD hS hA ls hl
  obtain ⟨hx, hb, hml, hown, hrt, hlk, hT⟩ := id C
  have hl : lv_has ls 4 [(0, .ref (pa)), (1, .ref (na)), (2, .int (nI (ky)))] := hl
  refine lv_iconst (v := nI 0) hx hb dL_seen_0 (by decide) ?_
  refine lv_istore_n (lv' := [(3, .int (nI (0))), (0, .ref (pa)), (1, .ref (na)), (2, .int (nI (ky)))]) hx hb dL_seen_1 rfl hl (by decide) rfl (fun ls hl => ?_)
  suffices hlp2 : ∀ (n2 : Nat) (i : Nat) (f : Nat → Nat), 60 - i < n2 → (i ≤ 60) → (∀ q, f q = kn q + if q < i ∧ kp q = ky then 1 else 0) → ∀ (H : Heap) (locs : List Loc), va_P D vwCl (wN cy pa na kp f) H → va_D A (wN cy pa na kp f) → va_S A s.heap H locs → ∀ ls : Array Slot, lv_has ls 4 [(0, .ref (pa)), (1, .ref (na)), (2, .int (nI (ky))), (3, .int (nI (i)))] → W p l e ({ frames := 0, cells := 0, slots := 0, locals := 0 } : Room) s m args below meth c H locs 0 0 (MQ below (va_Qv (S := (Nat → Nat)) (fun u => ∀ q, u q = kn q + if q < 60 ∧ kp q = ky then 1 else 0) (tq_B D A (fun u => (wN cy pa na kp u))) A) args s 0 0 A) (F0 m 2 ls []) from
    hlp2 61 0 kn (by omega) (by omega) (fun q => by rw [if_neg (fun w => absurd w.1 (Nat.not_lt_zero _))]; omega) _ _ hP hD hS _ (lv_sub hl [1, 2, 3, 0] rfl)
  intro n2
  induction n2 with
  | zero => intro i f hf; exact absurd hf (Nat.not_lt_zero _)
  | succ n2 ih2 =>
    intro i f hf2 hi hf9 H locs hP hD hS ls hl
    refine lv_iload_n hx hb dL_seen_2 rfl (lv_at hl 3 rfl) ?_
    refine lv_bipush (v := nI 60) hx hb dL_seen_3 (by decide) ?_
    refine tq_icmp_ge (tgt := 32) C (by omega) (by omega) dL_seen_5 (by decide) (fun h5 => ?_) (fun h5 => ?_)
    · exact tq_vret C (f) hP hD hS (fun q => by rw [hf9 q, show i = 60 from by omega]) (Nat.le_of_ble_eq_true rfl) (Nat.le_of_ble_eq_true rfl) dL_seen_32
    · refine lv_aload_n hx hb dL_seen_8 rfl (lv_at hl 1 rfl) ?_
      refine lv_iload_n hx hb dL_seen_9 rfl (lv_at hl 3 rfl) ?_
      refine lv_dup2_11 hx hb dL_seen_10 rfl rfl ?_
      refine tq_iald (n := 60) (i := i) (f := f) C hK hP 1 0 rfl rfl (by omega) (Nat.le_of_ble_eq_true rfl) dL_seen_11 ?_
      refine lv_aload_n hx hb dL_seen_12 rfl (lv_at hl 0 rfl) ?_
      refine lv_iload_n hx hb dL_seen_13 rfl (lv_at hl 3 rfl) ?_
      refine tq_iald (n := 60) (i := i) (f := kp) C hK hP 0 0 rfl rfl (by omega) (Nat.le_of_ble_eq_true rfl) dL_seen_14 ?_
      refine lv_iload_n hx hb dL_seen_15 rfl (lv_at hl 2 rfl) ?_
      refine tq_icmp_ne (tgt := 23) C (by have := hkp i (by omega); omega) (by omega) dL_seen_16 (by decide) (fun h16 => ?_) (fun h16 => ?_)
      · refine lv_iconst (v := nI 0) hx hb dL_seen_23 (by decide) ?_
        refine tq_iadd C dL_seen_24 ?_
        refine tq_iast (n := 60) (i := i) (v := ((f i) + 0)) (f := f) C hK hP hD hS 1 0 rfl rfl (by omega) (Nat.le_of_ble_eq_true rfl) dL_seen_25 (fun H locs hP hD hS => ?_)
        have hP : va_P D vwCl (wN cy pa na kp (va_up f i ((f i) + 0))) H := hP
        have hD : va_D A (wN cy pa na kp (va_up f i ((f i) + 0))) := hD
        refine lv_iinc (v := (nI (i + 1))) (lv' := [(3, .int (nI (i + 1))), (0, .ref (pa)), (1, .ref (na)), (2, .int (nI (ky)))]) hx hb dL_seen_26 hl (k := 3) rfl (tq_inc1 _) (by decide) rfl (fun ls hl => ?_)
        refine lv_goto (tgt := 2) hx hb dL_seen_29 (by decide) ?_
        exact ih2 (i + 1) (va_up f i ((f i) + 0)) (by omega) (by omega) (fun q => by
                  by_cases z : q = i
                  · rw [z, up_s, hf9 i, if_neg (fun w => absurd w.1 (Nat.lt_irrefl _)), if_neg (fun w => h16 w.2)]
                  · rw [up_n _ _ z, hf9 q]; by_cases y : q < i
                    · by_cases w : kp q = ky
                      · rw [if_pos ⟨y, w⟩, if_pos ⟨by omega, w⟩]
                      · rw [if_neg (fun v => w v.2), if_neg (fun v => w v.2)]
                    · rw [if_neg (fun v => y v.1), if_neg (fun v => by omega)]) _ _ hP hD hS _ (lv_sub hl [1, 2, 3, 0] rfl)
      · refine lv_iconst (v := nI 1) hx hb dL_seen_19 (by decide) ?_
        refine lv_goto (tgt := 24) hx hb dL_seen_20 (by decide) ?_
        refine tq_iadd C dL_seen_24 ?_
        refine tq_iast (n := 60) (i := i) (v := ((f i) + 1)) (f := f) C hK hP hD hS 1 0 rfl rfl (by omega) (Nat.le_of_ble_eq_true rfl) dL_seen_25 (fun H locs hP hD hS => ?_)
        have hP : va_P D vwCl (wN cy pa na kp (va_up f i ((f i) + 1))) H := hP
        have hD : va_D A (wN cy pa na kp (va_up f i ((f i) + 1))) := hD
        refine lv_iinc (v := (nI (i + 1))) (lv' := [(3, .int (nI (i + 1))), (0, .ref (pa)), (1, .ref (na)), (2, .int (nI (ky)))]) hx hb dL_seen_26 hl (k := 3) rfl (tq_inc1 _) (by decide) rfl (fun ls hl => ?_)
        refine lv_goto (tgt := 2) hx hb dL_seen_29 (by decide) ?_
        exact ih2 (i + 1) (va_up f i ((f i) + 1)) (by omega) (by omega) (fun q => by
                  by_cases z : q = i
                  · rw [z, up_s, hf9 i, if_neg (fun w => absurd w.1 (Nat.lt_irrefl _)), if_pos ⟨Nat.lt_succ_self i, h16⟩]
                  · rw [up_n _ _ z, hf9 q]; by_cases y : q < i
                    · by_cases w : kp q = ky
                      · rw [if_pos ⟨y, w⟩, if_pos ⟨by omega, w⟩]
                      · rw [if_neg (fun v => w v.2), if_neg (fun v => w v.2)]
                    · rw [if_neg (fun v => y v.1), if_neg (fun v => by omega)]) _ _ hP hD hS _ (lv_sub hl [1, 2, 3, 0] rfl)
set_option maxHeartbeats 4000000 in
set_option maxRecDepth 100000 in
theorem c_L_looks (l : Launch) (D : va_G) (cy : ClassId) (a : Nat → Nat) (key : Nat → Nat) (val : Nat → Nat) (ord : Nat → Nat) (tk : Nat) (cp : Nat) (efi : Nat → Nat) (ela : Nat → Nat) (eco : Nat → Nat) (ene : Nat → Nat) (ldp : Nat → Nat) (dp : Nat) (dbl : Int32) (hlv : Int32) (spl : Int32) (mrg : Int32) (lfi : Nat → Nat) (lla : Nat → Nat) (lco : Nat → Nat) (lne : Nat → Nat) (lev : Nat) (ptr : Nat) (llo : Nat) (lhi : Nat) (lsp : Int32) (pa : Nat) (na : Nat) (ha : Nat) (kp : Nat → Nat) (kn : Nat → Nat) (kh : Nat → Nat) (cu : Nat) (dep : Nat → Nat) (E L : List Nat) (hCR : CR key val ord tk cp efi ela eco ene ldp dp lfi lla lco lne lev ptr llo lhi dep E L) (hkp : ∀ i, i < 60 → kp i < 65536) (hcu : cu < 256) : tq_I (S := (Nat → Nat)) l yL_looks cL_looks 9 (some .boolean) 6 133 0 0 D cy (wQ cy a key val ord tk cp efi ela eco ene ldp dp dbl hlv spl mrg lfi lla lco lne lev ptr llo lhi lsp pa na ha kp kn kh) [.ref (a 0), .ref (pa), .ref (na), .int (nI (cu))] (fun r u => r = nI 1 ∧ ∀ q, u q = kn q + if q < 60 then (clB E cu (dep cu)).count (kp q) else 0) (fun u => (wQ cy a key val ord tk cp efi ela eco ene ldp dp dbl hlv spl mrg lfi lla lco lne lev ptr llo lhi lsp pa na ha kp u kh)) := by
  refine tq_I.mk (by decide) (Nat.le_of_ble_eq_true rfl) ?_
  intro p e s m args below meth c A C hP hK hD hS hA ls hl
  obtain ⟨hx, hb, hml, hown, hrt, hlk, hT⟩ := id C
  have hl : lv_has ls 9 [(0, .ref (a 0)), (1, .ref (pa)), (2, .ref (na)), (3, .int (nI (cu)))] := hl
  have hXO := hCR.XO
  have hdp := hXO.1
  have hsl : cu % 2 ^ dp < 2 ^ dp := Nat.mod_lt _ (Nat.two_pow_pos _)
  have hs2 : cu % 2 ^ dp < 256 := m2 hdp
  have hBn := hCR.B_nodup hs2
  have hsl2 := hCR.slot hcu
  refine lv_aload_n hx hb dL_looks_0 rfl (lv_at hl 0 rfl) ?_
  refine lv_iload_n hx hb dL_looks_1 rfl (lv_at hl 3 rfl) ?_
  refine tq_callF (vx_runSW C.fix (As := [.ref (a 0), .int (nI (cu))]) (rest := []) (c_L_slotAt l D cy a key val ord tk cp efi ela eco ene ldp dp dbl hlv spl mrg lfi lla lco lne lev ptr llo lhi lsp cu hdp hcu) (tq_cW (n := 2) C ml_L_39 sm_L_slotAt ini_L cw_L_slotAt ⟨by decide, by decide, by decide +kernel⟩ ⟨Nat.le_of_ble_eq_true rfl, Nat.le_of_ble_eq_true rfl⟩) ⟨tq_Pf.blind, tq_preF C hK (hP.sub [0, 1, 2, 3, 4, 5, 6, 7, 8, 9, 10, 11, 12, 13, 14, 15, 16, 17] rfl)⟩ rfl rfl hl.1 rfl (lv_room (Nat.le_of_ble_eq_true rfl)) dL_looks_2 ⟨Nat.le_of_ble_eq_true rfl, Nat.le_of_ble_eq_true rfl⟩) (fun r2 hr2 => ?_)
  obtain rfl := hr2
  refine lv_istore (lv' := [(4, .int (nI (cu % 2 ^ dp))), (0, .ref (a 0)), (1, .ref (pa)), (2, .ref (na)), (3, .int (nI (cu)))]) hx hb dL_looks_5 hl (by decide) rfl (fun ls hl => ?_)
  refine lv_aload_n hx hb dL_looks_7 rfl (lv_at hl 1 rfl) ?_
  refine lv_iload hx hb dL_looks_8 (lv_at hl 0 rfl) ?_
  refine tq_callF (vx_runSW C.fix (As := [.ref (a 0), .int (nI (cu % 2 ^ dp))]) (rest := []) (c_L_many l D cy a key val ord tk cp efi ela eco ene ldp dp dbl hlv spl mrg lfi lla lco lne lev ptr llo lhi lsp (cu % 2 ^ dp) dep E L hCR hsl) (tq_cW (n := 2) C ml_L_44 sm_L_many ini_L cw_L_many ⟨by decide, by decide, by decide +kernel⟩ ⟨Nat.le_of_ble_eq_true rfl, Nat.le_of_ble_eq_true rfl⟩) ⟨tq_Pf.blind, tq_preF C hK (hP.sub [0, 1, 2, 3, 4, 5, 6, 7, 8, 9, 10, 11, 12, 13, 14, 15, 16, 17] rfl)⟩ rfl rfl hl.1 rfl (lv_room (Nat.le_of_ble_eq_true rfl)) dL_looks_10 ⟨Nat.le_of_ble_eq_true rfl, Nat.le_of_ble_eq_true rfl⟩) (fun r10 hr10 => ?_)
  subst hr10
  refine lv_istore (lv' := [(5, .int (nI ((clB E (cu % 2 ^ dp) (dep (cu % 2 ^ dp))).length))), (4, .int (nI (cu % 2 ^ dp))), (0, .ref (a 0)), (1, .ref (pa)), (2, .ref (na)), (3, .int (nI (cu)))]) hx hb dL_looks_13 hl (by decide) rfl (fun ls hl => ?_)
  refine lv_iload hx hb dL_looks_15 (lv_at hl 0 rfl) ?_
  refine tq_if_lt (tgt := 24) C (by omega) dL_looks_17 (by decide) ?_
  refine lv_iconst (v := nI 1) hx hb dL_looks_20 (by decide) ?_
  refine lv_goto (tgt := 25) hx hb dL_looks_21 (by decide) ?_
  refine lv_istore (lv' := [(6, .int (nI (1))), (5, .int (nI ((clB E (cu % 2 ^ dp) (dep (cu % 2 ^ dp))).length))), (4, .int (nI (cu % 2 ^ dp))), (0, .ref (a 0)), (1, .ref (pa)), (2, .ref (na)), (3, .int (nI (cu)))]) hx hb dL_looks_25 hl (by decide) rfl (fun ls hl => ?_)
  refine lv_iconst (v := nI 0) hx hb dL_looks_27 (by decide) ?_
  refine lv_istore (lv' := [(7, .int (nI (0))), (6, .int (nI (1))), (5, .int (nI ((clB E (cu % 2 ^ dp) (dep (cu % 2 ^ dp))).length))), (4, .int (nI (cu % 2 ^ dp))), (0, .ref (a 0)), (1, .ref (pa)), (2, .ref (na)), (3, .int (nI (cu)))]) hx hb dL_looks_28 hl (by decide) rfl (fun ls hl => ?_)
  suffices hlp30 : ∀ (n30 : Nat) (j : Nat) (f : Nat → Nat), (clB E (cu % 2 ^ dp) (dep (cu % 2 ^ dp))).length - j < n30 → (j ≤ (clB E (cu % 2 ^ dp) (dep (cu % 2 ^ dp))).length) → (∀ q, f q = kn q + if q < 60 then ((clB E (cu % 2 ^ dp) (dep (cu % 2 ^ dp))).take j).count (kp q) else 0) → ∀ (H : Heap) (locs : List Loc), va_P D vwCl (wQ cy a key val ord tk cp efi ela eco ene ldp dp dbl hlv spl mrg lfi lla lco lne lev ptr llo lhi lsp pa na ha kp f kh) H → va_D A (wQ cy a key val ord tk cp efi ela eco ene ldp dp dbl hlv spl mrg lfi lla lco lne lev ptr llo lhi lsp pa na ha kp f kh) → va_S A s.heap H locs → ∀ ls : Array Slot, lv_has ls 9 [(0, .ref (a 0)), (1, .ref (pa)), (2, .ref (na)), (3, .int (nI (cu))), (4, .int (nI (cu % 2 ^ dp))), (5, .int (nI ((clB E (cu % 2 ^ dp) (dep (cu % 2 ^ dp))).length))), (6, .int (nI (1))), (7, .int (nI (j)))] → W p l e ({ frames := 6, cells := 0, slots := 0, locals := 133 } : Room) s m args below meth c H locs 0 0 (MQ below (va_Qi (S := (Nat → Nat)) (fun r u => r = nI 1 ∧ ∀ q, u q = kn q + if q < 60 then (clB E cu (dep cu)).count (kp q) else 0) (tq_B D A (fun u => (wQ cy a key val ord tk cp efi ela eco ene ldp dp dbl hlv spl mrg lfi lla lco lne lev ptr llo lhi lsp pa na ha kp u kh))) A) args s 0 0 A) (F0 m 30 ls []) from
    hlp30 ((clB E (cu % 2 ^ dp) (dep (cu % 2 ^ dp))).length + 1) 0 kn (by omega) (by omega) (fun q => by rw [List.take_zero, List.count_nil]; split <;> rfl) _ _ hP hD hS _ (lv_sub hl [4, 5, 6, 7, 3, 2, 1, 0] rfl)
  intro n30
  induction n30 with
  | zero => intro j f hf; exact absurd hf (Nat.not_lt_zero _)
  | succ n30 ih30 =>
    intro j f hf30 hj hf9 H locs hP hD hS ls hl
    refine lv_iload hx hb dL_looks_30 (lv_at hl 7 rfl) ?_
    refine lv_iload hx hb dL_looks_32 (lv_at hl 5 rfl) ?_
    refine tq_icmp_ge (tgt := 77) C (by omega) (by omega) dL_looks_34 (by decide) (fun h34 => ?_) (fun h34 => ?_)
    · refine lv_iload hx hb dL_looks_77 (lv_at hl 6 rfl) ?_
      exact tq_iret (v := (nI (1))) C (by decide) (f) hP hD hS (⟨rfl, fun q => by rw [hf9 q, List.take_of_length_le (by omega), hsl2.1, hsl2.2]⟩) (Nat.le_of_ble_eq_true rfl) (Nat.le_of_ble_eq_true rfl) dL_looks_79
    · refine lv_iload hx hb dL_looks_37 (lv_at hl 6 rfl) ?_
      refine lv_if_eq (tgt := 77) hx hb dL_looks_39 (by decide) (fun h9 => absurd h9 (by decide)) (fun _ => ?_)
      refine lv_aload_n hx hb dL_looks_42 rfl (lv_at hl 0 rfl) ?_
      refine lv_iload hx hb dL_looks_43 (lv_at hl 4 rfl) ?_
      refine lv_iload hx hb dL_looks_45 (lv_at hl 7 rfl) ?_
      refine tq_callF (vx_runSW C.fix (As := [.ref (a 0), .int (nI (cu % 2 ^ dp)), .int (nI (j))]) (rest := []) (c_L_keyAt l D cy a key val ord tk cp efi ela eco ene ldp dp dbl hlv spl mrg lfi lla lco lne lev ptr llo lhi lsp (cu % 2 ^ dp) j dep E L hCR hsl (by omega)) (tq_cW (n := 3) C ml_L_47 sm_L_keyAt ini_L cw_L_keyAt ⟨by decide, by decide, by decide +kernel⟩ ⟨Nat.le_of_ble_eq_true rfl, Nat.le_of_ble_eq_true rfl⟩) ⟨tq_Pf.blind, tq_preF C hK (hP.sub [0, 1, 2, 3, 4, 5, 6, 7, 8, 9, 10, 11, 12, 13, 14, 15, 16, 17] rfl)⟩ rfl rfl hl.1 rfl (lv_room (Nat.le_of_ble_eq_true rfl)) dL_looks_47 ⟨Nat.le_of_ble_eq_true rfl, Nat.le_of_ble_eq_true rfl⟩) (fun r47 hr47 => ?_)
      subst hr47
      have hme : (clB E (cu % 2 ^ dp) (dep (cu % 2 ^ dp))).getD j 0 ∈ (clB E (cu % 2 ^ dp) (dep (cu % 2 ^ dp))) := getD_mem (by omega)
      have hkl := hCR.E_lt (clB_mem.mp hme).1
      refine lv_istore (lv' := [(8, .int (nI ((clB E (cu % 2 ^ dp) (dep (cu % 2 ^ dp))).getD j 0))), (0, .ref (a 0)), (1, .ref (pa)), (2, .ref (na)), (3, .int (nI (cu))), (4, .int (nI (cu % 2 ^ dp))), (5, .int (nI ((clB E (cu % 2 ^ dp) (dep (cu % 2 ^ dp))).length))), (6, .int (nI (1))), (7, .int (nI (j)))]) hx hb dL_looks_50 hl (by decide) rfl (fun ls hl => ?_)
      refine lv_iload hx hb dL_looks_52 (lv_at hl 0 rfl) ?_
      refine tq_if_lt (tgt := 61) C (by omega) dL_looks_54 (by decide) ?_
      refine lv_iconst (v := nI 1) hx hb dL_looks_57 (by decide) ?_
      refine lv_goto (tgt := 62) hx hb dL_looks_58 (by decide) ?_
      refine lv_istore (lv' := [(6, .int (nI (1))), (8, .int (nI ((clB E (cu % 2 ^ dp) (dep (cu % 2 ^ dp))).getD j 0))), (0, .ref (a 0)), (1, .ref (pa)), (2, .ref (na)), (3, .int (nI (cu))), (4, .int (nI (cu % 2 ^ dp))), (5, .int (nI ((clB E (cu % 2 ^ dp) (dep (cu % 2 ^ dp))).length))), (7, .int (nI (j)))]) hx hb dL_looks_62 hl (by decide) rfl (fun ls hl => ?_)
      refine lv_aload_n hx hb dL_looks_64 rfl (lv_at hl 3 rfl) ?_
      refine lv_aload_n hx hb dL_looks_65 rfl (lv_at hl 4 rfl) ?_
      refine lv_iload hx hb dL_looks_66 (lv_at hl 1 rfl) ?_
      refine tq_callV (W3 := fun u => (wQ cy a key val ord tk cp efi ela eco ene ldp dp dbl hlv spl mrg lfi lla lco lne lev ptr llo lhi lsp pa na ha kp u kh)) (wr := [0, 1, 2, 3, 4, 5, 6, 7, 8, 9, 10, 11, 12, 13, 14, 15, 16, 17, 20].filterMap (fun i => (wQ cy a key val ord tk cp efi ela eco ene ldp dp dbl hlv spl mrg lfi lla lco lne lev ptr llo lhi lsp pa na ha kp f kh)[i]?)) (va_runS C.fix (As := [.ref (pa), .ref (na), .int (nI ((clB E (cu % 2 ^ dp) (dep (cu % 2 ^ dp))).getD j 0))]) (rest := []) ((c_L_seen l D cy pa na kp f ((clB E (cu % 2 ^ dp) (dep (cu % 2 ^ dp))).getD j 0) hkp hkl) H.size) (tq_cS (n := 3) C ml_L_50 sm_L_seen ini_L cd_L_seen ⟨by decide, by decide, by decide +kernel⟩ ⟨Nat.le_of_ble_eq_true rfl, Nat.le_of_ble_eq_true rfl⟩) ⟨tq_Pc.blind, tq_preC C hK (hP.sub [18, 19] rfl) (hD.sub [18, 19] (by decide) rfl)⟩ rfl rfl hl.1 rfl (lv_room (Nat.le_of_ble_eq_true rfl)) dL_looks_68 ⟨Nat.le_of_ble_eq_true rfl, Nat.le_of_ble_eq_true rfl⟩) hP hD hS hA [18, 19] [0, 1, 2, 3, 4, 5, 6, 7, 8, 9, 10, 11, 12, 13, 14, 15, 16, 17, 20] [0, 1, 2, 3, 4, 5, 6, 7, 8, 9, 10, 11, 12, 13, 14, 15, 16, 17, 19, 20, 18] rfl rfl (by decide) (by decide) (by decide) (fun _ => rfl) (fun u68 H locs hr68 hP hD hS => ?_)
      obtain ⟨f2, rfl⟩ : ∃ z, z = u68 := ⟨_, rfl⟩
      try dsimp only at hr68
      have hP : va_P D vwCl (wQ cy a key val ord tk cp efi ela eco ene ldp dp dbl hlv spl mrg lfi lla lco lne lev ptr llo lhi lsp pa na ha kp f2 kh) H := hP
      have hD : va_D A (wQ cy a key val ord tk cp efi ela eco ene ldp dp dbl hlv spl mrg lfi lla lco lne lev ptr llo lhi lsp pa na ha kp f2 kh) := hD
      refine lv_iinc (v := (nI (j + 1))) (lv' := [(7, .int (nI (j + 1))), (6, .int (nI (1))), (8, .int (nI ((clB E (cu % 2 ^ dp) (dep (cu % 2 ^ dp))).getD j 0))), (0, .ref (a 0)), (1, .ref (pa)), (2, .ref (na)), (3, .int (nI (cu))), (4, .int (nI (cu % 2 ^ dp))), (5, .int (nI ((clB E (cu % 2 ^ dp) (dep (cu % 2 ^ dp))).length)))]) hx hb dL_looks_71 hl (k := 8) rfl (tq_inc1 _) (by decide) rfl (fun ls hl => ?_)
      refine lv_goto (tgt := 30) hx hb dL_looks_74 (by decide) ?_
      exact ih30 (j + 1) f2 (by omega) (by omega) (fun q => by
                rw [hr68 q, hf9 q, count_step (show j < (clB E (cu % 2 ^ dp) (dep (cu % 2 ^ dp))).length by omega)]
                by_cases z : q < 60
                · rw [if_pos z, if_pos z]
                  by_cases y : kp q = (clB E (cu % 2 ^ dp) (dep (cu % 2 ^ dp))).getD j 0
                  · rw [if_pos ⟨z, y⟩, if_pos y, Nat.add_assoc]
                  · rw [if_neg (fun w => y w.2), if_neg y]; omega
                · rw [if_neg z, if_neg z, if_neg (fun w => z w.1)]) _ _ hP hD hS _ (lv_sub hl [3, 4, 5, 6, 7, 8, 1, 0] rfl)
set_option maxHeartbeats 4000000 in
set_option maxRecDepth 100000 in
theorem c_L_changes (l : Launch) (D : va_G) (cy : ClassId) (a : Nat → Nat) (key : Nat → Nat) (val : Nat → Nat) (ord : Nat → Nat) (tk : Nat) (cp : Nat) (efi : Nat → Nat) (ela : Nat → Nat) (eco : Nat → Nat) (ene : Nat → Nat) (ldp : Nat → Nat) (dp : Nat) (dbl : Int32) (hlv : Int32) (spl : Int32) (mrg : Int32) (lfi : Nat → Nat) (lla : Nat → Nat) (lco : Nat → Nat) (lne : Nat → Nat) (lev : Nat) (ptr : Nat) (llo : Nat) (lhi : Nat) (lsp : Int32) (pa : Nat) (na : Nat) (ha : Nat) (kp : Nat → Nat) (kn : Nat → Nat) (kh : Nat → Nat) (z9 : Nat) (dep : Nat → Nat) (E L : List Nat) (hCR : CR key val ord tk cp efi ela eco ene ldp dp lfi lla lco lne lev ptr llo lhi dep E L) (hHI : HI kp kh (stl key val ord tk) 60) (hz9 : z9 < 2 ^ 31) : tq_I (S := (Nat → Nat) × (Nat → Nat) × (Nat → Nat) × Nat × Nat × (Nat → Nat) × (Nat → Nat) × (Nat → Nat) × (Nat → Nat) × (Nat → Nat) × Nat × Int32 × Int32 × Int32 × Int32 × (Nat → Nat) × (Nat → Nat) × (Nat → Nat) × (Nat → Nat) × Nat × Nat × Int32 × (Nat → Nat)) l yL_changes cL_changes 6 (some .boolean) 8 183 0 0 D cy (wQ cy a key val ord tk cp efi ela eco ene ldp dp dbl hlv spl mrg lfi lla lco lne lev ptr llo lhi lsp pa na ha kp kn kh) [.ref (a 0), .ref (pa), .ref (ha), .int (nI (z9))] (fun r u => r = nI 1 ∧ (∃ dep2 E2 L2, CR u.1 u.2.1 u.2.2.1 u.2.2.2.1 u.2.2.2.2.1 u.2.2.2.2.2.1 u.2.2.2.2.2.2.1 u.2.2.2.2.2.2.2.1 u.2.2.2.2.2.2.2.2.1 u.2.2.2.2.2.2.2.2.2.1 u.2.2.2.2.2.2.2.2.2.2.1 u.2.2.2.2.2.2.2.2.2.2.2.2.2.2.2.1 u.2.2.2.2.2.2.2.2.2.2.2.2.2.2.2.2.1 u.2.2.2.2.2.2.2.2.2.2.2.2.2.2.2.2.2.1 u.2.2.2.2.2.2.2.2.2.2.2.2.2.2.2.2.2.2.1 u.2.2.2.2.2.2.2.2.2.2.2.2.2.2.2.2.2.2.2.1 u.2.2.2.2.2.2.2.2.2.2.2.2.2.2.2.2.2.2.2.2.1 llo lhi dep2 E2 L2) ∧ HI kp u.2.2.2.2.2.2.2.2.2.2.2.2.2.2.2.2.2.2.2.2.2.2 (stl u.1 u.2.1 u.2.2.1 u.2.2.2.1) 60 ∧ ∀ i, u.2.2.2.2.2.2.2.2.2.2.2.2.2.2.2.2.2.2.2.2.2.2 i = 2 → kh i = 2) (fun u => (wQ cy a u.1 u.2.1 u.2.2.1 u.2.2.2.1 u.2.2.2.2.1 u.2.2.2.2.2.1 u.2.2.2.2.2.2.1 u.2.2.2.2.2.2.2.1 u.2.2.2.2.2.2.2.2.1 u.2.2.2.2.2.2.2.2.2.1 u.2.2.2.2.2.2.2.2.2.2.1 u.2.2.2.2.2.2.2.2.2.2.2.1 u.2.2.2.2.2.2.2.2.2.2.2.2.1 u.2.2.2.2.2.2.2.2.2.2.2.2.2.1 u.2.2.2.2.2.2.2.2.2.2.2.2.2.2.1 u.2.2.2.2.2.2.2.2.2.2.2.2.2.2.2.1 u.2.2.2.2.2.2.2.2.2.2.2.2.2.2.2.2.1 u.2.2.2.2.2.2.2.2.2.2.2.2.2.2.2.2.2.1 u.2.2.2.2.2.2.2.2.2.2.2.2.2.2.2.2.2.2.1 u.2.2.2.2.2.2.2.2.2.2.2.2.2.2.2.2.2.2.2.1 u.2.2.2.2.2.2.2.2.2.2.2.2.2.2.2.2.2.2.2.2.1 llo lhi u.2.2.2.2.2.2.2.2.2.2.2.2.2.2.2.2.2.2.2.2.2.1 pa na ha kp kn u.2.2.2.2.2.2.2.2.2.2.2.2.2.2.2.2.2.2.2.2.2.2)) := by
  refine tq_I.mk (by decide) (Nat.le_of_ble_eq_true rfl) ?_
  intro p e s m args below meth c A C hP hK hD hS hA ls hl
  obtain ⟨hx, hb, hml, hown, hrt, hlk, hT⟩ := id C
  have hl : lv_has ls 6 [(0, .ref (a 0)), (1, .ref (pa)), (2, .ref (ha)), (3, .int (nI (z9)))] := hl
  have hw9 : (z9 / 16 % 60) < 60 := Nat.mod_lt _ (by decide)
  have hkw := hHI.1 _ hw9
  have hiw := hHI.in_ hw9
  have hkh := hHI.2.1 (z9 / 16 % 60)
  have htk : tk < 120 := by
    have := hHI.len (stl_sorted hCR.1.2.2.2.1)
    rw [stl_len] at this
    omega
  refine lv_iload_n hx hb dL_changes_0 rfl (lv_at hl 3 rfl) ?_
  refine lv_bipush (v := nI 16) hx hb dL_changes_1 (by decide) ?_
  refine tq_idiv C (by omega) (by omega) (by omega) dL_changes_3 ?_
  refine lv_bipush (v := nI 60) hx hb dL_changes_4 (by decide) ?_
  refine tq_irem C (by omega) (by omega) (by omega) dL_changes_6 ?_
  refine lv_istore (lv' := [(4, .int (nI ((z9 / 16) % 60))), (0, .ref (a 0)), (1, .ref (pa)), (2, .ref (ha)), (3, .int (nI (z9)))]) hx hb dL_changes_7 hl (by decide) rfl (fun ls hl => ?_)
  refine lv_iload_n hx hb dL_changes_9 rfl (lv_at hl 4 rfl) ?_
  refine lv_bipush (v := nI 16) hx hb dL_changes_10 (by decide) ?_
  refine tq_irem C (by omega) (by omega) (by omega) dL_changes_12 ?_
  refine lv_bipush (v := nI 6) hx hb dL_changes_13 (by decide) ?_
  refine tq_icmp_ge (tgt := 70) C (by omega) (by omega) dL_changes_15 (by decide) (fun h15 => ?_) (fun h15 => ?_)
  · refine lv_iload_n hx hb dL_changes_70 rfl (lv_at hl 4 rfl) ?_
    refine lv_bipush (v := nI 16) hx hb dL_changes_71 (by decide) ?_
    refine tq_irem C (by omega) (by omega) (by omega) dL_changes_73 ?_
    refine lv_bipush (v := nI 12) hx hb dL_changes_74 (by decide) ?_
    refine tq_icmp_ge (tgt := 117) C (by omega) (by omega) dL_changes_76 (by decide) (fun h76 => ?_) (fun h76 => ?_)
    · refine lv_iload_n hx hb dL_changes_117 rfl (lv_at hl 4 rfl) ?_
      refine lv_bipush (v := nI 16) hx hb dL_changes_118 (by decide) ?_
      refine tq_irem C (by omega) (by omega) (by omega) dL_changes_120 ?_
      refine lv_bipush (v := nI 15) hx hb dL_changes_121 (by decide) ?_
      refine tq_icmp_lt (tgt := 142) C (by omega) (by omega) dL_changes_123 (by decide) (fun h123 => ?_) (fun h123 => ?_)
      · refine lv_iconst (v := nI 1) hx hb dL_changes_142 (by decide) ?_
        refine lv_goto (tgt := 147) hx hb dL_changes_143 (by decide) ?_
        exact tq_iret (v := (nI (1))) C (by decide) (key, val, ord, tk, cp, efi, ela, eco, ene, ldp, dp, dbl, hlv, spl, mrg, lfi, lla, lco, lne, lev, ptr, lsp, kh) hP hD hS (⟨rfl, ⟨dep, E, L, hCR⟩, hHI, fun i hi => hi⟩) (Nat.le_of_ble_eq_true rfl) (Nat.le_of_ble_eq_true rfl) dL_changes_147
      · refine lv_aload_n hx hb dL_changes_126 rfl (lv_at hl 1 rfl) ?_
        refine lv_iconst (v := nI 1) hx hb dL_changes_127 (by decide) ?_
        refine lv_iload_n hx hb dL_changes_128 rfl (lv_at hl 4 rfl) ?_
        refine lv_sipush (v := nI 960) hx hb dL_changes_129 (by decide) ?_
        refine tq_idiv C (by omega) (by omega) (by omega) dL_changes_132 ?_
        refine lv_iconst (v := nI 5) hx hb dL_changes_133 (by decide) ?_
        refine tq_irem C (by omega) (by omega) (by omega) dL_changes_134 ?_
        refine tq_iadd C dL_changes_135 ?_
        refine tq_callI (W3 := fun u => (wQ cy a key val ord u.1 u.2.1 u.2.2.1 u.2.2.2.1 u.2.2.2.2.1 u.2.2.2.2.2.1 u.2.2.2.2.2.2.1 u.2.2.2.2.2.2.2.1 u.2.2.2.2.2.2.2.2.1 hlv u.2.2.2.2.2.2.2.2.2.1 mrg u.2.2.2.2.2.2.2.2.2.2.1 u.2.2.2.2.2.2.2.2.2.2.2.1 u.2.2.2.2.2.2.2.2.2.2.2.2.1 u.2.2.2.2.2.2.2.2.2.2.2.2.2.1 u.2.2.2.2.2.2.2.2.2.2.2.2.2.2.1 u.2.2.2.2.2.2.2.2.2.2.2.2.2.2.2.1 llo lhi u.2.2.2.2.2.2.2.2.2.2.2.2.2.2.2.2 pa na ha kp kn kh)) (wr := [18, 19, 20].filterMap (fun i => (wQ cy a key val ord tk cp efi ela eco ene ldp dp dbl hlv spl mrg lfi lla lco lne lev ptr llo lhi lsp pa na ha kp kn kh)[i]?)) (vx_runSW C.fix (As := [.ref (a 0), .int (nI (1 + ((z9 / 960) % 5)))]) (rest := []) ((c_L_rebuilt l D cy a key val ord tk cp efi ela eco ene ldp dp dbl hlv spl mrg lfi lla lco lne lev ptr llo lhi lsp (1 + ((z9 / 960) % 5)) dep E L hCR (by omega) (by omega)) s.heap.size) (tq_cW (n := 2) C ml_L_59 sm_L_rebuilt ini_L cw_L_rebuilt ⟨by decide, by decide, by decide +kernel⟩ ⟨Nat.le_of_ble_eq_true rfl, Nat.le_of_ble_eq_true rfl⟩) ⟨tq_Pc.blind, tq_preC C hK (hP.sub [0, 1, 2, 3, 4, 5, 6, 7, 8, 9, 10, 11, 12, 13, 14, 15, 16, 17] rfl) (hD.sub [0, 1, 2, 3, 4, 5, 6, 7, 8, 9, 10, 11, 12, 13, 14, 15, 16, 17] (by decide) rfl)⟩ rfl rfl hl.1 rfl (lv_room (Nat.le_of_ble_eq_true rfl)) dL_changes_136 ⟨Nat.le_of_ble_eq_true rfl, Nat.le_of_ble_eq_true rfl⟩) hP hD hS hA [0, 1, 2, 3, 4, 5, 6, 7, 8, 9, 10, 11, 12, 13, 14, 15, 16, 17] [18, 19, 20] [3, 4, 5, 6, 7, 8, 9, 10, 11, 12, 13, 14, 15, 16, 17, 18, 19, 20, 0, 1, 2] rfl rfl (by decide) (by decide) (by decide) (fun _ => rfl) (fun r136 u136 H locs hr136 hP hD hS => ?_)
        obtain ⟨tk4, cp4, efi4, ela4, eco4, ene4, ldp4, dp4, dbl4, spl4, lfi4, lla4, lco4, lne4, lev4, ptr4, lsp4⟩ := u136
        try dsimp only at hr136
        have hP : va_P D vwCl (wQ cy a key val ord tk4 cp4 efi4 ela4 eco4 ene4 ldp4 dp4 dbl4 hlv spl4 mrg lfi4 lla4 lco4 lne4 lev4 ptr4 llo lhi lsp4 pa na ha kp kn kh) H := hP
        have hD : va_D A (wQ cy a key val ord tk4 cp4 efi4 ela4 eco4 ene4 ldp4 dp4 dbl4 hlv spl4 mrg lfi4 lla4 lco4 lne4 lev4 ptr4 llo lhi lsp4 pa na ha kp kn kh) := hD
        obtain ⟨e1, e2, e3, dep2, E2, L2, hC2⟩ := hr136
        subst e1
        have hcp := hCR.2.1
        refine tq_if_le (tgt := 146) C (by omega) dL_changes_139 (by decide) (fun h139 => ?_) (fun h139 => ?_)
        · omega
        · refine lv_iconst (v := nI 1) hx hb dL_changes_142 (by decide) ?_
          refine lv_goto (tgt := 147) hx hb dL_changes_143 (by decide) ?_
          exact tq_iret (v := (nI (1))) C (by decide) (key, val, ord, tk4, cp4, efi4, ela4, eco4, ene4, ldp4, dp4, dbl4, hlv, spl4, mrg, lfi4, lla4, lco4, lne4, lev4, ptr4, lsp4, kh) hP hD hS (⟨rfl, ⟨dep2, E2, L2, hC2⟩, by rw [e2]; exact hHI, fun i hi => hi⟩) (Nat.le_of_ble_eq_true rfl) (Nat.le_of_ble_eq_true rfl) dL_changes_147
    · refine lv_aload_n hx hb dL_changes_79 rfl (lv_at hl 1 rfl) ?_
      refine lv_aload_n hx hb dL_changes_80 rfl (lv_at hl 2 rfl) ?_
      refine lv_iload hx hb dL_changes_81 (lv_at hl 0 rfl) ?_
      refine tq_iald (n := 60) (i := ((z9 / 16) % 60)) (f := kp) C hK hP 18 0 rfl rfl (by omega) (Nat.le_of_ble_eq_true rfl) dL_changes_83 ?_
      refine tq_callI (W3 := fun u => (wQ cy a key val u.1 u.2.1 cp u.2.2.1 u.2.2.2.1 u.2.2.2.2.1 u.2.2.2.2.2.1 u.2.2.2.2.2.2.1 u.2.2.2.2.2.2.2.1 dbl u.2.2.2.2.2.2.2.2.1 spl u.2.2.2.2.2.2.2.2.2.1 u.2.2.2.2.2.2.2.2.2.2.1 u.2.2.2.2.2.2.2.2.2.2.2.1 u.2.2.2.2.2.2.2.2.2.2.2.2.1 u.2.2.2.2.2.2.2.2.2.2.2.2.2.1 u.2.2.2.2.2.2.2.2.2.2.2.2.2.2.1 u.2.2.2.2.2.2.2.2.2.2.2.2.2.2.2.1 llo lhi u.2.2.2.2.2.2.2.2.2.2.2.2.2.2.2.2 pa na ha kp kn kh)) (wr := [18, 19, 20].filterMap (fun i => (wQ cy a key val ord tk cp efi ela eco ene ldp dp dbl hlv spl mrg lfi lla lco lne lev ptr llo lhi lsp pa na ha kp kn kh)[i]?)) (vx_runSW C.fix (As := [.ref (a 0), .int (nI (kp ((z9 / 16) % 60)))]) (rest := []) ((c_L_removed l D cy a key val ord tk cp efi ela eco ene ldp dp dbl hlv spl mrg lfi lla lco lne lev ptr llo lhi lsp (kp ((z9 / 16) % 60)) dep E L hCR hkw.2) s.heap.size) (tq_cW (n := 2) C ml_L_56 sm_L_removed ini_L cw_L_removed ⟨by decide, by decide, by decide +kernel⟩ ⟨Nat.le_of_ble_eq_true rfl, Nat.le_of_ble_eq_true rfl⟩) ⟨tq_Pc.blind, tq_preC C hK (hP.sub [0, 1, 2, 3, 4, 5, 6, 7, 8, 9, 10, 11, 12, 13, 14, 15, 16, 17] rfl) (hD.sub [0, 1, 2, 3, 4, 5, 6, 7, 8, 9, 10, 11, 12, 13, 14, 15, 16, 17] (by decide) rfl)⟩ rfl rfl hl.1 rfl (lv_room (Nat.le_of_ble_eq_true rfl)) dL_changes_84 ⟨Nat.le_of_ble_eq_true rfl, Nat.le_of_ble_eq_true rfl⟩) hP hD hS hA [0, 1, 2, 3, 4, 5, 6, 7, 8, 9, 10, 11, 12, 13, 14, 15, 16, 17] [18, 19, 20] [3, 4, 5, 6, 7, 8, 9, 10, 11, 12, 13, 14, 15, 16, 17, 18, 19, 20, 0, 1, 2] rfl rfl (by decide) (by decide) (by decide) (fun _ => rfl) (fun r84 u84 H locs hr84 hP hD hS => ?_)
      obtain ⟨ord3, tk3, efi3, ela3, eco3, ene3, ldp3, dp3, hlv3, mrg3, lfi3, lla3, lco3, lne3, lev3, ptr3, lsp3⟩ := u84
      try dsimp only at hr84
      have hP : va_P D vwCl (wQ cy a key val ord3 tk3 cp efi3 ela3 eco3 ene3 ldp3 dp3 dbl hlv3 spl mrg3 lfi3 lla3 lco3 lne3 lev3 ptr3 llo lhi lsp3 pa na ha kp kn kh) H := hP
      have hD : va_D A (wQ cy a key val ord3 tk3 cp efi3 ela3 eco3 ene3 ldp3 dp3 dbl hlv3 spl mrg3 lfi3 lla3 lco3 lne3 lev3 ptr3 llo lhi lsp3 pa na ha kp kn kh) := hD
      rcases hr84 with ⟨hno, rfl, dep2, E2, L2, hC2, hA2⟩ | ⟨w, hw, rfl, dep2, E2, L2, hC2, hA2⟩
      · have hne : kh (z9 / 16 % 60) = 0 := Classical.byContradiction (fun y => by obtain ⟨w, hw⟩ := hiw.mpr y; exact hno w hw)
        have hS2 := congrArg (fun A9 : AS => A9.1.1) hA2
        replace hS2 : stl key val ord3 tk3 = stl key val ord tk := hS2
        refine lv_aload_n hx hb dL_changes_87 rfl (lv_at hl 3 rfl) ?_
        refine lv_iload hx hb dL_changes_88 (lv_at hl 0 rfl) ?_
        refine tq_iald (n := 60) (i := ((z9 / 16) % 60)) (f := kh) C hK hP 20 0 rfl rfl (by omega) (Nat.le_of_ble_eq_true rfl) dL_changes_90 ?_
        refine tq_if_ne (tgt := 98) C (by omega) dL_changes_91 (by decide) (fun h91 => ?_) (fun h91 => ?_)
        · exact absurd hne h91
        · refine lv_iconst (v := (-1)) hx hb dL_changes_94 (by decide) ?_
          refine lv_goto (tgt := 99) hx hb dL_changes_95 (by decide) ?_
          refine lv_icmp_ne (tgt := 106) hx hb dL_changes_99 (by decide) (fun h99 => ?_) (fun h99 => ?_)
          · exact absurd rfl h99
          · refine lv_iconst (v := nI 1) hx hb dL_changes_102 (by decide) ?_
            refine lv_goto (tgt := 107) hx hb dL_changes_103 (by decide) ?_
            refine lv_istore (lv' := [(5, .int (nI (1))), (4, .int (nI ((z9 / 16) % 60))), (0, .ref (a 0)), (1, .ref (pa)), (2, .ref (ha)), (3, .int (nI (z9)))]) hx hb dL_changes_107 hl (by decide) rfl (fun ls hl => ?_)
            refine lv_aload_n hx hb dL_changes_109 rfl (lv_at hl 4 rfl) ?_
            refine lv_iload hx hb dL_changes_110 (lv_at hl 1 rfl) ?_
            refine lv_iconst (v := nI 0) hx hb dL_changes_112 (by decide) ?_
            refine tq_iast (n := 60) (i := ((z9 / 16) % 60)) (v := 0) (f := kh) C hK hP hD hS 20 0 rfl rfl (by omega) (Nat.le_of_ble_eq_true rfl) dL_changes_113 (fun H locs hP hD hS => ?_)
            have hP : va_P D vwCl (wQ cy a key val ord3 tk3 cp efi3 ela3 eco3 ene3 ldp3 dp3 dbl hlv3 spl mrg3 lfi3 lla3 lco3 lne3 lev3 ptr3 llo lhi lsp3 pa na ha kp kn (va_up kh ((z9 / 16) % 60) 0)) H := hP
            have hD : va_D A (wQ cy a key val ord3 tk3 cp efi3 ela3 eco3 ene3 ldp3 dp3 dbl hlv3 spl mrg3 lfi3 lla3 lco3 lne3 lev3 ptr3 llo lhi lsp3 pa na ha kp kn (va_up kh ((z9 / 16) % 60) 0)) := hD
            refine lv_iload hx hb dL_changes_114 (lv_at hl 0 rfl) ?_
            exact tq_iret (v := (nI (1))) C (by decide) (key, val, ord3, tk3, cp, efi3, ela3, eco3, ene3, ldp3, dp3, dbl, hlv3, spl, mrg3, lfi3, lla3, lco3, lne3, lev3, ptr3, lsp3, va_up kh ((z9 / 16) % 60) 0) hP hD hS (⟨rfl, ⟨dep2, E2, L2, hC2⟩, by rw [hS2]; exact hHI.none hne, fun i hi => by
              dsimp only at hi
              by_cases z : i = (z9 / 16 % 60)
              · rw [z, up_s] at hi; exact absurd hi (by decide)
              · rw [up_n _ _ z] at hi; exact hi⟩) (Nat.le_of_ble_eq_true rfl) (Nat.le_of_ble_eq_true rfl) dL_changes_116
      · obtain rfl := hHI.val hw
        have hne : kh (z9 / 16 % 60) ≠ 0 := hiw.mp ⟨_, hw⟩
        have hS2 := congrArg (fun A9 : AS => A9.1.1) hA2
        replace hS2 : stl key val ord3 tk3 = remS (stl key val ord tk) (kp (z9 / 16 % 60)) := hS2
        refine lv_aload_n hx hb dL_changes_87 rfl (lv_at hl 3 rfl) ?_
        refine lv_iload hx hb dL_changes_88 (lv_at hl 0 rfl) ?_
        refine tq_iald (n := 60) (i := ((z9 / 16) % 60)) (f := kh) C hK hP 20 0 rfl rfl (by omega) (Nat.le_of_ble_eq_true rfl) dL_changes_90 ?_
        refine tq_if_ne (tgt := 98) C (by omega) dL_changes_91 (by decide) (fun h91 => ?_) (fun h91 => ?_)
        · refine lv_iconst (v := nI 5) hx hb dL_changes_98 (by decide) ?_
          refine tq_icmp_ne (tgt := 106) C (by omega) (by omega) dL_changes_99 (by decide) (fun h99 => ?_) (fun h99 => ?_)
          · exact absurd rfl h99
          · refine lv_iconst (v := nI 1) hx hb dL_changes_102 (by decide) ?_
            refine lv_goto (tgt := 107) hx hb dL_changes_103 (by decide) ?_
            refine lv_istore (lv' := [(5, .int (nI (1))), (4, .int (nI ((z9 / 16) % 60))), (0, .ref (a 0)), (1, .ref (pa)), (2, .ref (ha)), (3, .int (nI (z9)))]) hx hb dL_changes_107 hl (by decide) rfl (fun ls hl => ?_)
            refine lv_aload_n hx hb dL_changes_109 rfl (lv_at hl 4 rfl) ?_
            refine lv_iload hx hb dL_changes_110 (lv_at hl 1 rfl) ?_
            refine lv_iconst (v := nI 0) hx hb dL_changes_112 (by decide) ?_
            refine tq_iast (n := 60) (i := ((z9 / 16) % 60)) (v := 0) (f := kh) C hK hP hD hS 20 0 rfl rfl (by omega) (Nat.le_of_ble_eq_true rfl) dL_changes_113 (fun H locs hP hD hS => ?_)
            have hP : va_P D vwCl (wQ cy a key val ord3 tk3 cp efi3 ela3 eco3 ene3 ldp3 dp3 dbl hlv3 spl mrg3 lfi3 lla3 lco3 lne3 lev3 ptr3 llo lhi lsp3 pa na ha kp kn (va_up kh ((z9 / 16) % 60) 0)) H := hP
            have hD : va_D A (wQ cy a key val ord3 tk3 cp efi3 ela3 eco3 ene3 ldp3 dp3 dbl hlv3 spl mrg3 lfi3 lla3 lco3 lne3 lev3 ptr3 llo lhi lsp3 pa na ha kp kn (va_up kh ((z9 / 16) % 60) 0)) := hD
            refine lv_iload hx hb dL_changes_114 (lv_at hl 0 rfl) ?_
            exact tq_iret (v := (nI (1))) C (by decide) (key, val, ord3, tk3, cp, efi3, ela3, eco3, ene3, ldp3, dp3, dbl, hlv3, spl, mrg3, lfi3, lla3, lco3, lne3, lev3, ptr3, lsp3, va_up kh ((z9 / 16) % 60) 0) hP hD hS (⟨rfl, ⟨dep2, E2, L2, hC2⟩, by rw [hS2]; exact hHI.rem hw9, fun i hi => by
              dsimp only at hi
              by_cases z : i = (z9 / 16 % 60)
              · rw [z, up_s] at hi; exact absurd hi (by decide)
              · rw [up_n _ _ z] at hi; exact hi⟩) (Nat.le_of_ble_eq_true rfl) (Nat.le_of_ble_eq_true rfl) dL_changes_116
        · exact absurd h91 hne
  · refine lv_aload_n hx hb dL_changes_18 rfl (lv_at hl 1 rfl) ?_
    refine lv_aload_n hx hb dL_changes_19 rfl (lv_at hl 2 rfl) ?_
    refine lv_iload hx hb dL_changes_20 (lv_at hl 0 rfl) ?_
    refine tq_iald (n := 60) (i := ((z9 / 16) % 60)) (f := kp) C hK hP 18 0 rfl rfl (by omega) (Nat.le_of_ble_eq_true rfl) dL_changes_22 ?_
    refine tq_callI (W3 := fun u => (wQ cy a u.1 u.2.1 u.2.2.1 u.2.2.2.1 cp u.2.2.2.2.1 u.2.2.2.2.2.1 u.2.2.2.2.2.2.1 u.2.2.2.2.2.2.2.1 u.2.2.2.2.2.2.2.2.1 u.2.2.2.2.2.2.2.2.2.1 u.2.2.2.2.2.2.2.2.2.2.1 hlv u.2.2.2.2.2.2.2.2.2.2.2.1 mrg u.2.2.2.2.2.2.2.2.2.2.2.2.1 u.2.2.2.2.2.2.2.2.2.2.2.2.2.1 u.2.2.2.2.2.2.2.2.2.2.2.2.2.2.1 u.2.2.2.2.2.2.2.2.2.2.2.2.2.2.2.1 u.2.2.2.2.2.2.2.2.2.2.2.2.2.2.2.2.1 u.2.2.2.2.2.2.2.2.2.2.2.2.2.2.2.2.2.1 llo lhi u.2.2.2.2.2.2.2.2.2.2.2.2.2.2.2.2.2.2 pa na ha kp kn kh)) (wr := [18, 19, 20].filterMap (fun i => (wQ cy a key val ord tk cp efi ela eco ene ldp dp dbl hlv spl mrg lfi lla lco lne lev ptr llo lhi lsp pa na ha kp kn kh)[i]?)) (vx_runSW C.fix (As := [.ref (a 0), .int (nI (kp ((z9 / 16) % 60)))]) (rest := []) ((c_L_put l D cy a key val ord tk cp efi ela eco ene ldp dp dbl hlv spl mrg lfi lla lco lne lev ptr llo lhi lsp (kp ((z9 / 16) % 60)) dep E L hCR hkw.2 htk) s.heap.size) (tq_cW (n := 2) C ml_L_54 sm_L_put ini_L cw_L_put ⟨by decide, by decide, by decide +kernel⟩ ⟨Nat.le_of_ble_eq_true rfl, Nat.le_of_ble_eq_true rfl⟩) ⟨tq_Pc.blind, tq_preC C hK (hP.sub [0, 1, 2, 3, 4, 5, 6, 7, 8, 9, 10, 11, 12, 13, 14, 15, 16, 17] rfl) (hD.sub [0, 1, 2, 3, 4, 5, 6, 7, 8, 9, 10, 11, 12, 13, 14, 15, 16, 17] (by decide) rfl)⟩ rfl rfl hl.1 rfl (lv_room (Nat.le_of_ble_eq_true rfl)) dL_changes_23 ⟨Nat.le_of_ble_eq_true rfl, Nat.le_of_ble_eq_true rfl⟩) hP hD hS hA [0, 1, 2, 3, 4, 5, 6, 7, 8, 9, 10, 11, 12, 13, 14, 15, 16, 17] [18, 19, 20] [3, 4, 5, 6, 7, 8, 9, 10, 11, 12, 13, 14, 15, 16, 17, 18, 19, 20, 0, 1, 2] rfl rfl (by decide) (by decide) (by decide) (fun _ => rfl) (fun r23 u23 H locs hr23 hP hD hS => ?_)
    obtain ⟨key2, val2, ord2, tk2, efi2, ela2, eco2, ene2, ldp2, dp2, dbl2, spl2, lfi2, lla2, lco2, lne2, lev2, ptr2, lsp2⟩ := u23
    try dsimp only at hr23
    have hP : va_P D vwCl (wQ cy a key2 val2 ord2 tk2 cp efi2 ela2 eco2 ene2 ldp2 dp2 dbl2 hlv spl2 mrg lfi2 lla2 lco2 lne2 lev2 ptr2 llo lhi lsp2 pa na ha kp kn kh) H := hP
    have hD : va_D A (wQ cy a key2 val2 ord2 tk2 cp efi2 ela2 eco2 ene2 ldp2 dp2 dbl2 hlv spl2 mrg lfi2 lla2 lco2 lne2 lev2 ptr2 llo lhi lsp2 pa na ha kp kn kh) := hD
    rcases hr23 with ⟨w, hw, rfl, dep2, E2, L2, hC2, hA2⟩ | ⟨hno, rfl, dep2, E2, L2, hC2, hA2⟩
    · obtain rfl := hHI.val hw
      have hne : kh (z9 / 16 % 60) ≠ 0 := hiw.mp ⟨_, hw⟩
      have hS2 := congrArg (fun A9 : AS => A9.1.1) hA2
      replace hS2 : stl key2 val2 ord2 tk2 = repS (stl key val ord tk) (kp (z9 / 16 % 60)) 5 := hS2
      rw [hHI.rep hw9] at hS2
      refine lv_aload_n hx hb dL_changes_26 rfl (lv_at hl 3 rfl) ?_
      refine lv_iload hx hb dL_changes_27 (lv_at hl 0 rfl) ?_
      refine tq_iald (n := 60) (i := ((z9 / 16) % 60)) (f := kh) C hK hP 20 0 rfl rfl (by omega) (Nat.le_of_ble_eq_true rfl) dL_changes_29 ?_
      refine tq_if_ne (tgt := 37) C (by omega) dL_changes_30 (by decide) (fun h30 => ?_) (fun h30 => ?_)
      · refine lv_iconst (v := nI 5) hx hb dL_changes_37 (by decide) ?_
        refine tq_icmp_ne (tgt := 45) C (by omega) (by omega) dL_changes_38 (by decide) (fun h38 => ?_) (fun h38 => ?_)
        · exact absurd rfl h38
        · refine lv_iconst (v := nI 1) hx hb dL_changes_41 (by decide) ?_
          refine lv_goto (tgt := 46) hx hb dL_changes_42 (by decide) ?_
          refine lv_istore (lv' := [(5, .int (nI (1))), (4, .int (nI ((z9 / 16) % 60))), (0, .ref (a 0)), (1, .ref (pa)), (2, .ref (ha)), (3, .int (nI (z9)))]) hx hb dL_changes_46 hl (by decide) rfl (fun ls hl => ?_)
          refine lv_aload_n hx hb dL_changes_48 rfl (lv_at hl 4 rfl) ?_
          refine lv_iload hx hb dL_changes_49 (lv_at hl 1 rfl) ?_
          refine lv_aload_n hx hb dL_changes_51 rfl (lv_at hl 4 rfl) ?_
          refine lv_iload hx hb dL_changes_52 (lv_at hl 1 rfl) ?_
          refine tq_iald (n := 60) (i := ((z9 / 16) % 60)) (f := kh) C hK hP 20 0 rfl rfl (by omega) (Nat.le_of_ble_eq_true rfl) dL_changes_54 ?_
          refine tq_if_ne (tgt := 62) C (by omega) dL_changes_55 (by decide) (fun h55 => ?_) (fun h55 => ?_)
          · refine lv_aload_n hx hb dL_changes_62 rfl (lv_at hl 4 rfl) ?_
            refine lv_iload hx hb dL_changes_63 (lv_at hl 1 rfl) ?_
            refine tq_iald (n := 60) (i := ((z9 / 16) % 60)) (f := kh) C hK hP 20 0 rfl rfl (by omega) (Nat.le_of_ble_eq_true rfl) dL_changes_65 ?_
            refine tq_iast (n := 60) (i := ((z9 / 16) % 60)) (v := (kh ((z9 / 16) % 60))) (f := kh) C hK hP hD hS 20 0 rfl rfl (by omega) (Nat.le_of_ble_eq_true rfl) dL_changes_66 (fun H locs hP hD hS => ?_)
            have hP : va_P D vwCl (wQ cy a key2 val2 ord2 tk2 cp efi2 ela2 eco2 ene2 ldp2 dp2 dbl2 hlv spl2 mrg lfi2 lla2 lco2 lne2 lev2 ptr2 llo lhi lsp2 pa na ha kp kn (va_up kh ((z9 / 16) % 60) (kh ((z9 / 16) % 60)))) H := hP
            have hD : va_D A (wQ cy a key2 val2 ord2 tk2 cp efi2 ela2 eco2 ene2 ldp2 dp2 dbl2 hlv spl2 mrg lfi2 lla2 lco2 lne2 lev2 ptr2 llo lhi lsp2 pa na ha kp kn (va_up kh ((z9 / 16) % 60) (kh ((z9 / 16) % 60)))) := hD
            refine lv_iload hx hb dL_changes_67 (lv_at hl 0 rfl) ?_
            exact tq_iret (v := (nI (1))) C (by decide) (key2, val2, ord2, tk2, cp, efi2, ela2, eco2, ene2, ldp2, dp2, dbl2, hlv, spl2, mrg, lfi2, lla2, lco2, lne2, lev2, ptr2, lsp2, va_up kh ((z9 / 16) % 60) (kh ((z9 / 16) % 60))) hP hD hS (⟨rfl, ⟨dep2, E2, L2, hC2⟩, by rw [hS2]; exact hHI.same, fun i hi => by
              dsimp only at hi
              by_cases z : i = (z9 / 16 % 60)
              · rw [z, up_s] at hi; rw [z]; exact hi
              · rw [up_n _ _ z] at hi; exact hi⟩) (Nat.le_of_ble_eq_true rfl) (Nat.le_of_ble_eq_true rfl) dL_changes_69
          · exact absurd h55 hne
      · exact absurd h30 hne
    · have hne : kh (z9 / 16 % 60) = 0 := Classical.byContradiction (fun y => by obtain ⟨w, hw⟩ := hiw.mpr y; exact hno w hw)
      have hS2 := congrArg (fun A9 : AS => A9.1.1) hA2
      replace hS2 : stl key2 val2 ord2 tk2 = insS (stl key val ord tk) (kp (z9 / 16 % 60)) 5 := hS2
      refine lv_aload_n hx hb dL_changes_26 rfl (lv_at hl 3 rfl) ?_
      refine lv_iload hx hb dL_changes_27 (lv_at hl 0 rfl) ?_
      refine tq_iald (n := 60) (i := ((z9 / 16) % 60)) (f := kh) C hK hP 20 0 rfl rfl (by omega) (Nat.le_of_ble_eq_true rfl) dL_changes_29 ?_
      refine tq_if_ne (tgt := 37) C (by omega) dL_changes_30 (by decide) (fun h30 => ?_) (fun h30 => ?_)
      · exact absurd hne h30
      · refine lv_iconst (v := (-1)) hx hb dL_changes_33 (by decide) ?_
        refine lv_goto (tgt := 38) hx hb dL_changes_34 (by decide) ?_
        refine lv_icmp_ne (tgt := 45) hx hb dL_changes_38 (by decide) (fun h38 => ?_) (fun h38 => ?_)
        · exact absurd rfl h38
        · refine lv_iconst (v := nI 1) hx hb dL_changes_41 (by decide) ?_
          refine lv_goto (tgt := 46) hx hb dL_changes_42 (by decide) ?_
          refine lv_istore (lv' := [(5, .int (nI (1))), (4, .int (nI ((z9 / 16) % 60))), (0, .ref (a 0)), (1, .ref (pa)), (2, .ref (ha)), (3, .int (nI (z9)))]) hx hb dL_changes_46 hl (by decide) rfl (fun ls hl => ?_)
          refine lv_aload_n hx hb dL_changes_48 rfl (lv_at hl 4 rfl) ?_
          refine lv_iload hx hb dL_changes_49 (lv_at hl 1 rfl) ?_
          refine lv_aload_n hx hb dL_changes_51 rfl (lv_at hl 4 rfl) ?_
          refine lv_iload hx hb dL_changes_52 (lv_at hl 1 rfl) ?_
          refine tq_iald (n := 60) (i := ((z9 / 16) % 60)) (f := kh) C hK hP 20 0 rfl rfl (by omega) (Nat.le_of_ble_eq_true rfl) dL_changes_54 ?_
          refine tq_if_ne (tgt := 62) C (by omega) dL_changes_55 (by decide) (fun h55 => ?_) (fun h55 => ?_)
          · exact absurd hne h55
          · refine lv_iconst (v := nI 1) hx hb dL_changes_58 (by decide) ?_
            refine lv_goto (tgt := 66) hx hb dL_changes_59 (by decide) ?_
            refine tq_iast (n := 60) (i := ((z9 / 16) % 60)) (v := 1) (f := kh) C hK hP hD hS 20 0 rfl rfl (by omega) (Nat.le_of_ble_eq_true rfl) dL_changes_66 (fun H locs hP hD hS => ?_)
            have hP : va_P D vwCl (wQ cy a key2 val2 ord2 tk2 cp efi2 ela2 eco2 ene2 ldp2 dp2 dbl2 hlv spl2 mrg lfi2 lla2 lco2 lne2 lev2 ptr2 llo lhi lsp2 pa na ha kp kn (va_up kh ((z9 / 16) % 60) 1)) H := hP
            have hD : va_D A (wQ cy a key2 val2 ord2 tk2 cp efi2 ela2 eco2 ene2 ldp2 dp2 dbl2 hlv spl2 mrg lfi2 lla2 lco2 lne2 lev2 ptr2 llo lhi lsp2 pa na ha kp kn (va_up kh ((z9 / 16) % 60) 1)) := hD
            refine lv_iload hx hb dL_changes_67 (lv_at hl 0 rfl) ?_
            exact tq_iret (v := (nI (1))) C (by decide) (key2, val2, ord2, tk2, cp, efi2, ela2, eco2, ene2, ldp2, dp2, dbl2, hlv, spl2, mrg, lfi2, lla2, lco2, lne2, lev2, ptr2, lsp2, va_up kh ((z9 / 16) % 60) 1) hP hD hS (⟨rfl, ⟨dep2, E2, L2, hC2⟩, by rw [hS2]; exact hHI.add hw9 hne (by decide) (by decide), fun i hi => by
              dsimp only at hi
              by_cases z : i = (z9 / 16 % 60)
              · rw [z, up_s] at hi; exact absurd hi (by decide)
              · rw [up_n _ _ z] at hi; exact hi⟩) (Nat.le_of_ble_eq_true rfl) (Nat.le_of_ble_eq_true rfl) dL_changes_69
