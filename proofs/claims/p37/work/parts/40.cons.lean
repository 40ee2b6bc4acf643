
theorem tq_new {p : Program} {l : Launch} {e : Env} {R : Room} {s : State} {m : MethodId} {args : Array Value} {below : List Frame} {meth : Method} {c : Code} {H : Heap} {locs : List Loc} {cells slots : Nat} {Q : State → Prop} {D : va_G} {own : String} {cc : ByteArray} {nL : Nat} {rt : Option FieldType} {A : Nat → Prop} {ws : va_W} {pc : Nat} {ls : Array Slot} {rest : List Value} {tys : List (ClassId × FieldType)}
    (C : tq_C p s m meth c own cc nL rt) {C0 : String} {T : u_T} {ty0 : Nat → FieldType} {N ci index : Nat} (hg : (u_ws C0 T N).all tq_g = true) (hin : ∀ w ∈ u_ws C0 T N, w ∈ lw_tbl) (hty : ∀ k, k < N → parseFieldDescriptor (T k).2.2.1 = some (ty0 k)) (hc : vwCl[ci]? = some (C0, T, N)) (h1 : Cond.classLink own index C0 ∈ lw_tbl) (h2 : Cond.instantiable C0 N ∈ lw_tbl) (h3 : Cond.initialized C0 ∈ lw_tbl)
    (hK : va_K D vwCl tys s) (hP : va_P D vwCl ws H) (hD : va_D A ws) (hS : va_S A s.heap H locs) (hA : ∀ q : Nat, s.heap.size ≤ q → A q) {fs : List Value} (hfs : ∀ j, j < N → defaultValue (ty0 j) = vp_V fs j) (hcells : cells + 1 ≤ R.cells) (hslots : slots + N ≤ R.slots) (hdg : decode cc pc = .ok (.new index, 3))
    (kk : ∀ (q : Nat) (H1 : Heap) (locs1 : List Loc), va_P D vwCl (ws ++ [(q, .inr (ci, fs))]) H1 → va_D A (ws ++ [(q, .inr (ci, fs))]) → va_S A s.heap H1 locs1 → W p l e R s m args below meth c H1 locs1 (cells + 1) (slots + N) Q (F0 m (pc + 3) ls (.ref q :: rest))) : W p l e R s m args below meth c H locs cells slots Q (F0 m pc ls rest) :=
  va_new (Ts := u_ws C0 T N) C.1 C.2.1 (fun w h => C.2.2.2.2.2.2.use (hin w h) (List.all_eq_true.mp hg w h)) (fun _ h => h) ty0 hty C.2.2.2.1 (C.2.2.2.2.2.2.use h1 rfl) (C.2.2.2.2.2.2.use h2 rfl) (C.2.2.2.2.2.2.use h3 rfl) hK hP hD hS hA hc hfs hcells hslots hdg (fun q H1 a b d => kk q H1 locs a b d)

theorem dX2_init_0 : decode cX2_init 0 = .ok (.aload_n 0, 1) := by decide +kernel
theorem dX2_init_1 : decode cX2_init 1 = .ok (.invokespecial 3, 3) := by decide +kernel
theorem dX2_init_4 : decode cX2_init 4 = .ok (.aload_n 0, 1) := by decide +kernel
theorem dX2_init_5 : decode cX2_init 5 = .ok (.sipush 256, 3) := by decide +kernel
theorem dX2_init_8 : decode cX2_init 8 = .ok (.newarray .int, 2) := by decide +kernel
theorem dX2_init_10 : decode cX2_init 10 = .ok (.putfield 9, 3) := by decide +kernel
theorem dX2_init_13 : decode cX2_init 13 = .ok (.aload_n 0, 1) := by decide +kernel
theorem dX2_init_14 : decode cX2_init 14 = .ok (.sipush 256, 3) := by decide +kernel
theorem dX2_init_17 : decode cX2_init 17 = .ok (.newarray .int, 2) := by decide +kernel
theorem dX2_init_19 : decode cX2_init 19 = .ok (.putfield 15, 3) := by decide +kernel
theorem dX2_init_22 : decode cX2_init 22 = .ok (.aload_n 0, 1) := by decide +kernel
theorem dX2_init_23 : decode cX2_init 23 = .ok (.sipush 256, 3) := by decide +kernel
theorem dX2_init_26 : decode cX2_init 26 = .ok (.newarray .int, 2) := by decide +kernel
theorem dX2_init_28 : decode cX2_init 28 = .ok (.putfield 18, 3) := by decide +kernel
theorem dX2_init_31 : decode cX2_init 31 = .ok (.aload_n 0, 1) := by decide +kernel
theorem dX2_init_32 : decode cX2_init 32 = .ok (.bipush 121, 2) := by decide +kernel
theorem dX2_init_34 : decode cX2_init 34 = .ok (.newarray .int, 2) := by decide +kernel
theorem dX2_init_36 : decode cX2_init 36 = .ok (.putfield 21, 3) := by decide +kernel
theorem dX2_init_39 : decode cX2_init 39 = .ok (.aload_n 0, 1) := by decide +kernel
theorem dX2_init_40 : decode cX2_init 40 = .ok (.aload_n 1, 1) := by decide +kernel
theorem dX2_init_41 : decode cX2_init 41 = .ok (.putfield 24, 3) := by decide +kernel
theorem dX2_init_44 : decode cX2_init 44 = .ok (.return_, 1) := by decide +kernel
set_option maxHeartbeats 4000000 in
set_option maxRecDepth 100000 in
theorem c_X2_init (l : Launch) (D : va_G) (cy : ClassId) (o9 sa : Nat) : tq_V (S := Nat × Nat × Nat × Nat) l yX2_init cX2_init 2 1 20 4 889 D cy [(o9, .inr (2, [.null, .null, .null, .null, .null]))] [.ref o9, .ref sa] (fun _ => True) (fun u => [(o9, .inr (2, [.ref (sa), .ref (u.1), .ref (u.2.1), .ref (u.2.2.1), .ref (u.2.2.2)])), (u.1, .inl (cy, 256, .inl (fun j => nI ((fun _ => 0) j)))), (u.2.1, .inl (cy, 256, .inl (fun j => nI ((fun _ => 0) j)))), (u.2.2.1, .inl (cy, 256, .inl (fun j => nI ((fun _ => 0) j)))), (u.2.2.2, .inl (cy, 121, .inl (fun j => nI ((fun _ => 0) j))))]) := by
  refine tq_V.mk (by decide) (Nat.le_of_ble_eq_true rfl) ?_
  intro p e s m args below meth c A C hin hP hK hD hS hA ls hl
  obtain ⟨hx, hb, hml, hown, hrt, hlk, hT⟩ := id C
  have hl : lv_has ls 2 [(0, .ref o9), (1, .ref sa)] := hl
  refine lv_aload_n hx hb dX2_init_0 rfl (lv_at hl 0 rfl) ?_
  refine W.objInit hx hb hown (hT.use ml_X2_3 rfl) (hT.use im_Object_init rfl) (hT.use cd_Object_init rfl) rfl (by rw [hml]; exact hl.1) rfl dX2_init_1 (Nat.le_of_ble_eq_true rfl) (Nat.le_of_ble_eq_true rfl) ?_
  refine W.eq (g2 := F0 m 4 ls []) rfl ?_
  refine lv_aload_n hx hb dX2_init_4 rfl (lv_at hl 0 rfl) ?_
  refine lv_sipush (v := nI 256) hx hb dX2_init_5 (by decide) ?_
  refine tq_newa (n := 256) C hK hP hD hS hA (by decide) (Nat.le_of_ble_eq_true rfl) (Nat.le_of_ble_eq_true rfl) dX2_init_8 (fun q8 H hP hD hS => ?_)
  have hP : va_P D vwCl [(o9, .inr (2, [.null, .null, .null, .null, .null])), (q8, .inl (cy, 256, .inl (fun j => nI ((fun _ => 0) j))))] H := hP
  have hD : va_D A [(o9, .inr (2, [.null, .null, .null, .null, .null])), (q8, .inl (cy, 256, .inl (fun j => nI ((fun _ => 0) j))))] := hD
  refine tq_putF (v := .ref (q8)) (C0 := RX2) (T := TX2) (N := 5) (ci := 2) (k := 1) (ty := (.array .int)) C hin gX2 inX2 tyX2_ok nmX2 rfl (by decide) rfl rfl fl_X2_9 rfl (by decide +kernel) hK hP hD hS 0 rfl rfl rfl (Nat.le_of_ble_eq_true rfl) dX2_init_10 (fun H locs hP hD hS => ?_)
  have hP : va_P D vwCl [(o9, .inr (2, [.null, .ref (q8), .null, .null, .null])), (q8, .inl (cy, 256, .inl (fun j => nI ((fun _ => 0) j))))] H := hP
  have hD : va_D A [(o9, .inr (2, [.null, .ref (q8), .null, .null, .null])), (q8, .inl (cy, 256, .inl (fun j => nI ((fun _ => 0) j))))] := hD
  refine lv_aload_n hx hb dX2_init_13 rfl (lv_at hl 0 rfl) ?_
  refine lv_sipush (v := nI 256) hx hb dX2_init_14 (by decide) ?_
  refine tq_newa (n := 256) C hK hP hD hS hA (by decide) (Nat.le_of_ble_eq_true rfl) (Nat.le_of_ble_eq_true rfl) dX2_init_17 (fun q17 H hP hD hS => ?_)
  have hP : va_P D vwCl [(o9, .inr (2, [.null, .ref (q8), .null, .null, .null])), (q8, .inl (cy, 256, .inl (fun j => nI ((fun _ => 0) j)))), (q17, .inl (cy, 256, .inl (fun j => nI ((fun _ => 0) j))))] H := hP
  have hD : va_D A [(o9, .inr (2, [.null, .ref (q8), .null, .null, .null])), (q8, .inl (cy, 256, .inl (fun j => nI ((fun _ => 0) j)))), (q17, .inl (cy, 256, .inl (fun j => nI ((fun _ => 0) j))))] := hD
  refine tq_putF (v := .ref (q17)) (C0 := RX2) (T := TX2) (N := 5) (ci := 2) (k := 2) (ty := (.array .int)) C hin gX2 inX2 tyX2_ok nmX2 rfl (by decide) rfl rfl fl_X2_15 rfl (by decide +kernel) hK hP hD hS 0 rfl rfl rfl (Nat.le_of_ble_eq_true rfl) dX2_init_19 (fun H locs hP hD hS => ?_)
  have hP : va_P D vwCl [(o9, .inr (2, [.null, .ref (q8), .ref (q17), .null, .null])), (q8, .inl (cy, 256, .inl (fun j => nI ((fun _ => 0) j)))), (q17, .inl (cy, 256, .inl (fun j => nI ((fun _ => 0) j))))] H := hP
  have hD : va_D A [(o9, .inr (2, [.null, .ref (q8), .ref (q17), .null, .null])), (q8, .inl (cy, 256, .inl (fun j => nI ((fun _ => 0) j)))), (q17, .inl (cy, 256, .inl (fun j => nI ((fun _ => 0) j))))] := hD
  refine lv_aload_n hx hb dX2_init_22 rfl (lv_at hl 0 rfl) ?_
  refine lv_sipush (v := nI 256) hx hb dX2_init_23 (by decide) ?_
  refine tq_newa (n := 256) C hK hP hD hS hA (by decide) (Nat.le_of_ble_eq_true rfl) (Nat.le_of_ble_eq_true rfl) dX2_init_26 (fun q26 H hP hD hS => ?_)
  have hP : va_P D vwCl [(o9, .inr (2, [.null, .ref (q8), .ref (q17), .null, .null])), (q8, .inl (cy, 256, .inl (fun j => nI ((fun _ => 0) j)))), (q17, .inl (cy, 256, .inl (fun j => nI ((fun _ => 0) j)))), (q26, .inl (cy, 256, .inl (fun j => nI ((fun _ => 0) j))))] H := hP
  have hD : va_D A [(o9, .inr (2, [.null, .ref (q8), .ref (q17), .null, .null])), (q8, .inl (cy, 256, .inl (fun j => nI ((fun _ => 0) j)))), (q17, .inl (cy, 256, .inl (fun j => nI ((fun _ => 0) j)))), (q26, .inl (cy, 256, .inl (fun j => nI ((fun _ => 0) j))))] := hD
  refine tq_putF (v := .ref (q26)) (C0 := RX2) (T := TX2) (N := 5) (ci := 2) (k := 3) (ty := (.array .int)) C hin gX2 inX2 tyX2_ok nmX2 rfl (by decide) rfl rfl fl_X2_18 rfl (by decide +kernel) hK hP hD hS 0 rfl rfl rfl (Nat.le_of_ble_eq_true rfl) dX2_init_28 (fun H locs hP hD hS => ?_)
  have hP : va_P D vwCl [(o9, .inr (2, [.null, .ref (q8), .ref (q17), .ref (q26), .null])), (q8, .inl (cy, 256, .inl (fun j => nI ((fun _ => 0) j)))), (q17, .inl (cy, 256, .inl (fun j => nI ((fun _ => 0) j)))), (q26, .inl (cy, 256, .inl (fun j => nI ((fun _ => 0) j))))] H := hP
  have hD : va_D A [(o9, .inr (2, [.null, .ref (q8), .ref (q17), .ref (q26), .null])), (q8, .inl (cy, 256, .inl (fun j => nI ((fun _ => 0) j)))), (q17, .inl (cy, 256, .inl (fun j => nI ((fun _ => 0) j)))), (q26, .inl (cy, 256, .inl (fun j => nI ((fun _ => 0) j))))] := hD
  refine lv_aload_n hx hb dX2_init_31 rfl (lv_at hl 0 rfl) ?_
  refine lv_bipush (v := nI 121) hx hb dX2_init_32 (by decide) ?_
  refine tq_newa (n := 121) C hK hP hD hS hA (by decide) (Nat.le_of_ble_eq_true rfl) (Nat.le_of_ble_eq_true rfl) dX2_init_34 (fun q34 H hP hD hS => ?_)
  have hP : va_P D vwCl [(o9, .inr (2, [.null, .ref (q8), .ref (q17), .ref (q26), .null])), (q8, .inl (cy, 256, .inl (fun j => nI ((fun _ => 0) j)))), (q17, .inl (cy, 256, .inl (fun j => nI ((fun _ => 0) j)))), (q26, .inl (cy, 256, .inl (fun j => nI ((fun _ => 0) j)))), (q34, .inl (cy, 121, .inl (fun j => nI ((fun _ => 0) j))))] H := hP
  have hD : va_D A [(o9, .inr (2, [.null, .ref (q8), .ref (q17), .ref (q26), .null])), (q8, .inl (cy, 256, .inl (fun j => nI ((fun _ => 0) j)))), (q17, .inl (cy, 256, .inl (fun j => nI ((fun _ => 0) j)))), (q26, .inl (cy, 256, .inl (fun j => nI ((fun _ => 0) j)))), (q34, .inl (cy, 121, .inl (fun j => nI ((fun _ => 0) j))))] := hD
  refine tq_putF (v := .ref (q34)) (C0 := RX2) (T := TX2) (N := 5) (ci := 2) (k := 4) (ty := (.array .int)) C hin gX2 inX2 tyX2_ok nmX2 rfl (by decide) rfl rfl fl_X2_21 rfl (by decide +kernel) hK hP hD hS 0 rfl rfl rfl (Nat.le_of_ble_eq_true rfl) dX2_init_36 (fun H locs hP hD hS => ?_)
  have hP : va_P D vwCl [(o9, .inr (2, [.null, .ref (q8), .ref (q17), .ref (q26), .ref (q34)])), (q8, .inl (cy, 256, .inl (fun j => nI ((fun _ => 0) j)))), (q17, .inl (cy, 256, .inl (fun j => nI ((fun _ => 0) j)))), (q26, .inl (cy, 256, .inl (fun j => nI ((fun _ => 0) j)))), (q34, .inl (cy, 121, .inl (fun j => nI ((fun _ => 0) j))))] H := hP
  have hD : va_D A [(o9, .inr (2, [.null, .ref (q8), .ref (q17), .ref (q26), .ref (q34)])), (q8, .inl (cy, 256, .inl (fun j => nI ((fun _ => 0) j)))), (q17, .inl (cy, 256, .inl (fun j => nI ((fun _ => 0) j)))), (q26, .inl (cy, 256, .inl (fun j => nI ((fun _ => 0) j)))), (q34, .inl (cy, 121, .inl (fun j => nI ((fun _ => 0) j))))] := hD
  refine lv_aload_n hx hb dX2_init_39 rfl (lv_at hl 0 rfl) ?_
  refine lv_aload_n hx hb dX2_init_40 rfl (lv_at hl 1 rfl) ?_
  refine tq_putF (v := .ref (sa)) (C0 := RX2) (T := TX2) (N := 5) (ci := 2) (k := 0) (ty := (.object "TwinHashTables$Store")) C hin gX2 inX2 tyX2_ok nmX2 rfl (by decide) rfl rfl fl_X2_24 rfl (by decide +kernel) hK hP hD hS 0 rfl rfl rfl (Nat.le_of_ble_eq_true rfl) dX2_init_41 (fun H locs hP hD hS => ?_)
  have hP : va_P D vwCl [(o9, .inr (2, [.ref (sa), .ref (q8), .ref (q17), .ref (q26), .ref (q34)])), (q8, .inl (cy, 256, .inl (fun j => nI ((fun _ => 0) j)))), (q17, .inl (cy, 256, .inl (fun j => nI ((fun _ => 0) j)))), (q26, .inl (cy, 256, .inl (fun j => nI ((fun _ => 0) j)))), (q34, .inl (cy, 121, .inl (fun j => nI ((fun _ => 0) j))))] H := hP
  have hD : va_D A [(o9, .inr (2, [.ref (sa), .ref (q8), .ref (q17), .ref (q26), .ref (q34)])), (q8, .inl (cy, 256, .inl (fun j => nI ((fun _ => 0) j)))), (q17, .inl (cy, 256, .inl (fun j => nI ((fun _ => 0) j)))), (q26, .inl (cy, 256, .inl (fun j => nI ((fun _ => 0) j)))), (q34, .inl (cy, 121, .inl (fun j => nI ((fun _ => 0) j))))] := hD
  exact tq_vret C (q8, q17, q26, q34) hP hD hS trivial (Nat.le_of_ble_eq_true rfl) (Nat.le_of_ble_eq_true rfl) dX2_init_44
theorem dX3_init_0 : decode cX3_init 0 = .ok (.aload_n 0, 1) := by decide +kernel
theorem dX3_init_1 : decode cX3_init 1 = .ok (.invokespecial 3, 3) := by decide +kernel
theorem dX3_init_4 : decode cX3_init 4 = .ok (.aload_n 0, 1) := by decide +kernel
theorem dX3_init_5 : decode cX3_init 5 = .ok (.bipush 121, 2) := by decide +kernel
theorem dX3_init_7 : decode cX3_init 7 = .ok (.newarray .int, 2) := by decide +kernel
theorem dX3_init_9 : decode cX3_init 9 = .ok (.putfield 9, 3) := by decide +kernel
theorem dX3_init_12 : decode cX3_init 12 = .ok (.aload_n 0, 1) := by decide +kernel
theorem dX3_init_13 : decode cX3_init 13 = .ok (.bipush 121, 2) := by decide +kernel
theorem dX3_init_15 : decode cX3_init 15 = .ok (.newarray .int, 2) := by decide +kernel
theorem dX3_init_17 : decode cX3_init 17 = .ok (.putfield 15, 3) := by decide +kernel
theorem dX3_init_20 : decode cX3_init 20 = .ok (.aload_n 0, 1) := by decide +kernel
theorem dX3_init_21 : decode cX3_init 21 = .ok (.bipush 120, 2) := by decide +kernel
theorem dX3_init_23 : decode cX3_init 23 = .ok (.newarray .int, 2) := by decide +kernel
theorem dX3_init_25 : decode cX3_init 25 = .ok (.putfield 18, 3) := by decide +kernel
theorem dX3_init_28 : decode cX3_init 28 = .ok (.aload_n 0, 1) := by decide +kernel
theorem dX3_init_29 : decode cX3_init 29 = .ok (.iconst 0, 1) := by decide +kernel
theorem dX3_init_30 : decode cX3_init 30 = .ok (.putfield 21, 3) := by decide +kernel
theorem dX3_init_33 : decode cX3_init 33 = .ok (.aload_n 0, 1) := by decide +kernel
theorem dX3_init_34 : decode cX3_init 34 = .ok (.iconst 3, 1) := by decide +kernel
theorem dX3_init_35 : decode cX3_init 35 = .ok (.putfield 25, 3) := by decide +kernel
theorem dX3_init_38 : decode cX3_init 38 = .ok (.iconst 0, 1) := by decide +kernel
theorem dX3_init_39 : decode cX3_init 39 = .ok (.istore_n 1, 1) := by decide +kernel
theorem dX3_init_40 : decode cX3_init 40 = .ok (.iload_n 1, 1) := by decide +kernel
theorem dX3_init_41 : decode cX3_init 41 = .ok (.bipush 120, 2) := by decide +kernel
theorem dX3_init_43 : decode cX3_init 43 = .ok (.if_icmp .ge 18, 3) := by decide +kernel
theorem dX3_init_46 : decode cX3_init 46 = .ok (.aload_n 0, 1) := by decide +kernel
theorem dX3_init_47 : decode cX3_init 47 = .ok (.getfield 18, 3) := by decide +kernel
theorem dX3_init_50 : decode cX3_init 50 = .ok (.iload_n 1, 1) := by decide +kernel
theorem dX3_init_51 : decode cX3_init 51 = .ok (.iload_n 1, 1) := by decide +kernel
theorem dX3_init_52 : decode cX3_init 52 = .ok (.iconst 1, 1) := by decide +kernel
theorem dX3_init_53 : decode cX3_init 53 = .ok (.iadd, 1) := by decide +kernel
theorem dX3_init_54 : decode cX3_init 54 = .ok (.iastore, 1) := by decide +kernel
theorem dX3_init_55 : decode cX3_init 55 = .ok (.iinc 1 1, 3) := by decide +kernel
theorem dX3_init_58 : decode cX3_init 58 = .ok (.goto (-18), 3) := by decide +kernel
theorem dX3_init_61 : decode cX3_init 61 = .ok (.return_, 1) := by decide +kernel
set_option maxHeartbeats 4000000 in
set_option maxRecDepth 100000 in
theorem c_X3_init (l : Launch) (D : va_G) (cy : ClassId) (o9 : Nat) : tq_V (S := Nat × Nat × Nat) l yX3_init cX3_init 2 1 20 3 362 D cy [(o9, .inr (3, [.null, .null, .null, .int (nI (0)), .int (nI (0))]))] [.ref o9] (fun _ => True) (fun u => [(o9, .inr (3, [.ref (u.1), .ref (u.2.1), .ref (u.2.2), .int (nI (0)), .int (nI (3))])), (u.1, .inl (cy, 121, .inl (fun j => nI ((fun _ => 0) j)))), (u.2.1, .inl (cy, 121, .inl (fun j => nI ((fun _ => 0) j)))), (u.2.2, .inl (cy, 120, .inl (fun j => nI ((fun j => if j < 120 then j + 1 else 0) j))))]) := by
  refine tq_V.mk (by decide) (Nat.le_of_ble_eq_true rfl) ?_
  intro p e s m args below meth c A C hin hP hK hD hS hA ls hl
  obtain ⟨hx, hb, hml, hown, hrt, hlk, hT⟩ := id C
  have hl : lv_has ls 2 [(0, .ref o9)] := hl
  refine lv_aload_n hx hb dX3_init_0 rfl (lv_at hl 0 rfl) ?_
  refine W.objInit hx hb hown (hT.use ml_X3_3 rfl) (hT.use im_Object_init rfl) (hT.use cd_Object_init rfl) rfl (by rw [hml]; exact hl.1) rfl dX3_init_1 (Nat.le_of_ble_eq_true rfl) (Nat.le_of_ble_eq_true rfl) ?_
  refine W.eq (g2 := F0 m 4 ls []) rfl ?_
  refine lv_aload_n hx hb dX3_init_4 rfl (lv_at hl 0 rfl) ?_
  refine lv_bipush (v := nI 121) hx hb dX3_init_5 (by decide) ?_
  refine tq_newa (n := 121) C hK hP hD hS hA (by decide) (Nat.le_of_ble_eq_true rfl) (Nat.le_of_ble_eq_true rfl) dX3_init_7 (fun q7 H hP hD hS => ?_)
  have hP : va_P D vwCl [(o9, .inr (3, [.null, .null, .null, .int (nI (0)), .int (nI (0))])), (q7, .inl (cy, 121, .inl (fun j => nI ((fun _ => 0) j))))] H := hP
  have hD : va_D A [(o9, .inr (3, [.null, .null, .null, .int (nI (0)), .int (nI (0))])), (q7, .inl (cy, 121, .inl (fun j => nI ((fun _ => 0) j))))] := hD
  refine tq_putF (v := .ref (q7)) (C0 := RX3) (T := TX3) (N := 5) (ci := 3) (k := 0) (ty := (.array .int)) C hin gX3 inX3 tyX3_ok nmX3 rfl (by decide) rfl rfl fl_X3_9 rfl (by decide +kernel) hK hP hD hS 0 rfl rfl rfl (Nat.le_of_ble_eq_true rfl) dX3_init_9 (fun H locs hP hD hS => ?_)
  have hP : va_P D vwCl [(o9, .inr (3, [.ref (q7), .null, .null, .int (nI (0)), .int (nI (0))])), (q7, .inl (cy, 121, .inl (fun j => nI ((fun _ => 0) j))))] H := hP
  have hD : va_D A [(o9, .inr (3, [.ref (q7), .null, .null, .int (nI (0)), .int (nI (0))])), (q7, .inl (cy, 121, .inl (fun j => nI ((fun _ => 0) j))))] := hD
  refine lv_aload_n hx hb dX3_init_12 rfl (lv_at hl 0 rfl) ?_
  refine lv_bipush (v := nI 121) hx hb dX3_init_13 (by decide) ?_
  refine tq_newa (n := 121) C hK hP hD hS hA (by decide) (Nat.le_of_ble_eq_true rfl) (Nat.le_of_ble_eq_true rfl) dX3_init_15 (fun q15 H hP hD hS => ?_)
  have hP : va_P D vwCl [(o9, .inr (3, [.ref (q7), .null, .null, .int (nI (0)), .int (nI (0))])), (q7, .inl (cy, 121, .inl (fun j => nI ((fun _ => 0) j)))), (q15, .inl (cy, 121, .inl (fun j => nI ((fun _ => 0) j))))] H := hP
  have hD : va_D A [(o9, .inr (3, [.ref (q7), .null, .null, .int (nI (0)), .int (nI (0))])), (q7, .inl (cy, 121, .inl (fun j => nI ((fun _ => 0) j)))), (q15, .inl (cy, 121, .inl (fun j => nI ((fun _ => 0) j))))] := hD
  refine tq_putF (v := .ref (q15)) (C0 := RX3) (T := TX3) (N := 5) (ci := 3) (k := 1) (ty := (.array .int)) C hin gX3 inX3 tyX3_ok nmX3 rfl (by decide) rfl rfl fl_X3_15 rfl (by decide +kernel) hK hP hD hS 0 rfl rfl rfl (Nat.le_of_ble_eq_true rfl) dX3_init_17 (fun H locs hP hD hS => ?_)
  have hP : va_P D vwCl [(o9, .inr (3, [.ref (q7), .ref (q15), .null, .int (nI (0)), .int (nI (0))])), (q7, .inl (cy, 121, .inl (fun j => nI ((fun _ => 0) j)))), (q15, .inl (cy, 121, .inl (fun j => nI ((fun _ => 0) j))))] H := hP
  have hD : va_D A [(o9, .inr (3, [.ref (q7), .ref (q15), .null, .int (nI (0)), .int (nI (0))])), (q7, .inl (cy, 121, .inl (fun j => nI ((fun _ => 0) j)))), (q15, .inl (cy, 121, .inl (fun j => nI ((fun _ => 0) j))))] := hD
  refine lv_aload_n hx hb dX3_init_20 rfl (lv_at hl 0 rfl) ?_
  refine lv_bipush (v := nI 120) hx hb dX3_init_21 (by decide) ?_
  refine tq_newa (n := 120) C hK hP hD hS hA (by decide) (Nat.le_of_ble_eq_true rfl) (Nat.le_of_ble_eq_true rfl) dX3_init_23 (fun q23 H hP hD hS => ?_)
  have hP : va_P D vwCl [(o9, .inr (3, [.ref (q7), .ref (q15), .null, .int (nI (0)), .int (nI (0))])), (q7, .inl (cy, 121, .inl (fun j => nI ((fun _ => 0) j)))), (q15, .inl (cy, 121, .inl (fun j => nI ((fun _ => 0) j)))), (q23, .inl (cy, 120, .inl (fun j => nI ((fun _ => 0) j))))] H := hP
  have hD : va_D A [(o9, .inr (3, [.ref (q7), .ref (q15), .null, .int (nI (0)), .int (nI (0))])), (q7, .inl (cy, 121, .inl (fun j => nI ((fun _ => 0) j)))), (q15, .inl (cy, 121, .inl (fun j => nI ((fun _ => 0) j)))), (q23, .inl (cy, 120, .inl (fun j => nI ((fun _ => 0) j))))] := hD
  refine tq_putF (v := .ref (q23)) (C0 := RX3) (T := TX3) (N := 5) (ci := 3) (k := 2) (ty := (.array .int)) C hin gX3 inX3 tyX3_ok nmX3 rfl (by decide) rfl rfl fl_X3_18 rfl (by decide +kernel) hK hP hD hS 0 rfl rfl rfl (Nat.le_of_ble_eq_true rfl) dX3_init_25 (fun H locs hP hD hS => ?_)
  have hP : va_P D vwCl [(o9, .inr (3, [.ref (q7), .ref (q15), .ref (q23), .int (nI (0)), .int (nI (0))])), (q7, .inl (cy, 121, .inl (fun j => nI ((fun _ => 0) j)))), (q15, .inl (cy, 121, .inl (fun j => nI ((fun _ => 0) j)))), (q23, .inl (cy, 120, .inl (fun j => nI ((fun _ => 0) j))))] H := hP
  have hD : va_D A [(o9, .inr (3, [.ref (q7), .ref (q15), .ref (q23), .int (nI (0)), .int (nI (0))])), (q7, .inl (cy, 121, .inl (fun j => nI ((fun _ => 0) j)))), (q15, .inl (cy, 121, .inl (fun j => nI ((fun _ => 0) j)))), (q23, .inl (cy, 120, .inl (fun j => nI ((fun _ => 0) j))))] := hD
  refine lv_aload_n hx hb dX3_init_28 rfl (lv_at hl 0 rfl) ?_
  refine lv_iconst (v := nI 0) hx hb dX3_init_29 (by decide) ?_
  refine tq_put (v := .int (nI (0))) (C0 := RX3) (T := TX3) (N := 5) (ci := 3) (k := 3) (ty := .int) C gX3 inX3 tyX3_ok nmX3 rfl (by decide) rfl fl_X3_21 rfl (by decide +kernel) hK hP hD hS 0 rfl rfl rfl (Nat.le_of_ble_eq_true rfl) dX3_init_30 (fun H locs hP hD hS => ?_)
  have hP : va_P D vwCl [(o9, .inr (3, [.ref (q7), .ref (q15), .ref (q23), .int (nI (0)), .int (nI (0))])), (q7, .inl (cy, 121, .inl (fun j => nI ((fun _ => 0) j)))), (q15, .inl (cy, 121, .inl (fun j => nI ((fun _ => 0) j)))), (q23, .inl (cy, 120, .inl (fun j => nI ((fun _ => 0) j))))] H := hP
  have hD : va_D A [(o9, .inr (3, [.ref (q7), .ref (q15), .ref (q23), .int (nI (0)), .int (nI (0))])), (q7, .inl (cy, 121, .inl (fun j => nI ((fun _ => 0) j)))), (q15, .inl (cy, 121, .inl (fun j => nI ((fun _ => 0) j)))), (q23, .inl (cy, 120, .inl (fun j => nI ((fun _ => 0) j))))] := hD
  refine lv_aload_n hx hb dX3_init_33 rfl (lv_at hl 0 rfl) ?_
  refine lv_iconst (v := nI 3) hx hb dX3_init_34 (by decide) ?_
  refine tq_put (v := .int (nI (3))) (C0 := RX3) (T := TX3) (N := 5) (ci := 3) (k := 4) (ty := .int) C gX3 inX3 tyX3_ok nmX3 rfl (by decide) rfl fl_X3_25 rfl (by decide +kernel) hK hP hD hS 0 rfl rfl rfl (Nat.le_of_ble_eq_true rfl) dX3_init_35 (fun H locs hP hD hS => ?_)
  have hP : va_P D vwCl [(o9, .inr (3, [.ref (q7), .ref (q15), .ref (q23), .int (nI (0)), .int (nI (3))])), (q7, .inl (cy, 121, .inl (fun j => nI ((fun _ => 0) j)))), (q15, .inl (cy, 121, .inl (fun j => nI ((fun _ => 0) j)))), (q23, .inl (cy, 120, .inl (fun j => nI ((fun _ => 0) j))))] H := hP
  have hD : va_D A [(o9, .inr (3, [.ref (q7), .ref (q15), .ref (q23), .int (nI (0)), .int (nI (3))])), (q7, .inl (cy, 121, .inl (fun j => nI ((fun _ => 0) j)))), (q15, .inl (cy, 121, .inl (fun j => nI ((fun _ => 0) j)))), (q23, .inl (cy, 120, .inl (fun j => nI ((fun _ => 0) j))))] := hD
  refine lv_iconst (v := nI 0) hx hb dX3_init_38 (by decide) ?_
  refine lv_istore_n (lv' := [(1, .int (nI (0))), (0, .ref (o9))]) hx hb dX3_init_39 rfl hl (by decide) rfl (fun ls hl => ?_)
  suffices hlp : ∀ (n : Nat) (i : Nat) (f : Nat → Nat), 120 - i < n → i ≤ 120 → (∀ j, f j = if j < i then j + 1 else 0) → ∀ (H : Heap) (locs : List Loc), va_P D vwCl [(o9, .inr (3, [.ref (q7), .ref (q15), .ref (q23), .int (nI (0)), .int (nI (3))])), (q7, .inl (cy, 121, .inl (fun j => nI ((fun _ => 0) j)))), (q15, .inl (cy, 121, .inl (fun j => nI ((fun _ => 0) j)))), (q23, .inl (cy, 120, .inl (fun j => nI (f j))))] H → va_D A [(o9, .inr (3, [.ref (q7), .ref (q15), .ref (q23), .int (nI (0)), .int (nI (3))])), (q7, .inl (cy, 121, .inl (fun j => nI ((fun _ => 0) j)))), (q15, .inl (cy, 121, .inl (fun j => nI ((fun _ => 0) j)))), (q23, .inl (cy, 120, .inl (fun j => nI (f j))))] → va_S A s.heap H locs → ∀ ls : Array Slot, lv_has ls 2 [(0, .ref o9), (1, .int (nI (i)))] → W p l e ({ frames := 1, cells := 3, slots := 362, locals := 20 } : Room) s m args below meth c H locs (((0 + 1) + 1) + 1) (((0 + 121) + 121) + 120) (MQ below (va_Qv (S := Nat × Nat × Nat) (fun _ => True) (tq_B D A (fun u => [(o9, .inr (3, [.ref (u.1), .ref (u.2.1), .ref (u.2.2), .int (nI (0)), .int (nI (3))])), (u.1, .inl (cy, 121, .inl (fun j => nI ((fun _ => 0) j)))), (u.2.1, .inl (cy, 121, .inl (fun j => nI ((fun _ => 0) j)))), (u.2.2, .inl (cy, 120, .inl (fun j => nI ((fun j => if j < 120 then j + 1 else 0) j))))])) A) args s 3 362 A) (F0 m 40 ls []) from
    hlp 121 0 (fun _ => 0) (by omega) (by omega) (fun j => by rw [if_neg (by omega)]) _ _ hP hD hS _ (lv_sub hl [1, 0] rfl)
  intro n
  induction n with
  | zero => intro i f hf; exact absurd hf (Nat.not_lt_zero _)
  | succ n ih =>
    intro i f hf hi hfe H locs hP hD hS ls hl
    refine lv_iload_n hx hb dX3_init_40 rfl (lv_at hl 1 rfl) ?_
    refine lv_bipush (v := nI 120) hx hb dX3_init_41 (by decide) ?_
    refine tq_icmp_ge (tgt := 61) C (by omega) (by omega) dX3_init_43 (by decide) (fun h43 => ?_) (fun h43 => ?_)
    · have hfz : f = fun j => if j < 120 then j + 1 else 0 := funext (fun j => by rw [hfe j, show i = 120 from by omega])
      subst hfz
      exact tq_vret C (q7, q15, q23) hP hD hS trivial (Nat.le_of_ble_eq_true rfl) (Nat.le_of_ble_eq_true rfl) dX3_init_61
    · refine lv_aload_n hx hb dX3_init_46 rfl (lv_at hl 0 rfl) ?_
      refine tq_get (C0 := RX3) (T := TX3) (N := 5) (ci := 3) (k := 2) C gX3 inX3 rfl (by decide) rfl fl_X3_18 hK hP 0 rfl rfl dX3_init_47 ?_
      refine lv_iload_n hx hb dX3_init_50 rfl (lv_at hl 1 rfl) ?_
      refine lv_iload_n hx hb dX3_init_51 rfl (lv_at hl 1 rfl) ?_
      refine lv_iconst (v := nI 1) hx hb dX3_init_52 (by decide) ?_
      refine tq_iadd C dX3_init_53 ?_
      refine tq_iast (n := 120) (i := i) (v := i + 1) (f := f) C hK hP hD hS 3 0 rfl rfl (by omega) (Nat.le_of_ble_eq_true rfl) dX3_init_54 (fun H locs hP hD hS => ?_)
      have hP : va_P D vwCl [(o9, .inr (3, [.ref (q7), .ref (q15), .ref (q23), .int (nI (0)), .int (nI (3))])), (q7, .inl (cy, 121, .inl (fun j => nI ((fun _ => 0) j)))), (q15, .inl (cy, 121, .inl (fun j => nI ((fun _ => 0) j)))), (q23, .inl (cy, 120, .inl (fun j => nI ((va_up f i (i + 1)) j))))] H := hP
      have hD : va_D A [(o9, .inr (3, [.ref (q7), .ref (q15), .ref (q23), .int (nI (0)), .int (nI (3))])), (q7, .inl (cy, 121, .inl (fun j => nI ((fun _ => 0) j)))), (q15, .inl (cy, 121, .inl (fun j => nI ((fun _ => 0) j)))), (q23, .inl (cy, 120, .inl (fun j => nI ((va_up f i (i + 1)) j))))] := hD
      refine lv_iinc (v := nI (i + 1)) (lv' := [(1, .int (nI (i + 1))), (0, .ref o9)]) hx hb dX3_init_55 hl (k := 1) rfl (tq_inc1 _) (by decide) rfl (fun ls hl => ?_)
      refine lv_goto (tgt := 40) hx hb dX3_init_58 (by decide) ?_
      exact ih (i + 1) (va_up f i (i + 1)) (by omega) (by omega) (fun j => by
        by_cases z : j = i
        · rw [z, up_s, if_pos (by omega)]
        · rw [up_n _ _ z, hfe j]; by_cases y : j < i
          · rw [if_pos y, if_pos (by omega)]
          · rw [if_neg y, if_neg (by omega)]) _ _ hP hD hS _ (lv_sub hl [1, 0] rfl)
theorem dX0_init_0 : decode cX0_init 0 = .ok (.aload_n 0, 1) := by decide +kernel
theorem dX0_init_1 : decode cX0_init 1 = .ok (.invokespecial 3, 3) := by decide +kernel
theorem dX0_init_4 : decode cX0_init 4 = .ok (.aload_n 0, 1) := by decide +kernel
theorem dX0_init_5 : decode cX0_init 5 = .ok (.sipush 256, 3) := by decide +kernel
theorem dX0_init_8 : decode cX0_init 8 = .ok (.newarray .int, 2) := by decide +kernel
theorem dX0_init_10 : decode cX0_init 10 = .ok (.putfield 9, 3) := by decide +kernel
theorem dX0_init_13 : decode cX0_init 13 = .ok (.aload_n 0, 1) := by decide +kernel
theorem dX0_init_14 : decode cX0_init 14 = .ok (.iconst 0, 1) := by decide +kernel
theorem dX0_init_15 : decode cX0_init 15 = .ok (.putfield 15, 3) := by decide +kernel
theorem dX0_init_18 : decode cX0_init 18 = .ok (.aload_n 0, 1) := by decide +kernel
theorem dX0_init_19 : decode cX0_init 19 = .ok (.iconst 0, 1) := by decide +kernel
theorem dX0_init_20 : decode cX0_init 20 = .ok (.putfield 19, 3) := by decide +kernel
theorem dX0_init_23 : decode cX0_init 23 = .ok (.aload_n 0, 1) := by decide +kernel
theorem dX0_init_24 : decode cX0_init 24 = .ok (.iconst 0, 1) := by decide +kernel
theorem dX0_init_25 : decode cX0_init 25 = .ok (.putfield 22, 3) := by decide +kernel
theorem dX0_init_28 : decode cX0_init 28 = .ok (.aload_n 0, 1) := by decide +kernel
theorem dX0_init_29 : decode cX0_init 29 = .ok (.iconst 0, 1) := by decide +kernel
theorem dX0_init_30 : decode cX0_init 30 = .ok (.putfield 25, 3) := by decide +kernel
theorem dX0_init_33 : decode cX0_init 33 = .ok (.aload_n 0, 1) := by decide +kernel
theorem dX0_init_34 : decode cX0_init 34 = .ok (.iconst 0, 1) := by decide +kernel
theorem dX0_init_35 : decode cX0_init 35 = .ok (.putfield 28, 3) := by decide +kernel
theorem dX0_init_38 : decode cX0_init 38 = .ok (.aload_n 0, 1) := by decide +kernel
theorem dX0_init_39 : decode cX0_init 39 = .ok (.aload_n 1, 1) := by decide +kernel
theorem dX0_init_40 : decode cX0_init 40 = .ok (.putfield 31, 3) := by decide +kernel
theorem dX0_init_43 : decode cX0_init 43 = .ok (.aload_n 0, 1) := by decide +kernel
theorem dX0_init_44 : decode cX0_init 44 = .ok (.new 35, 3) := by decide +kernel
theorem dX0_init_47 : decode cX0_init 47 = .ok (.dup, 1) := by decide +kernel
theorem dX0_init_48 : decode cX0_init 48 = .ok (.aload_n 1, 1) := by decide +kernel
theorem dX0_init_49 : decode cX0_init 49 = .ok (.invokespecial 37, 3) := by decide +kernel
theorem dX0_init_52 : decode cX0_init 52 = .ok (.putfield 40, 3) := by decide +kernel
theorem dX0_init_55 : decode cX0_init 55 = .ok (.return_, 1) := by decide +kernel
set_option maxHeartbeats 4000000 in
set_option maxRecDepth 100000 in
theorem c_X0_init (l : Launch) (D : va_G) (cy : ClassId) (o9 sa : Nat) : tq_V (S := Nat × Nat × Nat × Nat × Nat × Nat) l yX0_init cX0_init 2 2 41 6 1150 D cy [(o9, .inr (0, [.null, .null, .null, .int (nI (0)), .int (nI (0)), .int (nI (0)), .int (nI (0)), .int (nI (0))]))] [.ref o9, .ref sa] (fun _ => True) (fun u => [(o9, .inr (0, [.ref (sa), .ref (u.2.1), .ref (u.1), .int (nI (0)), .int (nI (0)), .int (nI (0)), .int (nI (0)), .int (nI (0))])), (u.1, .inl (cy, 256, .inl (fun j => nI ((fun _ => 0) j)))), (u.2.1, .inr (2, [.ref (sa), .ref (u.2.2.1), .ref (u.2.2.2.1), .ref (u.2.2.2.2.1), .ref (u.2.2.2.2.2)])), (u.2.2.1, .inl (cy, 256, .inl (fun j => nI ((fun _ => 0) j)))), (u.2.2.2.1, .inl (cy, 256, .inl (fun j => nI ((fun _ => 0) j)))), (u.2.2.2.2.1, .inl (cy, 256, .inl (fun j => nI ((fun _ => 0) j)))), (u.2.2.2.2.2, .inl (cy, 121, .inl (fun j => nI ((fun _ => 0) j))))]) := by
  refine tq_V.mk (by decide) (Nat.le_of_ble_eq_true rfl) ?_
  intro p e s m args below meth c A C hin hP hK hD hS hA ls hl
  obtain ⟨hx, hb, hml, hown, hrt, hlk, hT⟩ := id C
  have hl : lv_has ls 2 [(0, .ref o9), (1, .ref sa)] := hl
  refine lv_aload_n hx hb dX0_init_0 rfl (lv_at hl 0 rfl) ?_
  refine W.objInit hx hb hown (hT.use ml_X0_3 rfl) (hT.use im_Object_init rfl) (hT.use cd_Object_init rfl) rfl (by rw [hml]; exact hl.1) rfl dX0_init_1 (Nat.le_of_ble_eq_true rfl) (Nat.le_of_ble_eq_true rfl) ?_
  refine W.eq (g2 := F0 m 4 ls []) rfl ?_
  refine lv_aload_n hx hb dX0_init_4 rfl (lv_at hl 0 rfl) ?_
  refine lv_sipush (v := nI 256) hx hb dX0_init_5 (by decide) ?_
  refine tq_newa (n := 256) C hK hP hD hS hA (by decide) (Nat.le_of_ble_eq_true rfl) (Nat.le_of_ble_eq_true rfl) dX0_init_8 (fun q8 H hP hD hS => ?_)
  have hP : va_P D vwCl [(o9, .inr (0, [.null, .null, .null, .int (nI (0)), .int (nI (0)), .int (nI (0)), .int (nI (0)), .int (nI (0))])), (q8, .inl (cy, 256, .inl (fun j => nI ((fun _ => 0) j))))] H := hP
  have hD : va_D A [(o9, .inr (0, [.null, .null, .null, .int (nI (0)), .int (nI (0)), .int (nI (0)), .int (nI (0)), .int (nI (0))])), (q8, .inl (cy, 256, .inl (fun j => nI ((fun _ => 0) j))))] := hD
  refine tq_putF (v := .ref (q8)) (C0 := RX0) (T := TX0) (N := 8) (ci := 0) (k := 2) (ty := (.array .int)) C hin gX0 inX0 tyX0_ok nmX0 rfl (by decide) rfl rfl fl_X0_9 rfl (by decide +kernel) hK hP hD hS 0 rfl rfl rfl (Nat.le_of_ble_eq_true rfl) dX0_init_10 (fun H locs hP hD hS => ?_)
  have hP : va_P D vwCl [(o9, .inr (0, [.null, .null, .ref (q8), .int (nI (0)), .int (nI (0)), .int (nI (0)), .int (nI (0)), .int (nI (0))])), (q8, .inl (cy, 256, .inl (fun j => nI ((fun _ => 0) j))))] H := hP
  have hD : va_D A [(o9, .inr (0, [.null, .null, .ref (q8), .int (nI (0)), .int (nI (0)), .int (nI (0)), .int (nI (0)), .int (nI (0))])), (q8, .inl (cy, 256, .inl (fun j => nI ((fun _ => 0) j))))] := hD
  refine lv_aload_n hx hb dX0_init_13 rfl (lv_at hl 0 rfl) ?_
  refine lv_iconst (v := nI 0) hx hb dX0_init_14 (by decide) ?_
  refine tq_put (v := .int (nI (0))) (C0 := RX0) (T := TX0) (N := 8) (ci := 0) (k := 3) (ty := .int) C gX0 inX0 tyX0_ok nmX0 rfl (by decide) rfl fl_X0_15 rfl (by decide +kernel) hK hP hD hS 0 rfl rfl rfl (Nat.le_of_ble_eq_true rfl) dX0_init_15 (fun H locs hP hD hS => ?_)
  have hP : va_P D vwCl [(o9, .inr (0, [.null, .null, .ref (q8), .int (nI (0)), .int (nI (0)), .int (nI (0)), .int (nI (0)), .int (nI (0))])), (q8, .inl (cy, 256, .inl (fun j => nI ((fun _ => 0) j))))] H := hP
  have hD : va_D A [(o9, .inr (0, [.null, .null, .ref (q8), .int (nI (0)), .int (nI (0)), .int (nI (0)), .int (nI (0)), .int (nI (0))])), (q8, .inl (cy, 256, .inl (fun j => nI ((fun _ => 0) j))))] := hD
  refine lv_aload_n hx hb dX0_init_18 rfl (lv_at hl 0 rfl) ?_
  refine lv_iconst (v := nI 0) hx hb dX0_init_19 (by decide) ?_
  refine tq_put (v := .int (nI (0))) (C0 := RX0) (T := TX0) (N := 8) (ci := 0) (k := 4) (ty := .int) C gX0 inX0 tyX0_ok nmX0 rfl (by decide) rfl fl_X0_19 rfl (by decide +kernel) hK hP hD hS 0 rfl rfl rfl (Nat.le_of_ble_eq_true rfl) dX0_init_20 (fun H locs hP hD hS => ?_)
  have hP : va_P D vwCl [(o9, .inr (0, [.null, .null, .ref (q8), .int (nI (0)), .int (nI (0)), .int (nI (0)), .int (nI (0)), .int (nI (0))])), (q8, .inl (cy, 256, .inl (fun j => nI ((fun _ => 0) j))))] H := hP
  have hD : va_D A [(o9, .inr (0, [.null, .null, .ref (q8), .int (nI (0)), .int (nI (0)), .int (nI (0)), .int (nI (0)), .int (nI (0))])), (q8, .inl (cy, 256, .inl (fun j => nI ((fun _ => 0) j))))] := hD
  refine lv_aload_n hx hb dX0_init_23 rfl (lv_at hl 0 rfl) ?_
  refine lv_iconst (v := nI 0) hx hb dX0_init_24 (by decide) ?_
  refine tq_put (v := .int (nI (0))) (C0 := RX0) (T := TX0) (N := 8) (ci := 0) (k := 5) (ty := .int) C gX0 inX0 tyX0_ok nmX0 rfl (by decide) rfl fl_X0_22 rfl (by decide +kernel) hK hP hD hS 0 rfl rfl rfl (Nat.le_of_ble_eq_true rfl) dX0_init_25 (fun H locs hP hD hS => ?_)
  have hP : va_P D vwCl [(o9, .inr (0, [.null, .null, .ref (q8), .int (nI (0)), .int (nI (0)), .int (nI (0)), .int (nI (0)), .int (nI (0))])), (q8, .inl (cy, 256, .inl (fun j => nI ((fun _ => 0) j))))] H := hP
  have hD : va_D A [(o9, .inr (0, [.null, .null, .ref (q8), .int (nI (0)), .int (nI (0)), .int (nI (0)), .int (nI (0)), .int (nI (0))])), (q8, .inl (cy, 256, .inl (fun j => nI ((fun _ => 0) j))))] := hD
  refine lv_aload_n hx hb dX0_init_28 rfl (lv_at hl 0 rfl) ?_
  refine lv_iconst (v := nI 0) hx hb dX0_init_29 (by decide) ?_
  refine tq_put (v := .int (nI (0))) (C0 := RX0) (T := TX0) (N := 8) (ci := 0) (k := 6) (ty := .int) C gX0 inX0 tyX0_ok nmX0 rfl (by decide) rfl fl_X0_25 rfl (by decide +kernel) hK hP hD hS 0 rfl rfl rfl (Nat.le_of_ble_eq_true rfl) dX0_init_30 (fun H locs hP hD hS => ?_)
  have hP : va_P D vwCl [(o9, .inr (0, [.null, .null, .ref (q8), .int (nI (0)), .int (nI (0)), .int (nI (0)), .int (nI (0)), .int (nI (0))])), (q8, .inl (cy, 256, .inl (fun j => nI ((fun _ => 0) j))))] H := hP
  have hD : va_D A [(o9, .inr (0, [.null, .null, .ref (q8), .int (nI (0)), .int (nI (0)), .int (nI (0)), .int (nI (0)), .int (nI (0))])), (q8, .inl (cy, 256, .inl (fun j => nI ((fun _ => 0) j))))] := hD
  refine lv_aload_n hx hb dX0_init_33 rfl (lv_at hl 0 rfl) ?_
  refine lv_iconst (v := nI 0) hx hb dX0_init_34 (by decide) ?_
  refine tq_put (v := .int (nI (0))) (C0 := RX0) (T := TX0) (N := 8) (ci := 0) (k := 7) (ty := .int) C gX0 inX0 tyX0_ok nmX0 rfl (by decide) rfl fl_X0_28 rfl (by decide +kernel) hK hP hD hS 0 rfl rfl rfl (Nat.le_of_ble_eq_true rfl) dX0_init_35 (fun H locs hP hD hS => ?_)
  have hP : va_P D vwCl [(o9, .inr (0, [.null, .null, .ref (q8), .int (nI (0)), .int (nI (0)), .int (nI (0)), .int (nI (0)), .int (nI (0))])), (q8, .inl (cy, 256, .inl (fun j => nI ((fun _ => 0) j))))] H := hP
  have hD : va_D A [(o9, .inr (0, [.null, .null, .ref (q8), .int (nI (0)), .int (nI (0)), .int (nI (0)), .int (nI (0)), .int (nI (0))])), (q8, .inl (cy, 256, .inl (fun j => nI ((fun _ => 0) j))))] := hD
  refine lv_aload_n hx hb dX0_init_38 rfl (lv_at hl 0 rfl) ?_
  refine lv_aload_n hx hb dX0_init_39 rfl (lv_at hl 1 rfl) ?_
  refine tq_putF (v := .ref (sa)) (C0 := RX0) (T := TX0) (N := 8) (ci := 0) (k := 0) (ty := (.object "TwinHashTables$Store")) C hin gX0 inX0 tyX0_ok nmX0 rfl (by decide) rfl rfl fl_X0_31 rfl (by decide +kernel) hK hP hD hS 0 rfl rfl rfl (Nat.le_of_ble_eq_true rfl) dX0_init_40 (fun H locs hP hD hS => ?_)
  have hP : va_P D vwCl [(o9, .inr (0, [.ref (sa), .null, .ref (q8), .int (nI (0)), .int (nI (0)), .int (nI (0)), .int (nI (0)), .int (nI (0))])), (q8, .inl (cy, 256, .inl (fun j => nI ((fun _ => 0) j))))] H := hP
  have hD : va_D A [(o9, .inr (0, [.ref (sa), .null, .ref (q8), .int (nI (0)), .int (nI (0)), .int (nI (0)), .int (nI (0)), .int (nI (0))])), (q8, .inl (cy, 256, .inl (fun j => nI ((fun _ => 0) j))))] := hD
  refine lv_aload_n hx hb dX0_init_43 rfl (lv_at hl 0 rfl) ?_
  refine tq_new (fs := [.null, .null, .null, .null, .null]) (C0 := RX2) (T := TX2) (N := 5) (ci := 2) C gX2 inX2 tyX2_ok rfl clk_X0_35 inst_X2 ini_X2 hK hP hD hS hA (fun j hj => by match j, hj with | 0, _ => rfl | 1, _ => rfl | 2, _ => rfl | 3, _ => rfl | 4, _ => rfl | k9 + 5, h9 => exact absurd h9 (by omega)) (Nat.le_of_ble_eq_true rfl) (Nat.le_of_ble_eq_true rfl) dX0_init_44 (fun q44 H locs hP hD hS => ?_)
  have hP : va_P D vwCl [(o9, .inr (0, [.ref (sa), .null, .ref (q8), .int (nI (0)), .int (nI (0)), .int (nI (0)), .int (nI (0)), .int (nI (0))])), (q8, .inl (cy, 256, .inl (fun j => nI ((fun _ => 0) j)))), (q44, .inr (2, [.null, .null, .null, .null, .null]))] H := hP
  have hD : va_D A [(o9, .inr (0, [.ref (sa), .null, .ref (q8), .int (nI (0)), .int (nI (0)), .int (nI (0)), .int (nI (0)), .int (nI (0))])), (q8, .inl (cy, 256, .inl (fun j => nI ((fun _ => 0) j)))), (q44, .inr (2, [.null, .null, .null, .null, .null]))] := hD
  refine lv_dup hx hb dX0_init_47 rfl ?_
  refine lv_aload_n hx hb dX0_init_48 rfl (lv_at hl 1 rfl) ?_
  refine tq_callV (W3 := fun u => [(o9, .inr (0, [.ref (sa), .null, .ref (q8), .int (nI (0)), .int (nI (0)), .int (nI (0)), .int (nI (0)), .int (nI (0))])), (q8, .inl (cy, 256, .inl (fun j => nI ((fun _ => 0) j)))), (q44, .inr (2, [.ref (sa), .ref (u.1), .ref (u.2.1), .ref (u.2.2.1), .ref (u.2.2.2)])), (u.1, .inl (cy, 256, .inl (fun j => nI ((fun _ => 0) j)))), (u.2.1, .inl (cy, 256, .inl (fun j => nI ((fun _ => 0) j)))), (u.2.2.1, .inl (cy, 256, .inl (fun j => nI ((fun _ => 0) j)))), (u.2.2.2, .inl (cy, 121, .inl (fun j => nI ((fun _ => 0) j))))]) (wr := [(o9, .inr (0, [.ref (sa), .null, .ref (q8), .int (nI (0)), .int (nI (0)), .int (nI (0)), .int (nI (0)), .int (nI (0))])), (q8, .inl (cy, 256, .inl (fun j => nI ((fun _ => 0) j))))]) (va_runI C.fix (As := [.ref (sa)]) (rest := [.ref (q44), .ref (o9)]) (c_X2_init l D cy q44 sa H.size) (tq_cI (n := 1) C ml_X0_37 im_X2_init ini_X2 cd_X2_init rfl ⟨by decide, by decide, by decide +kernel⟩ ⟨Nat.le_of_ble_eq_true rfl, Nat.le_of_ble_eq_true rfl⟩) ⟨tq_Pc.blind, tq_preC C hK (hP.sub [2] rfl) (hD.sub [2] (by decide) rfl)⟩ rfl rfl hl.1 rfl (lv_room (Nat.le_of_ble_eq_true rfl)) dX0_init_49 ⟨Nat.le_of_ble_eq_true rfl, Nat.le_of_ble_eq_true rfl⟩) hP hD hS hA [2] [0, 1] [0, 1, 2, 3, 4, 5, 6] rfl rfl (by decide) (by decide) (by decide) (fun _ => rfl) (fun u49 H locs _ hP hD hS => ?_)
  obtain ⟨q8_49, q17_49, q26_49, q34_49⟩ := u49
  have hP : va_P D vwCl [(o9, .inr (0, [.ref (sa), .null, .ref (q8), .int (nI (0)), .int (nI (0)), .int (nI (0)), .int (nI (0)), .int (nI (0))])), (q8, .inl (cy, 256, .inl (fun j => nI ((fun _ => 0) j)))), (q44, .inr (2, [.ref (sa), .ref (q8_49), .ref (q17_49), .ref (q26_49), .ref (q34_49)])), (q8_49, .inl (cy, 256, .inl (fun j => nI ((fun _ => 0) j)))), (q17_49, .inl (cy, 256, .inl (fun j => nI ((fun _ => 0) j)))), (q26_49, .inl (cy, 256, .inl (fun j => nI ((fun _ => 0) j)))), (q34_49, .inl (cy, 121, .inl (fun j => nI ((fun _ => 0) j))))] H := hP
  have hD : va_D A [(o9, .inr (0, [.ref (sa), .null, .ref (q8), .int (nI (0)), .int (nI (0)), .int (nI (0)), .int (nI (0)), .int (nI (0))])), (q8, .inl (cy, 256, .inl (fun j => nI ((fun _ => 0) j)))), (q44, .inr (2, [.ref (sa), .ref (q8_49), .ref (q17_49), .ref (q26_49), .ref (q34_49)])), (q8_49, .inl (cy, 256, .inl (fun j => nI ((fun _ => 0) j)))), (q17_49, .inl (cy, 256, .inl (fun j => nI ((fun _ => 0) j)))), (q26_49, .inl (cy, 256, .inl (fun j => nI ((fun _ => 0) j)))), (q34_49, .inl (cy, 121, .inl (fun j => nI ((fun _ => 0) j))))] := hD
  refine tq_putF (v := .ref (q44)) (C0 := RX0) (T := TX0) (N := 8) (ci := 0) (k := 1) (ty := (.object "TwinHashTables$Rows")) C hin gX0 inX0 tyX0_ok nmX0 rfl (by decide) rfl rfl fl_X0_40 rfl (by decide +kernel) hK hP hD hS 0 rfl rfl rfl (Nat.le_of_ble_eq_true rfl) dX0_init_52 (fun H locs hP hD hS => ?_)
  have hP : va_P D vwCl [(o9, .inr (0, [.ref (sa), .ref (q44), .ref (q8), .int (nI (0)), .int (nI (0)), .int (nI (0)), .int (nI (0)), .int (nI (0))])), (q8, .inl (cy, 256, .inl (fun j => nI ((fun _ => 0) j)))), (q44, .inr (2, [.ref (sa), .ref (q8_49), .ref (q17_49), .ref (q26_49), .ref (q34_49)])), (q8_49, .inl (cy, 256, .inl (fun j => nI ((fun _ => 0) j)))), (q17_49, .inl (cy, 256, .inl (fun j => nI ((fun _ => 0) j)))), (q26_49, .inl (cy, 256, .inl (fun j => nI ((fun _ => 0) j)))), (q34_49, .inl (cy, 121, .inl (fun j => nI ((fun _ => 0) j))))] H := hP
  have hD : va_D A [(o9, .inr (0, [.ref (sa), .ref (q44), .ref (q8), .int (nI (0)), .int (nI (0)), .int (nI (0)), .int (nI (0)), .int (nI (0))])), (q8, .inl (cy, 256, .inl (fun j => nI ((fun _ => 0) j)))), (q44, .inr (2, [.ref (sa), .ref (q8_49), .ref (q17_49), .ref (q26_49), .ref (q34_49)])), (q8_49, .inl (cy, 256, .inl (fun j => nI ((fun _ => 0) j)))), (q17_49, .inl (cy, 256, .inl (fun j => nI ((fun _ => 0) j)))), (q26_49, .inl (cy, 256, .inl (fun j => nI ((fun _ => 0) j)))), (q34_49, .inl (cy, 121, .inl (fun j => nI ((fun _ => 0) j))))] := hD
  exact tq_vret C (q8, q44, q8_49, q17_49, q26_49, q34_49) hP hD hS trivial (Nat.le_of_ble_eq_true rfl) (Nat.le_of_ble_eq_true rfl) dX0_init_55
theorem dX1_init_0 : decode cX1_init 0 = .ok (.aload_n 0, 1) := by decide +kernel
theorem dX1_init_1 : decode cX1_init 1 = .ok (.invokespecial 3, 3) := by decide +kernel
theorem dX1_init_4 : decode cX1_init 4 = .ok (.aload_n 0, 1) := by decide +kernel
theorem dX1_init_5 : decode cX1_init 5 = .ok (.iconst 0, 1) := by decide +kernel
theorem dX1_init_6 : decode cX1_init 6 = .ok (.putfield 9, 3) := by decide +kernel
theorem dX1_init_9 : decode cX1_init 9 = .ok (.aload_n 0, 1) := by decide +kernel
theorem dX1_init_10 : decode cX1_init 10 = .ok (.iconst 0, 1) := by decide +kernel
theorem dX1_init_11 : decode cX1_init 11 = .ok (.putfield 15, 3) := by decide +kernel
theorem dX1_init_14 : decode cX1_init 14 = .ok (.aload_n 0, 1) := by decide +kernel
theorem dX1_init_15 : decode cX1_init 15 = .ok (.bipush 30, 2) := by decide +kernel
theorem dX1_init_17 : decode cX1_init 17 = .ok (.putfield 18, 3) := by decide +kernel
theorem dX1_init_20 : decode cX1_init 20 = .ok (.aload_n 0, 1) := by decide +kernel
theorem dX1_init_21 : decode cX1_init 21 = .ok (.bipush 80, 2) := by decide +kernel
theorem dX1_init_23 : decode cX1_init 23 = .ok (.putfield 21, 3) := by decide +kernel
theorem dX1_init_26 : decode cX1_init 26 = .ok (.aload_n 0, 1) := by decide +kernel
theorem dX1_init_27 : decode cX1_init 27 = .ok (.iconst 0, 1) := by decide +kernel
theorem dX1_init_28 : decode cX1_init 28 = .ok (.putfield 24, 3) := by decide +kernel
theorem dX1_init_31 : decode cX1_init 31 = .ok (.aload_n 0, 1) := by decide +kernel
theorem dX1_init_32 : decode cX1_init 32 = .ok (.aload_n 1, 1) := by decide +kernel
theorem dX1_init_33 : decode cX1_init 33 = .ok (.putfield 27, 3) := by decide +kernel
theorem dX1_init_36 : decode cX1_init 36 = .ok (.aload_n 0, 1) := by decide +kernel
theorem dX1_init_37 : decode cX1_init 37 = .ok (.new 31, 3) := by decide +kernel
theorem dX1_init_40 : decode cX1_init 40 = .ok (.dup, 1) := by decide +kernel
theorem dX1_init_41 : decode cX1_init 41 = .ok (.aload_n 1, 1) := by decide +kernel
theorem dX1_init_42 : decode cX1_init 42 = .ok (.invokespecial 33, 3) := by decide +kernel
theorem dX1_init_45 : decode cX1_init 45 = .ok (.putfield 36, 3) := by decide +kernel
theorem dX1_init_48 : decode cX1_init 48 = .ok (.return_, 1) := by decide +kernel
set_option maxHeartbeats 4000000 in
set_option maxRecDepth 100000 in
theorem c_X1_init (l : Launch) (D : va_G) (cy : ClassId) (o9 sa : Nat) : tq_V (S := Nat × Nat × Nat × Nat × Nat) l yX1_init cX1_init 2 2 41 5 894 D cy [(o9, .inr (1, [.null, .null, .int (nI (0)), .int (nI (0)), .int (nI (0)), .int (nI (0)), .int (nI (0))]))] [.ref o9, .ref sa] (fun _ => True) (fun u => [(o9, .inr (1, [.ref (sa), .ref (u.1), .int (nI (0)), .int (nI (0)), .int (nI (30)), .int (nI (80)), .int (nI (0))])), (u.1, .inr (2, [.ref (sa), .ref (u.2.1), .ref (u.2.2.1), .ref (u.2.2.2.1), .ref (u.2.2.2.2)])), (u.2.1, .inl (cy, 256, .inl (fun j => nI ((fun _ => 0) j)))), (u.2.2.1, .inl (cy, 256, .inl (fun j => nI ((fun _ => 0) j)))), (u.2.2.2.1, .inl (cy, 256, .inl (fun j => nI ((fun _ => 0) j)))), (u.2.2.2.2, .inl (cy, 121, .inl (fun j => nI ((fun _ => 0) j))))]) := by
  refine tq_V.mk (by decide) (Nat.le_of_ble_eq_true rfl) ?_
  intro p e s m args below meth c A C hin hP hK hD hS hA ls hl
  obtain ⟨hx, hb, hml, hown, hrt, hlk, hT⟩ := id C
  have hl : lv_has ls 2 [(0, .ref o9), (1, .ref sa)] := hl
  refine lv_aload_n hx hb dX1_init_0 rfl (lv_at hl 0 rfl) ?_
  refine W.objInit hx hb hown (hT.use ml_X1_3 rfl) (hT.use im_Object_init rfl) (hT.use cd_Object_init rfl) rfl (by rw [hml]; exact hl.1) rfl dX1_init_1 (Nat.le_of_ble_eq_true rfl) (Nat.le_of_ble_eq_true rfl) ?_
  refine W.eq (g2 := F0 m 4 ls []) rfl ?_
  refine lv_aload_n hx hb dX1_init_4 rfl (lv_at hl 0 rfl) ?_
  refine lv_iconst (v := nI 0) hx hb dX1_init_5 (by decide) ?_
  refine tq_put (v := .int (nI (0))) (C0 := RX1) (T := TX1) (N := 7) (ci := 1) (k := 2) (ty := .int) C gX1 inX1 tyX1_ok nmX1 rfl (by decide) rfl fl_X1_9 rfl (by decide +kernel) hK hP hD hS 0 rfl rfl rfl (Nat.le_of_ble_eq_true rfl) dX1_init_6 (fun H locs hP hD hS => ?_)
  have hP : va_P D vwCl [(o9, .inr (1, [.null, .null, .int (nI (0)), .int (nI (0)), .int (nI (0)), .int (nI (0)), .int (nI (0))]))] H := hP
  have hD : va_D A [(o9, .inr (1, [.null, .null, .int (nI (0)), .int (nI (0)), .int (nI (0)), .int (nI (0)), .int (nI (0))]))] := hD
  refine lv_aload_n hx hb dX1_init_9 rfl (lv_at hl 0 rfl) ?_
  refine lv_iconst (v := nI 0) hx hb dX1_init_10 (by decide) ?_
  refine tq_put (v := .int (nI (0))) (C0 := RX1) (T := TX1) (N := 7) (ci := 1) (k := 3) (ty := .int) C gX1 inX1 tyX1_ok nmX1 rfl (by decide) rfl fl_X1_15 rfl (by decide +kernel) hK hP hD hS 0 rfl rfl rfl (Nat.le_of_ble_eq_true rfl) dX1_init_11 (fun H locs hP hD hS => ?_)
  have hP : va_P D vwCl [(o9, .inr (1, [.null, .null, .int (nI (0)), .int (nI (0)), .int (nI (0)), .int (nI (0)), .int (nI (0))]))] H := hP
  have hD : va_D A [(o9, .inr (1, [.null, .null, .int (nI (0)), .int (nI (0)), .int (nI (0)), .int (nI (0)), .int (nI (0))]))] := hD
  refine lv_aload_n hx hb dX1_init_14 rfl (lv_at hl 0 rfl) ?_
  refine lv_bipush (v := nI 30) hx hb dX1_init_15 (by decide) ?_
  refine tq_put (v := .int (nI (30))) (C0 := RX1) (T := TX1) (N := 7) (ci := 1) (k := 4) (ty := .int) C gX1 inX1 tyX1_ok nmX1 rfl (by decide) rfl fl_X1_18 rfl (by decide +kernel) hK hP hD hS 0 rfl rfl rfl (Nat.le_of_ble_eq_true rfl) dX1_init_17 (fun H locs hP hD hS => ?_)
  have hP : va_P D vwCl [(o9, .inr (1, [.null, .null, .int (nI (0)), .int (nI (0)), .int (nI (30)), .int (nI (0)), .int (nI (0))]))] H := hP
  have hD : va_D A [(o9, .inr (1, [.null, .null, .int (nI (0)), .int (nI (0)), .int (nI (30)), .int (nI (0)), .int (nI (0))]))] := hD
  refine lv_aload_n hx hb dX1_init_20 rfl (lv_at hl 0 rfl) ?_
  refine lv_bipush (v := nI 80) hx hb dX1_init_21 (by decide) ?_
  refine tq_put (v := .int (nI (80))) (C0 := RX1) (T := TX1) (N := 7) (ci := 1) (k := 5) (ty := .int) C gX1 inX1 tyX1_ok nmX1 rfl (by decide) rfl fl_X1_21 rfl (by decide +kernel) hK hP hD hS 0 rfl rfl rfl (Nat.le_of_ble_eq_true rfl) dX1_init_23 (fun H locs hP hD hS => ?_)
  have hP : va_P D vwCl [(o9, .inr (1, [.null, .null, .int (nI (0)), .int (nI (0)), .int (nI (30)), .int (nI (80)), .int (nI (0))]))] H := hP
  have hD : va_D A [(o9, .inr (1, [.null, .null, .int (nI (0)), .int (nI (0)), .int (nI (30)), .int (nI (80)), .int (nI (0))]))] := hD
  refine lv_aload_n hx hb dX1_init_26 rfl (lv_at hl 0 rfl) ?_
  refine lv_iconst (v := nI 0) hx hb dX1_init_27 (by decide) ?_
  refine tq_put (v := .int (nI (0))) (C0 := RX1) (T := TX1) (N := 7) (ci := 1) (k := 6) (ty := .int) C gX1 inX1 tyX1_ok nmX1 rfl (by decide) rfl fl_X1_24 rfl (by decide +kernel) hK hP hD hS 0 rfl rfl rfl (Nat.le_of_ble_eq_true rfl) dX1_init_28 (fun H locs hP hD hS => ?_)
  have hP : va_P D vwCl [(o9, .inr (1, [.null, .null, .int (nI (0)), .int (nI (0)), .int (nI (30)), .int (nI (80)), .int (nI (0))]))] H := hP
  have hD : va_D A [(o9, .inr (1, [.null, .null, .int (nI (0)), .int (nI (0)), .int (nI (30)), .int (nI (80)), .int (nI (0))]))] := hD
  refine lv_aload_n hx hb dX1_init_31 rfl (lv_at hl 0 rfl) ?_
  refine lv_aload_n hx hb dX1_init_32 rfl (lv_at hl 1 rfl) ?_
  refine tq_putF (v := .ref (sa)) (C0 := RX1) (T := TX1) (N := 7) (ci := 1) (k := 0) (ty := (.object "TwinHashTables$Store")) C hin gX1 inX1 tyX1_ok nmX1 rfl (by decide) rfl rfl fl_X1_27 rfl (by decide +kernel) hK hP hD hS 0 rfl rfl rfl (Nat.le_of_ble_eq_true rfl) dX1_init_33 (fun H locs hP hD hS => ?_)
  have hP : va_P D vwCl [(o9, .inr (1, [.ref (sa), .null, .int (nI (0)), .int (nI (0)), .int (nI (30)), .int (nI (80)), .int (nI (0))]))] H := hP
  have hD : va_D A [(o9, .inr (1, [.ref (sa), .null, .int (nI (0)), .int (nI (0)), .int (nI (30)), .int (nI (80)), .int (nI (0))]))] := hD
  refine lv_aload_n hx hb dX1_init_36 rfl (lv_at hl 0 rfl) ?_
  refine tq_new (fs := [.null, .null, .null, .null, .null]) (C0 := RX2) (T := TX2) (N := 5) (ci := 2) C gX2 inX2 tyX2_ok rfl clk_X1_31 inst_X2 ini_X2 hK hP hD hS hA (fun j hj => by match j, hj with | 0, _ => rfl | 1, _ => rfl | 2, _ => rfl | 3, _ => rfl | 4, _ => rfl | k9 + 5, h9 => exact absurd h9 (by omega)) (Nat.le_of_ble_eq_true rfl) (Nat.le_of_ble_eq_true rfl) dX1_init_37 (fun q37 H locs hP hD hS => ?_)
  have hP : va_P D vwCl [(o9, .inr (1, [.ref (sa), .null, .int (nI (0)), .int (nI (0)), .int (nI (30)), .int (nI (80)), .int (nI (0))])), (q37, .inr (2, [.null, .null, .null, .null, .null]))] H := hP
  have hD : va_D A [(o9, .inr (1, [.ref (sa), .null, .int (nI (0)), .int (nI (0)), .int (nI (30)), .int (nI (80)), .int (nI (0))])), (q37, .inr (2, [.null, .null, .null, .null, .null]))] := hD
  refine lv_dup hx hb dX1_init_40 rfl ?_
  refine lv_aload_n hx hb dX1_init_41 rfl (lv_at hl 1 rfl) ?_
  refine tq_callV (W3 := fun u => [(o9, .inr (1, [.ref (sa), .null, .int (nI (0)), .int (nI (0)), .int (nI (30)), .int (nI (80)), .int (nI (0))])), (q37, .inr (2, [.ref (sa), .ref (u.1), .ref (u.2.1), .ref (u.2.2.1), .ref (u.2.2.2)])), (u.1, .inl (cy, 256, .inl (fun j => nI ((fun _ => 0) j)))), (u.2.1, .inl (cy, 256, .inl (fun j => nI ((fun _ => 0) j)))), (u.2.2.1, .inl (cy, 256, .inl (fun j => nI ((fun _ => 0) j)))), (u.2.2.2, .inl (cy, 121, .inl (fun j => nI ((fun _ => 0) j))))]) (wr := [(o9, .inr (1, [.ref (sa), .null, .int (nI (0)), .int (nI (0)), .int (nI (30)), .int (nI (80)), .int (nI (0))]))]) (va_runI C.fix (As := [.ref (sa)]) (rest := [.ref (q37), .ref (o9)]) (c_X2_init l D cy q37 sa H.size) (tq_cI (n := 1) C ml_X1_33 im_X2_init ini_X2 cd_X2_init rfl ⟨by decide, by decide, by decide +kernel⟩ ⟨Nat.le_of_ble_eq_true rfl, Nat.le_of_ble_eq_true rfl⟩) ⟨tq_Pc.blind, tq_preC C hK (hP.sub [1] rfl) (hD.sub [1] (by decide) rfl)⟩ rfl rfl hl.1 rfl (lv_room (Nat.le_of_ble_eq_true rfl)) dX1_init_42 ⟨Nat.le_of_ble_eq_true rfl, Nat.le_of_ble_eq_true rfl⟩) hP hD hS hA [1] [0] [0, 1, 2, 3, 4, 5] rfl rfl (by decide) (by decide) (by decide) (fun _ => rfl) (fun u42 H locs _ hP hD hS => ?_)
  obtain ⟨q8_42, q17_42, q26_42, q34_42⟩ := u42
  have hP : va_P D vwCl [(o9, .inr (1, [.ref (sa), .null, .int (nI (0)), .int (nI (0)), .int (nI (30)), .int (nI (80)), .int (nI (0))])), (q37, .inr (2, [.ref (sa), .ref (q8_42), .ref (q17_42), .ref (q26_42), .ref (q34_42)])), (q8_42, .inl (cy, 256, .inl (fun j => nI ((fun _ => 0) j)))), (q17_42, .inl (cy, 256, .inl (fun j => nI ((fun _ => 0) j)))), (q26_42, .inl (cy, 256, .inl (fun j => nI ((fun _ => 0) j)))), (q34_42, .inl (cy, 121, .inl (fun j => nI ((fun _ => 0) j))))] H := hP
  have hD : va_D A [(o9, .inr (1, [.ref (sa), .null, .int (nI (0)), .int (nI (0)), .int (nI (30)), .int (nI (80)), .int (nI (0))])), (q37, .inr (2, [.ref (sa), .ref (q8_42), .ref (q17_42), .ref (q26_42), .ref (q34_42)])), (q8_42, .inl (cy, 256, .inl (fun j => nI ((fun _ => 0) j)))), (q17_42, .inl (cy, 256, .inl (fun j => nI ((fun _ => 0) j)))), (q26_42, .inl (cy, 256, .inl (fun j => nI ((fun _ => 0) j)))), (q34_42, .inl (cy, 121, .inl (fun j => nI ((fun _ => 0) j))))] := hD
  refine tq_putF (v := .ref (q37)) (C0 := RX1) (T := TX1) (N := 7) (ci := 1) (k := 1) (ty := (.object "TwinHashTables$Rows")) C hin gX1 inX1 tyX1_ok nmX1 rfl (by decide) rfl rfl fl_X1_36 rfl (by decide +kernel) hK hP hD hS 0 rfl rfl rfl (Nat.le_of_ble_eq_true rfl) dX1_init_45 (fun H locs hP hD hS => ?_)
  have hP : va_P D vwCl [(o9, .inr (1, [.ref (sa), .ref (q37), .int (nI (0)), .int (nI (0)), .int (nI (30)), .int (nI (80)), .int (nI (0))])), (q37, .inr (2, [.ref (sa), .ref (q8_42), .ref (q17_42), .ref (q26_42), .ref (q34_42)])), (q8_42, .inl (cy, 256, .inl (fun j => nI ((fun _ => 0) j)))), (q17_42, .inl (cy, 256, .inl (fun j => nI ((fun _ => 0) j)))), (q26_42, .inl (cy, 256, .inl (fun j => nI ((fun _ => 0) j)))), (q34_42, .inl (cy, 121, .inl (fun j => nI ((fun _ => 0) j))))] H := hP
  have hD : va_D A [(o9, .inr (1, [.ref (sa), .ref (q37), .int (nI (0)), .int (nI (0)), .int (nI (30)), .int (nI (80)), .int (nI (0))])), (q37, .inr (2, [.ref (sa), .ref (q8_42), .ref (q17_42), .ref (q26_42), .ref (q34_42)])), (q8_42, .inl (cy, 256, .inl (fun j => nI ((fun _ => 0) j)))), (q17_42, .inl (cy, 256, .inl (fun j => nI ((fun _ => 0) j)))), (q26_42, .inl (cy, 256, .inl (fun j => nI ((fun _ => 0) j)))), (q34_42, .inl (cy, 121, .inl (fun j => nI ((fun _ => 0) j))))] := hD
  exact tq_vret C (q37, q8_42, q17_42, q26_42, q34_42) hP hD hS trivial (Nat.le_of_ble_eq_true rfl) (Nat.le_of_ble_eq_true rfl) dX1_init_48
theorem dX4_init_0 : decode cX4_init 0 = .ok (.aload_n 0, 1) := by decide +kernel
theorem dX4_init_1 : decode cX4_init 1 = .ok (.invokespecial 1, 3) := by decide +kernel
theorem dX4_init_4 : decode cX4_init 4 = .ok (.aload_n 0, 1) := by decide +kernel
theorem dX4_init_5 : decode cX4_init 5 = .ok (.new 7, 3) := by decide +kernel
theorem dX4_init_8 : decode cX4_init 8 = .ok (.dup, 1) := by decide +kernel
theorem dX4_init_9 : decode cX4_init 9 = .ok (.invokespecial 9, 3) := by decide +kernel
theorem dX4_init_12 : decode cX4_init 12 = .ok (.putfield 10, 3) := by decide +kernel
theorem dX4_init_15 : decode cX4_init 15 = .ok (.aload_n 0, 1) := by decide +kernel
theorem dX4_init_16 : decode cX4_init 16 = .ok (.new 16, 3) := by decide +kernel
theorem dX4_init_19 : decode cX4_init 19 = .ok (.dup, 1) := by decide +kernel
theorem dX4_init_20 : decode cX4_init 20 = .ok (.aload_n 0, 1) := by decide +kernel
theorem dX4_init_21 : decode cX4_init 21 = .ok (.getfield 10, 3) := by decide +kernel
theorem dX4_init_24 : decode cX4_init 24 = .ok (.invokespecial 18, 3) := by decide +kernel
theorem dX4_init_27 : decode cX4_init 27 = .ok (.putfield 21, 3) := by decide +kernel
theorem dX4_init_30 : decode cX4_init 30 = .ok (.aload_n 0, 1) := by decide +kernel
theorem dX4_init_31 : decode cX4_init 31 = .ok (.new 25, 3) := by decide +kernel
theorem dX4_init_34 : decode cX4_init 34 = .ok (.dup, 1) := by decide +kernel
theorem dX4_init_35 : decode cX4_init 35 = .ok (.aload_n 0, 1) := by decide +kernel
theorem dX4_init_36 : decode cX4_init 36 = .ok (.getfield 10, 3) := by decide +kernel
theorem dX4_init_39 : decode cX4_init 39 = .ok (.invokespecial 27, 3) := by decide +kernel
theorem dX4_init_42 : decode cX4_init 42 = .ok (.putfield 28, 3) := by decide +kernel
theorem dX4_init_45 : decode cX4_init 45 = .ok (.return_, 1) := by decide +kernel
set_option maxHeartbeats 4000000 in
set_option maxRecDepth 100000 in
theorem c_X4_init (l : Launch) (D : va_G) (cy : ClassId) (o9 : Nat) : tq_V (S := Nat × Nat × Nat × Nat × Nat × Nat × Nat × Nat × Nat × Nat × Nat × Nat × Nat × Nat × Nat × Nat × Nat) l yX4_init cX4_init 1 3 62 17 2426 D cy [(o9, .inr (4, [.null, .null, .null]))] [.ref o9] (fun _ => True) (fun u => [(o9, .inr (4, [.ref (u.1), .ref (u.2.2.2.2.1), .ref (u.2.2.2.2.2.2.2.2.2.2.2.1)])), (u.1, .inr (3, [.ref (u.2.1), .ref (u.2.2.1), .ref (u.2.2.2.1), .int (nI (0)), .int (nI (3))])), (u.2.1, .inl (cy, 121, .inl (fun j => nI ((fun _ => 0) j)))), (u.2.2.1, .inl (cy, 121, .inl (fun j => nI ((fun _ => 0) j)))), (u.2.2.2.1, .inl (cy, 120, .inl (fun j => nI ((fun j => if j < 120 then j + 1 else 0) j)))), (u.2.2.2.2.1, .inr (0, [.ref (u.1), .ref (u.2.2.2.2.2.2.1), .ref (u.2.2.2.2.2.1), .int (nI (0)), .int (nI (0)), .int (nI (0)), .int (nI (0)), .int (nI (0))])), (u.2.2.2.2.2.1, .inl (cy, 256, .inl (fun j => nI ((fun _ => 0) j)))), (u.2.2.2.2.2.2.1, .inr (2, [.ref (u.1), .ref (u.2.2.2.2.2.2.2.1), .ref (u.2.2.2.2.2.2.2.2.1), .ref (u.2.2.2.2.2.2.2.2.2.1), .ref (u.2.2.2.2.2.2.2.2.2.2.1)])), (u.2.2.2.2.2.2.2.1, .inl (cy, 256, .inl (fun j => nI ((fun _ => 0) j)))), (u.2.2.2.2.2.2.2.2.1, .inl (cy, 256, .inl (fun j => nI ((fun _ => 0) j)))), (u.2.2.2.2.2.2.2.2.2.1, .inl (cy, 256, .inl (fun j => nI ((fun _ => 0) j)))), (u.2.2.2.2.2.2.2.2.2.2.1, .inl (cy, 121, .inl (fun j => nI ((fun _ => 0) j)))), (u.2.2.2.2.2.2.2.2.2.2.2.1, .inr (1, [.ref (u.1), .ref (u.2.2.2.2.2.2.2.2.2.2.2.2.1), .int (nI (0)), .int (nI (0)), .int (nI (30)), .int (nI (80)), .int (nI (0))])), (u.2.2.2.2.2.2.2.2.2.2.2.2.1, .inr (2, [.ref (u.1), .ref (u.2.2.2.2.2.2.2.2.2.2.2.2.2.1), .ref (u.2.2.2.2.2.2.2.2.2.2.2.2.2.2.1), .ref (u.2.2.2.2.2.2.2.2.2.2.2.2.2.2.2.1), .ref (u.2.2.2.2.2.2.2.2.2.2.2.2.2.2.2.2)])), (u.2.2.2.2.2.2.2.2.2.2.2.2.2.1, .inl (cy, 256, .inl (fun j => nI ((fun _ => 0) j)))), (u.2.2.2.2.2.2.2.2.2.2.2.2.2.2.1, .inl (cy, 256, .inl (fun j => nI ((fun _ => 0) j)))), (u.2.2.2.2.2.2.2.2.2.2.2.2.2.2.2.1, .inl (cy, 256, .inl (fun j => nI ((fun _ => 0) j)))), (u.2.2.2.2.2.2.2.2.2.2.2.2.2.2.2.2, .inl (cy, 121, .inl (fun j => nI ((fun _ => 0) j))))]) := by
  refine tq_V.mk (by decide) (Nat.le_of_ble_eq_true rfl) ?_
  intro p e s m args below meth c A C hin hP hK hD hS hA ls hl
  obtain ⟨hx, hb, hml, hown, hrt, hlk, hT⟩ := id C
  have hl : lv_has ls 1 [(0, .ref o9)] := hl
  refine lv_aload_n hx hb dX4_init_0 rfl (lv_at hl 0 rfl) ?_
  refine W.objInit hx hb hown (hT.use ml_X4_1 rfl) (hT.use im_Object_init rfl) (hT.use cd_Object_init rfl) rfl (by rw [hml]; exact hl.1) rfl dX4_init_1 (Nat.le_of_ble_eq_true rfl) (Nat.le_of_ble_eq_true rfl) ?_
  refine W.eq (g2 := F0 m 4 ls []) rfl ?_
  refine lv_aload_n hx hb dX4_init_4 rfl (lv_at hl 0 rfl) ?_
  refine tq_new (fs := [.null, .null, .null, .int (nI (0)), .int (nI (0))]) (C0 := RX3) (T := TX3) (N := 5) (ci := 3) C gX3 inX3 tyX3_ok rfl clk_X4_7 inst_X3 ini_X3 hK hP hD hS hA (fun j hj => by match j, hj with | 0, _ => rfl | 1, _ => rfl | 2, _ => rfl | 3, _ => rfl | 4, _ => rfl | k9 + 5, h9 => exact absurd h9 (by omega)) (Nat.le_of_ble_eq_true rfl) (Nat.le_of_ble_eq_true rfl) dX4_init_5 (fun q5 H locs hP hD hS => ?_)
  have hP : va_P D vwCl [(o9, .inr (4, [.null, .null, .null])), (q5, .inr (3, [.null, .null, .null, .int (nI (0)), .int (nI (0))]))] H := hP
  have hD : va_D A [(o9, .inr (4, [.null, .null, .null])), (q5, .inr (3, [.null, .null, .null, .int (nI (0)), .int (nI (0))]))] := hD
  refine lv_dup hx hb dX4_init_8 rfl ?_
  refine tq_callV (W3 := fun u => [(o9, .inr (4, [.null, .null, .null])), (q5, .inr (3, [.ref (u.1), .ref (u.2.1), .ref (u.2.2), .int (nI (0)), .int (nI (3))])), (u.1, .inl (cy, 121, .inl (fun j => nI ((fun _ => 0) j)))), (u.2.1, .inl (cy, 121, .inl (fun j => nI ((fun _ => 0) j)))), (u.2.2, .inl (cy, 120, .inl (fun j => nI ((fun j => if j < 120 then j + 1 else 0) j))))]) (wr := [(o9, .inr (4, [.null, .null, .null]))]) (va_runI C.fix (As := []) (rest := [.ref (q5), .ref (o9)]) (c_X3_init l D cy q5 H.size) (tq_cI (n := 0) C ml_X4_9 im_X3_init ini_X3 cd_X3_init rfl ⟨by decide, by decide, by decide +kernel⟩ ⟨Nat.le_of_ble_eq_true rfl, Nat.le_of_ble_eq_true rfl⟩) ⟨tq_Pc.blind, tq_preC C hK (hP.sub [1] rfl) (hD.sub [1] (by decide) rfl)⟩ rfl rfl hl.1 rfl (lv_room (Nat.le_of_ble_eq_true rfl)) dX4_init_9 ⟨Nat.le_of_ble_eq_true rfl, Nat.le_of_ble_eq_true rfl⟩) hP hD hS hA [1] [0] [0, 1, 2, 3, 4] rfl rfl (by decide) (by decide) (by decide) (fun _ => rfl) (fun u9 H locs _ hP hD hS => ?_)
  obtain ⟨q7_9, q15_9, q23_9⟩ := u9
  have hP : va_P D vwCl [(o9, .inr (4, [.null, .null, .null])), (q5, .inr (3, [.ref (q7_9), .ref (q15_9), .ref (q23_9), .int (nI (0)), .int (nI (3))])), (q7_9, .inl (cy, 121, .inl (fun j => nI ((fun _ => 0) j)))), (q15_9, .inl (cy, 121, .inl (fun j => nI ((fun _ => 0) j)))), (q23_9, .inl (cy, 120, .inl (fun j => nI ((fun j => if j < 120 then j + 1 else 0) j))))] H := hP
  have hD : va_D A [(o9, .inr (4, [.null, .null, .null])), (q5, .inr (3, [.ref (q7_9), .ref (q15_9), .ref (q23_9), .int (nI (0)), .int (nI (3))])), (q7_9, .inl (cy, 121, .inl (fun j => nI ((fun _ => 0) j)))), (q15_9, .inl (cy, 121, .inl (fun j => nI ((fun _ => 0) j)))), (q23_9, .inl (cy, 120, .inl (fun j => nI ((fun j => if j < 120 then j + 1 else 0) j))))] := hD
  refine tq_putF (v := .ref (q5)) (C0 := RX4) (T := TX4) (N := 3) (ci := 4) (k := 0) (ty := (.object "TwinHashTables$Store")) C hin gX4 inX4 tyX4_ok nmX4 rfl (by decide) rfl rfl fl_X4_10 rfl (by decide +kernel) hK hP hD hS 0 rfl rfl rfl (Nat.le_of_ble_eq_true rfl) dX4_init_12 (fun H locs hP hD hS => ?_)
  have hP : va_P D vwCl [(o9, .inr (4, [.ref (q5), .null, .null])), (q5, .inr (3, [.ref (q7_9), .ref (q15_9), .ref (q23_9), .int (nI (0)), .int (nI (3))])), (q7_9, .inl (cy, 121, .inl (fun j => nI ((fun _ => 0) j)))), (q15_9, .inl (cy, 121, .inl (fun j => nI ((fun _ => 0) j)))), (q23_9, .inl (cy, 120, .inl (fun j => nI ((fun j => if j < 120 then j + 1 else 0) j))))] H := hP
  have hD : va_D A [(o9, .inr (4, [.ref (q5), .null, .null])), (q5, .inr (3, [.ref (q7_9), .ref (q15_9), .ref (q23_9), .int (nI (0)), .int (nI (3))])), (q7_9, .inl (cy, 121, .inl (fun j => nI ((fun _ => 0) j)))), (q15_9, .inl (cy, 121, .inl (fun j => nI ((fun _ => 0) j)))), (q23_9, .inl (cy, 120, .inl (fun j => nI ((fun j => if j < 120 then j + 1 else 0) j))))] := hD
  refine lv_aload_n hx hb dX4_init_15 rfl (lv_at hl 0 rfl) ?_
  refine tq_new (fs := [.null, .null, .null, .int (nI (0)), .int (nI (0)), .int (nI (0)), .int (nI (0)), .int (nI (0))]) (C0 := RX0) (T := TX0) (N := 8) (ci := 0) C gX0 inX0 tyX0_ok rfl clk_X4_16 inst_X0 ini_X0 hK hP hD hS hA (fun j hj => by match j, hj with | 0, _ => rfl | 1, _ => rfl | 2, _ => rfl | 3, _ => rfl | 4, _ => rfl | 5, _ => rfl | 6, _ => rfl | 7, _ => rfl | k9 + 8, h9 => exact absurd h9 (by omega)) (Nat.le_of_ble_eq_true rfl) (Nat.le_of_ble_eq_true rfl) dX4_init_16 (fun q16 H locs hP hD hS => ?_)
  have hP : va_P D vwCl [(o9, .inr (4, [.ref (q5), .null, .null])), (q5, .inr (3, [.ref (q7_9), .ref (q15_9), .ref (q23_9), .int (nI (0)), .int (nI (3))])), (q7_9, .inl (cy, 121, .inl (fun j => nI ((fun _ => 0) j)))), (q15_9, .inl (cy, 121, .inl (fun j => nI ((fun _ => 0) j)))), (q23_9, .inl (cy, 120, .inl (fun j => nI ((fun j => if j < 120 then j + 1 else 0) j)))), (q16, .inr (0, [.null, .null, .null, .int (nI (0)), .int (nI (0)), .int (nI (0)), .int (nI (0)), .int (nI (0))]))] H := hP
  have hD : va_D A [(o9, .inr (4, [.ref (q5), .null, .null])), (q5, .inr (3, [.ref (q7_9), .ref (q15_9), .ref (q23_9), .int (nI (0)), .int (nI (3))])), (q7_9, .inl (cy, 121, .inl (fun j => nI ((fun _ => 0) j)))), (q15_9, .inl (cy, 121, .inl (fun j => nI ((fun _ => 0) j)))), (q23_9, .inl (cy, 120, .inl (fun j => nI ((fun j => if j < 120 then j + 1 else 0) j)))), (q16, .inr (0, [.null, .null, .null, .int (nI (0)), .int (nI (0)), .int (nI (0)), .int (nI (0)), .int (nI (0))]))] := hD
  refine lv_dup hx hb dX4_init_19 rfl ?_
  refine lv_aload_n hx hb dX4_init_20 rfl (lv_at hl 0 rfl) ?_
  refine tq_get (C0 := RX4) (T := TX4) (N := 3) (ci := 4) (k := 0) C gX4 inX4 rfl (by decide) rfl fl_X4_10 hK hP 0 rfl rfl dX4_init_21 ?_
  refine tq_callV (W3 := fun u => [(o9, .inr (4, [.ref (q5), .null, .null])), (q5, .inr (3, [.ref (q7_9), .ref (q15_9), .ref (q23_9), .int (nI (0)), .int (nI (3))])), (q7_9, .inl (cy, 121, .inl (fun j => nI ((fun _ => 0) j)))), (q15_9, .inl (cy, 121, .inl (fun j => nI ((fun _ => 0) j)))), (q23_9, .inl (cy, 120, .inl (fun j => nI ((fun j => if j < 120 then j + 1 else 0) j)))), (q16, .inr (0, [.ref (q5), .ref (u.2.1), .ref (u.1), .int (nI (0)), .int (nI (0)), .int (nI (0)), .int (nI (0)), .int (nI (0))])), (u.1, .inl (cy, 256, .inl (fun j => nI ((fun _ => 0) j)))), (u.2.1, .inr (2, [.ref (q5), .ref (u.2.2.1), .ref (u.2.2.2.1), .ref (u.2.2.2.2.1), .ref (u.2.2.2.2.2)])), (u.2.2.1, .inl (cy, 256, .inl (fun j => nI ((fun _ => 0) j)))), (u.2.2.2.1, .inl (cy, 256, .inl (fun j => nI ((fun _ => 0) j)))), (u.2.2.2.2.1, .inl (cy, 256, .inl (fun j => nI ((fun _ => 0) j)))), (u.2.2.2.2.2, .inl (cy, 121, .inl (fun j => nI ((fun _ => 0) j))))]) (wr := [(o9, .inr (4, [.ref (q5), .null, .null])), (q5, .inr (3, [.ref (q7_9), .ref (q15_9), .ref (q23_9), .int (nI (0)), .int (nI (3))])), (q7_9, .inl (cy, 121, .inl (fun j => nI ((fun _ => 0) j)))), (q15_9, .inl (cy, 121, .inl (fun j => nI ((fun _ => 0) j)))), (q23_9, .inl (cy, 120, .inl (fun j => nI ((fun j => if j < 120 then j + 1 else 0) j))))]) (va_runI C.fix (As := [.ref (q5)]) (rest := [.ref (q16), .ref (o9)]) (c_X0_init l D cy q16 q5 H.size) (tq_cI (n := 1) C ml_X4_18 im_X0_init ini_X0 cd_X0_init rfl ⟨by decide, by decide, by decide +kernel⟩ ⟨Nat.le_of_ble_eq_true rfl, Nat.le_of_ble_eq_true rfl⟩) ⟨tq_Pc.blind, tq_preC C hK (hP.sub [5] rfl) (hD.sub [5] (by decide) rfl)⟩ rfl rfl hl.1 rfl (lv_room (Nat.le_of_ble_eq_true rfl)) dX4_init_24 ⟨Nat.le_of_ble_eq_true rfl, Nat.le_of_ble_eq_true rfl⟩) hP hD hS hA [5] [0, 1, 2, 3, 4] [0, 1, 2, 3, 4, 5, 6, 7, 8, 9, 10, 11] rfl rfl (by decide) (by decide) (by decide) (fun _ => rfl) (fun u24 H locs _ hP hD hS => ?_)
  obtain ⟨q8_24, q44_24, q8_49_24, q17_49_24, q26_49_24, q34_49_24⟩ := u24
  have hP : va_P D vwCl [(o9, .inr (4, [.ref (q5), .null, .null])), (q5, .inr (3, [.ref (q7_9), .ref (q15_9), .ref (q23_9), .int (nI (0)), .int (nI (3))])), (q7_9, .inl (cy, 121, .inl (fun j => nI ((fun _ => 0) j)))), (q15_9, .inl (cy, 121, .inl (fun j => nI ((fun _ => 0) j)))), (q23_9, .inl (cy, 120, .inl (fun j => nI ((fun j => if j < 120 then j + 1 else 0) j)))), (q16, .inr (0, [.ref (q5), .ref (q44_24), .ref (q8_24), .int (nI (0)), .int (nI (0)), .int (nI (0)), .int (nI (0)), .int (nI (0))])), (q8_24, .inl (cy, 256, .inl (fun j => nI ((fun _ => 0) j)))), (q44_24, .inr (2, [.ref (q5), .ref (q8_49_24), .ref (q17_49_24), .ref (q26_49_24), .ref (q34_49_24)])), (q8_49_24, .inl (cy, 256, .inl (fun j => nI ((fun _ => 0) j)))), (q17_49_24, .inl (cy, 256, .inl (fun j => nI ((fun _ => 0) j)))), (q26_49_24, .inl (cy, 256, .inl (fun j => nI ((fun _ => 0) j)))), (q34_49_24, .inl (cy, 121, .inl (fun j => nI ((fun _ => 0) j))))] H := hP
  have hD : va_D A [(o9, .inr (4, [.ref (q5), .null, .null])), (q5, .inr (3, [.ref (q7_9), .ref (q15_9), .ref (q23_9), .int (nI (0)), .int (nI (3))])), (q7_9, .inl (cy, 121, .inl (fun j => nI ((fun _ => 0) j)))), (q15_9, .inl (cy, 121, .inl (fun j => nI ((fun _ => 0) j)))), (q23_9, .inl (cy, 120, .inl (fun j => nI ((fun j => if j < 120 then j + 1 else 0) j)))), (q16, .inr (0, [.ref (q5), .ref (q44_24), .ref (q8_24), .int (nI (0)), .int (nI (0)), .int (nI (0)), .int (nI (0)), .int (nI (0))])), (q8_24, .inl (cy, 256, .inl (fun j => nI ((fun _ => 0) j)))), (q44_24, .inr (2, [.ref (q5), .ref (q8_49_24), .ref (q17_49_24), .ref (q26_49_24), .ref (q34_49_24)])), (q8_49_24, .inl (cy, 256, .inl (fun j => nI ((fun _ => 0) j)))), (q17_49_24, .inl (cy, 256, .inl (fun j => nI ((fun _ => 0) j)))), (q26_49_24, .inl (cy, 256, .inl (fun j => nI ((fun _ => 0) j)))), (q34_49_24, .inl (cy, 121, .inl (fun j => nI ((fun _ => 0) j))))] := hD
  refine tq_putF (v := .ref (q16)) (C0 := RX4) (T := TX4) (N := 3) (ci := 4) (k := 1) (ty := (.object "TwinHashTables$Extendible")) C hin gX4 inX4 tyX4_ok nmX4 rfl (by decide) rfl rfl fl_X4_21 rfl (by decide +kernel) hK hP hD hS 0 rfl rfl rfl (Nat.le_of_ble_eq_true rfl) dX4_init_27 (fun H locs hP hD hS => ?_)
  have hP : va_P D vwCl [(o9, .inr (4, [.ref (q5), .ref (q16), .null])), (q5, .inr (3, [.ref (q7_9), .ref (q15_9), .ref (q23_9), .int (nI (0)), .int (nI (3))])), (q7_9, .inl (cy, 121, .inl (fun j => nI ((fun _ => 0) j)))), (q15_9, .inl (cy, 121, .inl (fun j => nI ((fun _ => 0) j)))), (q23_9, .inl (cy, 120, .inl (fun j => nI ((fun j => if j < 120 then j + 1 else 0) j)))), (q16, .inr (0, [.ref (q5), .ref (q44_24), .ref (q8_24), .int (nI (0)), .int (nI (0)), .int (nI (0)), .int (nI (0)), .int (nI (0))])), (q8_24, .inl (cy, 256, .inl (fun j => nI ((fun _ => 0) j)))), (q44_24, .inr (2, [.ref (q5), .ref (q8_49_24), .ref (q17_49_24), .ref (q26_49_24), .ref (q34_49_24)])), (q8_49_24, .inl (cy, 256, .inl (fun j => nI ((fun _ => 0) j)))), (q17_49_24, .inl (cy, 256, .inl (fun j => nI ((fun _ => 0) j)))), (q26_49_24, .inl (cy, 256, .inl (fun j => nI ((fun _ => 0) j)))), (q34_49_24, .inl (cy, 121, .inl (fun j => nI ((fun _ => 0) j))))] H := hP
  have hD : va_D A [(o9, .inr (4, [.ref (q5), .ref (q16), .null])), (q5, .inr (3, [.ref (q7_9), .ref (q15_9), .ref (q23_9), .int (nI (0)), .int (nI (3))])), (q7_9, .inl (cy, 121, .inl (fun j => nI ((fun _ => 0) j)))), (q15_9, .inl (cy, 121, .inl (fun j => nI ((fun _ => 0) j)))), (q23_9, .inl (cy, 120, .inl (fun j => nI ((fun j => if j < 120 then j + 1 else 0) j)))), (q16, .inr (0, [.ref (q5), .ref (q44_24), .ref (q8_24), .int (nI (0)), .int (nI (0)), .int (nI (0)), .int (nI (0)), .int (nI (0))])), (q8_24, .inl (cy, 256, .inl (fun j => nI ((fun _ => 0) j)))), (q44_24, .inr (2, [.ref (q5), .ref (q8_49_24), .ref (q17_49_24), .ref (q26_49_24), .ref (q34_49_24)])), (q8_49_24, .inl (cy, 256, .inl (fun j => nI ((fun _ => 0) j)))), (q17_49_24, .inl (cy, 256, .inl (fun j => nI ((fun _ => 0) j)))), (q26_49_24, .inl (cy, 256, .inl (fun j => nI ((fun _ => 0) j)))), (q34_49_24, .inl (cy, 121, .inl (fun j => nI ((fun _ => 0) j))))] := hD
  refine lv_aload_n hx hb dX4_init_30 rfl (lv_at hl 0 rfl) ?_
  refine tq_new (fs := [.null, .null, .int (nI (0)), .int (nI (0)), .int (nI (0)), .int (nI (0)), .int (nI (0))]) (C0 := RX1) (T := TX1) (N := 7) (ci := 1) C gX1 inX1 tyX1_ok rfl clk_X4_25 inst_X1 ini_X1 hK hP hD hS hA (fun j hj => by match j, hj with | 0, _ => rfl | 1, _ => rfl | 2, _ => rfl | 3, _ => rfl | 4, _ => rfl | 5, _ => rfl | 6, _ => rfl | k9 + 7, h9 => exact absurd h9 (by omega)) (Nat.le_of_ble_eq_true rfl) (Nat.le_of_ble_eq_true rfl) dX4_init_31 (fun q31 H locs hP hD hS => ?_)
  have hP : va_P D vwCl [(o9, .inr (4, [.ref (q5), .ref (q16), .null])), (q5, .inr (3, [.ref (q7_9), .ref (q15_9), .ref (q23_9), .int (nI (0)), .int (nI (3))])), (q7_9, .inl (cy, 121, .inl (fun j => nI ((fun _ => 0) j)))), (q15_9, .inl (cy, 121, .inl (fun j => nI ((fun _ => 0) j)))), (q23_9, .inl (cy, 120, .inl (fun j => nI ((fun j => if j < 120 then j + 1 else 0) j)))), (q16, .inr (0, [.ref (q5), .ref (q44_24), .ref (q8_24), .int (nI (0)), .int (nI (0)), .int (nI (0)), .int (nI (0)), .int (nI (0))])), (q8_24, .inl (cy, 256, .inl (fun j => nI ((fun _ => 0) j)))), (q44_24, .inr (2, [.ref (q5), .ref (q8_49_24), .ref (q17_49_24), .ref (q26_49_24), .ref (q34_49_24)])), (q8_49_24, .inl (cy, 256, .inl (fun j => nI ((fun _ => 0) j)))), (q17_49_24, .inl (cy, 256, .inl (fun j => nI ((fun _ => 0) j)))), (q26_49_24, .inl (cy, 256, .inl (fun j => nI ((fun _ => 0) j)))), (q34_49_24, .inl (cy, 121, .inl (fun j => nI ((fun _ => 0) j)))), (q31, .inr (1, [.null, .null, .int (nI (0)), .int (nI (0)), .int (nI (0)), .int (nI (0)), .int (nI (0))]))] H := hP
  have hD : va_D A [(o9, .inr (4, [.ref (q5), .ref (q16), .null])), (q5, .inr (3, [.ref (q7_9), .ref (q15_9), .ref (q23_9), .int (nI (0)), .int (nI (3))])), (q7_9, .inl (cy, 121, .inl (fun j => nI ((fun _ => 0) j)))), (q15_9, .inl (cy, 121, .inl (fun j => nI ((fun _ => 0) j)))), (q23_9, .inl (cy, 120, .inl (fun j => nI ((fun j => if j < 120 then j + 1 else 0) j)))), (q16, .inr (0, [.ref (q5), .ref (q44_24), .ref (q8_24), .int (nI (0)), .int (nI (0)), .int (nI (0)), .int (nI (0)), .int (nI (0))])), (q8_24, .inl (cy, 256, .inl (fun j => nI ((fun _ => 0) j)))), (q44_24, .inr (2, [.ref (q5), .ref (q8_49_24), .ref (q17_49_24), .ref (q26_49_24), .ref (q34_49_24)])), (q8_49_24, .inl (cy, 256, .inl (fun j => nI ((fun _ => 0) j)))), (q17_49_24, .inl (cy, 256, .inl (fun j => nI ((fun _ => 0) j)))), (q26_49_24, .inl (cy, 256, .inl (fun j => nI ((fun _ => 0) j)))), (q34_49_24, .inl (cy, 121, .inl (fun j => nI ((fun _ => 0) j)))), (q31, .inr (1, [.null, .null, .int (nI (0)), .int (nI (0)), .int (nI (0)), .int (nI (0)), .int (nI (0))]))] := hD
  refine lv_dup hx hb dX4_init_34 rfl ?_
  refine lv_aload_n hx hb dX4_init_35 rfl (lv_at hl 0 rfl) ?_
  refine tq_get (C0 := RX4) (T := TX4) (N := 3) (ci := 4) (k := 0) C gX4 inX4 rfl (by decide) rfl fl_X4_10 hK hP 0 rfl rfl dX4_init_36 ?_
  refine tq_callV (W3 := fun u => [(o9, .inr (4, [.ref (q5), .ref (q16), .null])), (q5, .inr (3, [.ref (q7_9), .ref (q15_9), .ref (q23_9), .int (nI (0)), .int (nI (3))])), (q7_9, .inl (cy, 121, .inl (fun j => nI ((fun _ => 0) j)))), (q15_9, .inl (cy, 121, .inl (fun j => nI ((fun _ => 0) j)))), (q23_9, .inl (cy, 120, .inl (fun j => nI ((fun j => if j < 120 then j + 1 else 0) j)))), (q16, .inr (0, [.ref (q5), .ref (q44_24), .ref (q8_24), .int (nI (0)), .int (nI (0)), .int (nI (0)), .int (nI (0)), .int (nI (0))])), (q8_24, .inl (cy, 256, .inl (fun j => nI ((fun _ => 0) j)))), (q44_24, .inr (2, [.ref (q5), .ref (q8_49_24), .ref (q17_49_24), .ref (q26_49_24), .ref (q34_49_24)])), (q8_49_24, .inl (cy, 256, .inl (fun j => nI ((fun _ => 0) j)))), (q17_49_24, .inl (cy, 256, .inl (fun j => nI ((fun _ => 0) j)))), (q26_49_24, .inl (cy, 256, .inl (fun j => nI ((fun _ => 0) j)))), (q34_49_24, .inl (cy, 121, .inl (fun j => nI ((fun _ => 0) j)))), (q31, .inr (1, [.ref (q5), .ref (u.1), .int (nI (0)), .int (nI (0)), .int (nI (30)), .int (nI (80)), .int (nI (0))])), (u.1, .inr (2, [.ref (q5), .ref (u.2.1), .ref (u.2.2.1), .ref (u.2.2.2.1), .ref (u.2.2.2.2)])), (u.2.1, .inl (cy, 256, .inl (fun j => nI ((fun _ => 0) j)))), (u.2.2.1, .inl (cy, 256, .inl (fun j => nI ((fun _ => 0) j)))), (u.2.2.2.1, .inl (cy, 256, .inl (fun j => nI ((fun _ => 0) j)))), (u.2.2.2.2, .inl (cy, 121, .inl (fun j => nI ((fun _ => 0) j))))]) (wr := [(o9, .inr (4, [.ref (q5), .ref (q16), .null])), (q5, .inr (3, [.ref (q7_9), .ref (q15_9), .ref (q23_9), .int (nI (0)), .int (nI (3))])), (q7_9, .inl (cy, 121, .inl (fun j => nI ((fun _ => 0) j)))), (q15_9, .inl (cy, 121, .inl (fun j => nI ((fun _ => 0) j)))), (q23_9, .inl (cy, 120, .inl (fun j => nI ((fun j => if j < 120 then j + 1 else 0) j)))), (q16, .inr (0, [.ref (q5), .ref (q44_24), .ref (q8_24), .int (nI (0)), .int (nI (0)), .int (nI (0)), .int (nI (0)), .int (nI (0))])), (q8_24, .inl (cy, 256, .inl (fun j => nI ((fun _ => 0) j)))), (q44_24, .inr (2, [.ref (q5), .ref (q8_49_24), .ref (q17_49_24), .ref (q26_49_24), .ref (q34_49_24)])), (q8_49_24, .inl (cy, 256, .inl (fun j => nI ((fun _ => 0) j)))), (q17_49_24, .inl (cy, 256, .inl (fun j => nI ((fun _ => 0) j)))), (q26_49_24, .inl (cy, 256, .inl (fun j => nI ((fun _ => 0) j)))), (q34_49_24, .inl (cy, 121, .inl (fun j => nI ((fun _ => 0) j))))]) (va_runI C.fix (As := [.ref (q5)]) (rest := [.ref (q31), .ref (o9)]) (c_X1_init l D cy q31 q5 H.size) (tq_cI (n := 1) C ml_X4_27 im_X1_init ini_X1 cd_X1_init rfl ⟨by decide, by decide, by decide +kernel⟩ ⟨Nat.le_of_ble_eq_true rfl, Nat.le_of_ble_eq_true rfl⟩) ⟨tq_Pc.blind, tq_preC C hK (hP.sub [12] rfl) (hD.sub [12] (by decide) rfl)⟩ rfl rfl hl.1 rfl (lv_room (Nat.le_of_ble_eq_true rfl)) dX4_init_39 ⟨Nat.le_of_ble_eq_true rfl, Nat.le_of_ble_eq_true rfl⟩) hP hD hS hA [12] [0, 1, 2, 3, 4, 5, 6, 7, 8, 9, 10, 11] [0, 1, 2, 3, 4, 5, 6, 7, 8, 9, 10, 11, 12, 13, 14, 15, 16, 17] rfl rfl (by decide) (by decide) (by decide) (fun _ => rfl) (fun u39 H locs _ hP hD hS => ?_)
  obtain ⟨q37_39, q8_42_39, q17_42_39, q26_42_39, q34_42_39⟩ := u39
  have hP : va_P D vwCl [(o9, .inr (4, [.ref (q5), .ref (q16), .null])), (q5, .inr (3, [.ref (q7_9), .ref (q15_9), .ref (q23_9), .int (nI (0)), .int (nI (3))])), (q7_9, .inl (cy, 121, .inl (fun j => nI ((fun _ => 0) j)))), (q15_9, .inl (cy, 121, .inl (fun j => nI ((fun _ => 0) j)))), (q23_9, .inl (cy, 120, .inl (fun j => nI ((fun j => if j < 120 then j + 1 else 0) j)))), (q16, .inr (0, [.ref (q5), .ref (q44_24), .ref (q8_24), .int (nI (0)), .int (nI (0)), .int (nI (0)), .int (nI (0)), .int (nI (0))])), (q8_24, .inl (cy, 256, .inl (fun j => nI ((fun _ => 0) j)))), (q44_24, .inr (2, [.ref (q5), .ref (q8_49_24), .ref (q17_49_24), .ref (q26_49_24), .ref (q34_49_24)])), (q8_49_24, .inl (cy, 256, .inl (fun j => nI ((fun _ => 0) j)))), (q17_49_24, .inl (cy, 256, .inl (fun j => nI ((fun _ => 0) j)))), (q26_49_24, .inl (cy, 256, .inl (fun j => nI ((fun _ => 0) j)))), (q34_49_24, .inl (cy, 121, .inl (fun j => nI ((fun _ => 0) j)))), (q31, .inr (1, [.ref (q5), .ref (q37_39), .int (nI (0)), .int (nI (0)), .int (nI (30)), .int (nI (80)), .int (nI (0))])), (q37_39, .inr (2, [.ref (q5), .ref (q8_42_39), .ref (q17_42_39), .ref (q26_42_39), .ref (q34_42_39)])), (q8_42_39, .inl (cy, 256, .inl (fun j => nI ((fun _ => 0) j)))), (q17_42_39, .inl (cy, 256, .inl (fun j => nI ((fun _ => 0) j)))), (q26_42_39, .inl (cy, 256, .inl (fun j => nI ((fun _ => 0) j)))), (q34_42_39, .inl (cy, 121, .inl (fun j => nI ((fun _ => 0) j))))] H := hP
  have hD : va_D A [(o9, .inr (4, [.ref (q5), .ref (q16), .null])), (q5, .inr (3, [.ref (q7_9), .ref (q15_9), .ref (q23_9), .int (nI (0)), .int (nI (3))])), (q7_9, .inl (cy, 121, .inl (fun j => nI ((fun _ => 0) j)))), (q15_9, .inl (cy, 121, .inl (fun j => nI ((fun _ => 0) j)))), (q23_9, .inl (cy, 120, .inl (fun j => nI ((fun j => if j < 120 then j + 1 else 0) j)))), (q16, .inr (0, [.ref (q5), .ref (q44_24), .ref (q8_24), .int (nI (0)), .int (nI (0)), .int (nI (0)), .int (nI (0)), .int (nI (0))])), (q8_24, .inl (cy, 256, .inl (fun j => nI ((fun _ => 0) j)))), (q44_24, .inr (2, [.ref (q5), .ref (q8_49_24), .ref (q17_49_24), .ref (q26_49_24), .ref (q34_49_24)])), (q8_49_24, .inl (cy, 256, .inl (fun j => nI ((fun _ => 0) j)))), (q17_49_24, .inl (cy, 256, .inl (fun j => nI ((fun _ => 0) j)))), (q26_49_24, .inl (cy, 256, .inl (fun j => nI ((fun _ => 0) j)))), (q34_49_24, .inl (cy, 121, .inl (fun j => nI ((fun _ => 0) j)))), (q31, .inr (1, [.ref (q5), .ref (q37_39), .int (nI (0)), .int (nI (0)), .int (nI (30)), .int (nI (80)), .int (nI (0))])), (q37_39, .inr (2, [.ref (q5), .ref (q8_42_39), .ref (q17_42_39), .ref (q26_42_39), .ref (q34_42_39)])), (q8_42_39, .inl (cy, 256, .inl (fun j => nI ((fun _ => 0) j)))), (q17_42_39, .inl (cy, 256, .inl (fun j => nI ((fun _ => 0) j)))), (q26_42_39, .inl (cy, 256, .inl (fun j => nI ((fun _ => 0) j)))), (q34_42_39, .inl (cy, 121, .inl (fun j => nI ((fun _ => 0) j))))] := hD
  refine tq_putF (v := .ref (q31)) (C0 := RX4) (T := TX4) (N := 3) (ci := 4) (k := 2) (ty := (.object "TwinHashTables$Linear")) C hin gX4 inX4 tyX4_ok nmX4 rfl (by decide) rfl rfl fl_X4_28 rfl (by decide +kernel) hK hP hD hS 0 rfl rfl rfl (Nat.le_of_ble_eq_true rfl) dX4_init_42 (fun H locs hP hD hS => ?_)
  have hP : va_P D vwCl [(o9, .inr (4, [.ref (q5), .ref (q16), .ref (q31)])), (q5, .inr (3, [.ref (q7_9), .ref (q15_9), .ref (q23_9), .int (nI (0)), .int (nI (3))])), (q7_9, .inl (cy, 121, .inl (fun j => nI ((fun _ => 0) j)))), (q15_9, .inl (cy, 121, .inl (fun j => nI ((fun _ => 0) j)))), (q23_9, .inl (cy, 120, .inl (fun j => nI ((fun j => if j < 120 then j + 1 else 0) j)))), (q16, .inr (0, [.ref (q5), .ref (q44_24), .ref (q8_24), .int (nI (0)), .int (nI (0)), .int (nI (0)), .int (nI (0)), .int (nI (0))])), (q8_24, .inl (cy, 256, .inl (fun j => nI ((fun _ => 0) j)))), (q44_24, .inr (2, [.ref (q5), .ref (q8_49_24), .ref (q17_49_24), .ref (q26_49_24), .ref (q34_49_24)])), (q8_49_24, .inl (cy, 256, .inl (fun j => nI ((fun _ => 0) j)))), (q17_49_24, .inl (cy, 256, .inl (fun j => nI ((fun _ => 0) j)))), (q26_49_24, .inl (cy, 256, .inl (fun j => nI ((fun _ => 0) j)))), (q34_49_24, .inl (cy, 121, .inl (fun j => nI ((fun _ => 0) j)))), (q31, .inr (1, [.ref (q5), .ref (q37_39), .int (nI (0)), .int (nI (0)), .int (nI (30)), .int (nI (80)), .int (nI (0))])), (q37_39, .inr (2, [.ref (q5), .ref (q8_42_39), .ref (q17_42_39), .ref (q26_42_39), .ref (q34_42_39)])), (q8_42_39, .inl (cy, 256, .inl (fun j => nI ((fun _ => 0) j)))), (q17_42_39, .inl (cy, 256, .inl (fun j => nI ((fun _ => 0) j)))), (q26_42_39, .inl (cy, 256, .inl (fun j => nI ((fun _ => 0) j)))), (q34_42_39, .inl (cy, 121, .inl (fun j => nI ((fun _ => 0) j))))] H := hP
  have hD : va_D A [(o9, .inr (4, [.ref (q5), .ref (q16), .ref (q31)])), (q5, .inr (3, [.ref (q7_9), .ref (q15_9), .ref (q23_9), .int (nI (0)), .int (nI (3))])), (q7_9, .inl (cy, 121, .inl (fun j => nI ((fun _ => 0) j)))), (q15_9, .inl (cy, 121, .inl (fun j => nI ((fun _ => 0) j)))), (q23_9, .inl (cy, 120, .inl (fun j => nI ((fun j => if j < 120 then j + 1 else 0) j)))), (q16, .inr (0, [.ref (q5), .ref (q44_24), .ref (q8_24), .int (nI (0)), .int (nI (0)), .int (nI (0)), .int (nI (0)), .int (nI (0))])), (q8_24, .inl (cy, 256, .inl (fun j => nI ((fun _ => 0) j)))), (q44_24, .inr (2, [.ref (q5), .ref (q8_49_24), .ref (q17_49_24), .ref (q26_49_24), .ref (q34_49_24)])), (q8_49_24, .inl (cy, 256, .inl (fun j => nI ((fun _ => 0) j)))), (q17_49_24, .inl (cy, 256, .inl (fun j => nI ((fun _ => 0) j)))), (q26_49_24, .inl (cy, 256, .inl (fun j => nI ((fun _ => 0) j)))), (q34_49_24, .inl (cy, 121, .inl (fun j => nI ((fun _ => 0) j)))), (q31, .inr (1, [.ref (q5), .ref (q37_39), .int (nI (0)), .int (nI (0)), .int (nI (30)), .int (nI (80)), .int (nI (0))])), (q37_39, .inr (2, [.ref (q5), .ref (q8_42_39), .ref (q17_42_39), .ref (q26_42_39), .ref (q34_42_39)])), (q8_42_39, .inl (cy, 256, .inl (fun j => nI ((fun _ => 0) j)))), (q17_42_39, .inl (cy, 256, .inl (fun j => nI ((fun _ => 0) j)))), (q26_42_39, .inl (cy, 256, .inl (fun j => nI ((fun _ => 0) j)))), (q34_42_39, .inl (cy, 121, .inl (fun j => nI ((fun _ => 0) j))))] := hD
  exact tq_vret C (q5, q7_9, q15_9, q23_9, q16, q8_24, q44_24, q8_49_24, q17_49_24, q26_49_24, q34_49_24, q31, q37_39, q8_42_39, q17_42_39, q26_42_39, q34_42_39) hP hD hS trivial (Nat.le_of_ble_eq_true rfl) (Nat.le_of_ble_eq_true rfl) dX4_init_45
