set_option maxHeartbeats 4000000 in
set_option maxRecDepth 100000 in
theorem law_buddyOf {p : Program} {l : Launch} (hl9 : l.stackTraces = false) {e : Env} {s : State} {m : MethodId} {below : List Frame} {meth : Method} {c : Code} {D : va_G} {cy cq : ClassId} {b N9 i : Nat} {xs : Nat → Int32} {args : Array Value} {Q : State → Prop} {cells slots : Nat} {a bb : Nat → Nat} {oo : Nat} {ws : va_W} {H : Heap} {locs : List Loc} {ls : Array Slot} (C : tq_C p s m meth c "TwinHashTablesLaw" cL_law 7 (some .boolean)) (hN : va_Nc tqISE tqIAE s) (hK : va_K D vwCl (tq_ty2 cy cq) s) (hE : tq_E (fun q : Nat => s.heap.size ≤ q) s s.heap) (hX : va_X b N9 xs s s.heap) (hbl : b < s.heap.size) (hL : N9 ≤ 1536) (hi : i + 2 < N9) (hcells : cells + 1 ≤ 1053) (hslots : slots + 6 ≤ 11515) (hI : INV cy cq a bb oo ws) (hP : va_P D vwCl ws H) (hD : va_D (fun q : Nat => s.heap.size ≤ q) ws) (hS : va_S (fun q : Nat => s.heap.size ≤ q) s.heap H locs) (hl : lv_has ls 7 [(0, .ref b), (1, .ref (a 0)), (2, .ref (bb 0)), (3, .ref oo), (4, .int (nI i))]) (kk : ∀ (ws : va_W) (H : Heap) (locs : List Loc) (ls : Array Slot), INV cy cq a bb oo ws → va_P D vwCl ws H → va_D (fun q : Nat => s.heap.size ≤ q) ws → va_S (fun q : Nat => s.heap.size ≤ q) s.heap H locs → lv_has ls 7 [(0, .ref b), (1, .ref (a 0)), (2, .ref (bb 0)), (3, .ref oo), (4, .int (nI i))] → W p l e room_1 s m args below meth c H locs (cells + 1) (slots + 6) Q (F0 m 1495 ls [])) : W p l e room_1 s m args below meth c H locs cells slots Q (F0 m 892 ls []) := by
  obtain ⟨key, val, ord, tk, cp, efi, ela, eco, ene, ldp, dp, dbl, hlv, spl, mrg, lfi, lla, lco, lne, lev, ptr, llo, lhi, lsp, dep, E, L9, sto, vas, dpt, ext, lin, mov, thr, ov, rfl, hCR, hMR, hMC⟩ := hI
  obtain ⟨hx, hb, hml, hown, hrt, hlk, hT⟩ := id C
  have hK1 : va_K D vwCl (tq_ty cy) s := hK.sub [0] rfl
  have hA : ∀ q : Nat, s.heap.size ≤ q → (fun q : Nat => s.heap.size ≤ q) q := fun _ h => h
  have hbA : ¬ (fun q : Nat => s.heap.size ≤ q) b := Nat.not_le.mpr hbl
  obtain ⟨p1, hp1⟩ : ∃ z, z = xs (nI (i + 1)).toNatClampNeg := ⟨_, rfl⟩
  refine lv_aload_n hx hb dL_law_892 rfl (lv_at hl 1 rfl) ?_
  refine lv_aload_n hx hb dL_law_893 rfl (lv_at hl 0 rfl) ?_
  refine lv_iload hx hb dL_law_894 (lv_at hl 4 rfl) ?_
  refine lv_iconst (v := nI 1) hx hb dL_law_896 (by decide) ?_
  refine tq_iadd C dL_law_897 ?_
  refine va_sld hx hb hX hbl hbA hS (vp_inN (by omega) hL) dL_law_898 ?_
  rw [← hp1]
  refine lv_aload_n hx hb dL_law_899 rfl (lv_at hl 3 rfl) ?_
  refine tq_callI (W3 := fun u => (wZ cy a key val ord tk cp efi ela eco ene ldp dp dbl hlv spl mrg lfi lla lco lne lev ptr llo lhi lsp bb sto vas tk cp llo lhi dpt dp ext dbl hlv spl mrg lin lev ptr lsp mov thr cq oo u)) (wr := [18, 19, 20, 21, 22, 23, 24].filterMap (fun i => (wZ cy a key val ord tk cp efi ela eco ene ldp dp dbl hlv spl mrg lfi lla lco lne lev ptr llo lhi lsp bb sto vas tk cp llo lhi dpt dp ext dbl hlv spl mrg lin lev ptr lsp mov thr cq oo ov)[i]?)) (vx_runSW C.fix (As := [.ref (a 0), .int p1, .ref oo]) (rest := []) (c_L_buddyOf l hl9 D cy cq a key val ord tk cp efi ela eco ene ldp dp dbl hlv spl mrg lfi lla lco lne lev ptr llo lhi lsp oo ov p1 dep E L9 hCR H.size) (tq_cW (n := 3) C ml_L_135 sm_L_buddyOf ini_L cw_L_buddyOf ⟨by decide, by decide, by decide +kernel⟩ ⟨Nat.le_of_ble_eq_true rfl, Nat.le_of_ble_eq_true rfl⟩) ⟨tq_Pl.blind, tq_preL C hN hK hP hD hS hA hE [0, 1, 2, 3, 4, 5, 6, 7, 8, 9, 10, 11, 12, 13, 14, 15, 16, 17, 25] (by decide) rfl⟩ rfl rfl hl.1 rfl (lv_room (Nat.le_of_ble_eq_true rfl)) dL_law_900 ⟨hcells, hslots⟩) hP hD hS hA [0, 1, 2, 3, 4, 5, 6, 7, 8, 9, 10, 11, 12, 13, 14, 15, 16, 17, 25] [18, 19, 20, 21, 22, 23, 24] [7, 8, 9, 10, 11, 12, 13, 14, 15, 16, 17, 18, 19, 20, 21, 22, 23, 24, 0, 1, 2, 3, 4, 5, 6, 25] rfl rfl (by decide) (by decide) (by decide) (fun _ => rfl) (fun k u H locs hw hP hD hS => ?_)
  have hP : va_P D vwCl (wZ cy a key val ord tk cp efi ela eco ene ldp dp dbl hlv spl mrg lfi lla lco lne lev ptr llo lhi lsp bb sto vas tk cp llo lhi dpt dp ext dbl hlv spl mrg lin lev ptr lsp mov thr cq oo u) H := hP
  have hD : va_D (fun q : Nat => s.heap.size ≤ q) (wZ cy a key val ord tk cp efi ela eco ene ldp dp dbl hlv spl mrg lfi lla lco lne lev ptr llo lhi lsp bb sto vas tk cp llo lhi dpt dp ext dbl hlv spl mrg lin lev ptr lsp mov thr cq oo u) := hD
  refine lv_istore (lv' := [(5, .int k), (0, .ref b), (1, .ref (a 0)), (2, .ref (bb 0)), (3, .ref oo), (4, .int (nI i))]) hx hb dL_law_903 hl (by decide) rfl (fun ls hl => ?_)
  refine lv_aload_n hx hb dL_law_905 rfl (lv_at hl 3 rfl) ?_
  refine lv_aload_n hx hb dL_law_906 rfl (lv_at hl 1 rfl) ?_
  refine lv_iload hx hb dL_law_907 (lv_at hl 5 rfl) ?_
  refine lv_iconst (v := nI 1) hx hb dL_law_909 (by decide) ?_
  refine tq_iadd C dL_law_910 ?_
  refine va_sld hx hb hX hbl hbA hS (vp_inN (by omega) hL) dL_law_911 ?_
  rw [← hp1]
  refine tq_callI (W3 := fun v => (wZ cy a key val ord tk cp efi ela eco ene ldp dp dbl hlv spl mrg lfi lla lco lne lev ptr llo lhi lsp bb sto vas tk cp llo lhi dpt dp ext dbl hlv spl mrg lin lev ptr lsp mov v cq oo u)) (wr := [0, 1, 2, 3, 4, 5, 6, 7, 8, 9, 10, 11, 12, 13, 14, 15, 16, 17, 25].filterMap (fun i => (wZ cy a key val ord tk cp efi ela eco ene ldp dp dbl hlv spl mrg lfi lla lco lne lev ptr llo lhi lsp bb sto vas tk cp llo lhi dpt dp ext dbl hlv spl mrg lin lev ptr lsp mov thr cq oo u)[i]?)) (va_runV C.fix (As := [.int p1]) (rest := []) (c_X5_buddyOf l D cy bb sto vas tk cp llo lhi dpt dp ext dbl hlv spl mrg lin lev ptr lsp mov thr p1 (stl key val ord tk) dep E L9 hMR hMC H.size) (tq_cV (n := 1) C ml_L_137 im_X5_buddyOf se_X5_buddyOf ini_X5 cd_X5_buddyOf ⟨by decide, by decide, by decide +kernel⟩ ⟨Nat.le_of_ble_eq_true rfl, Nat.le_of_ble_eq_true rfl⟩) ⟨tq_Pc.blind, va_recv hK hP (ci := 5) (q0 := 18) rfl rfl, tq_preC C hK1 (hP.sub [18, 19, 20, 21, 22, 23, 24] rfl) (hD.sub [18, 19, 20, 21, 22, 23, 24] (by decide) rfl)⟩ rfl rfl hl.1 rfl (lv_room (Nat.le_of_ble_eq_true rfl)) dL_law_912 ⟨hcells, hslots⟩) hP hD hS hA [18, 19, 20, 21, 22, 23, 24] [0, 1, 2, 3, 4, 5, 6, 7, 8, 9, 10, 11, 12, 13, 14, 15, 16, 17, 25] [0, 1, 2, 3, 4, 5, 6, 7, 8, 9, 10, 11, 12, 13, 14, 15, 16, 17, 19, 20, 21, 22, 23, 24, 25, 18] rfl rfl (by decide) (by decide) (by decide) (fun _ => rfl) (fun r2 v H locs hm hP hD hS => ?_)
  have hP : va_P D vwCl (wZ cy a key val ord tk cp efi ela eco ene ldp dp dbl hlv spl mrg lfi lla lco lne lev ptr llo lhi lsp bb sto vas tk cp llo lhi dpt dp ext dbl hlv spl mrg lin lev ptr lsp mov v cq oo u) H := hP
  have hD : va_D (fun q : Nat => s.heap.size ≤ q) (wZ cy a key val ord tk cp efi ela eco ene ldp dp dbl hlv spl mrg lfi lla lco lne lev ptr llo lhi lsp bb sto vas tk cp llo lhi dpt dp ext dbl hlv spl mrg lin lev ptr lsp mov v cq oo u) := hD
  refine lv_istore (lv' := [(6, .int r2), (5, .int k), (0, .ref b), (1, .ref (a 0)), (2, .ref (bb 0)), (3, .ref oo), (4, .int (nI i))]) hx hb dL_law_915 hl (by decide) rfl (fun ls hl => ?_)
  refine lv_aload_n hx hb dL_law_917 rfl (lv_at hl 4 rfl) ?_
  have hq : nI v = k ∧ (k = nI 0 → u 0 = r2.toInt64) := meet_read (X := "java/lang/IndexOutOfBoundsException") (by decide) hw hm meet_ex (ex_uniq (by have := hMC.1.1; have := p8 this; omega) (fun k _ r r2 a b => by
    rcases a with ⟨a1, a2⟩ | ⟨a1, a2, a3⟩ | ⟨a1, a2, a3⟩ <;> rcases b with ⟨b1, b2⟩ | ⟨b1, b2, b3⟩ | ⟨b1, b2, b3⟩
    · rw [a2, b2]
    · omega
    · omega
    · omega
    · rw [a3, b3]
    · exact absurd a2 b2
    · omega
    · exact absurd b2 a2
    · rw [a3, b3]))
  have hq2 : INV cy cq a bb oo (wZ cy a key val ord tk cp efi ela eco ene ldp dp dbl hlv spl mrg lfi lla lco lne lev ptr llo lhi lsp bb sto vas tk cp llo lhi dpt dp ext dbl hlv spl mrg lin lev ptr lsp mov v cq oo u) := ⟨key, val, ord, tk, cp, efi, ela, eco, ene, ldp, dp, dbl, hlv, spl, mrg, lfi, lla, lco, lne, lev, ptr, llo, lhi, lsp, dep, E, L9, sto, vas, dpt, ext, lin, mov, v, u, rfl, hCR, hMR, hMC⟩
  refine tq_callF (va_runV C.fix (As := []) (rest := []) (c_X5_thrown l D cy bb sto vas tk cp llo lhi dpt dp ext dbl hlv spl mrg lin lev ptr lsp mov v  ) (tq_cV (n := 0) C ml_L_84 im_X5_thrown se_X5_thrown ini_X5 cd_X5_thrown ⟨by decide, by decide, by decide +kernel⟩ ⟨Nat.le_of_ble_eq_true rfl, Nat.le_of_ble_eq_true rfl⟩) ⟨tq_Pf.blind, va_recv hK hP (ci := 5) (q0 := 18) rfl rfl, tq_preF C hK1 (hP.sub [18, 19, 20, 21, 22, 23, 24] rfl)⟩ rfl rfl hl.1 rfl (lv_room (Nat.le_of_ble_eq_true rfl)) dL_law_918 ⟨hcells, hslots⟩) (fun r9 hr9 => ?_)
  obtain rfl := hr9
  refine lv_iload hx hb dL_law_921 (lv_at hl 1 rfl) ?_
  refine lv_icmp_eq (tgt := 928) hx hb dL_law_923 (by decide) (fun _ => ?_) (fun h9 => absurd hq.1 h9)
  refine lv_iload hx hb dL_law_928 (lv_at hl 1 rfl) ?_
  refine lv_if_ne (tgt := 945) hx hb dL_law_930 (by decide) (fun _ => ?_) (fun h9 => ?_)
  · refine lv_goto (tgt := 1495) hx hb dL_law_945 (by decide) ?_
    exact kk _ _ _ _ hq2 hP hD hS (lv_sub hl [2, 3, 4, 5, 6] rfl)
  · have h8 : k = nI 0 := by first | exact h9 | exact Classical.not_not.mp h9
    refine lv_aload_n hx hb dL_law_933 rfl (lv_at hl 5 rfl) ?_
    refine lv_iconst (v := nI 0) hx hb dL_law_934 (by decide) ?_
    refine va_lald hx hb hK hP 25 1 rfl rfl tq_in0 dL_law_935 ?_
    rw [show u (nI 0).toNatClampNeg = r2.toInt64 from hq.2 h8]
    refine lv_iload hx hb dL_law_936 (lv_at hl 0 rfl) ?_
    refine lv_i2l (v := r2.toInt64) hx hb dL_law_938 rfl ?_
    refine lv_lcmp0 hx hb dL_law_939 ?_
    refine lv_if_eq (tgt := 945) hx hb dL_law_940 (by decide) (fun _ => ?_) (fun h7 => absurd rfl h7)
    refine lv_goto (tgt := 1495) hx hb dL_law_945 (by decide) ?_
    exact kk _ _ _ _ hq2 hP hD hS (lv_sub hl [2, 3, 4, 5, 6] rfl)
set_option maxHeartbeats 4000000 in
set_option maxRecDepth 100000 in
theorem law_probes {p : Program} {l : Launch} (hl9 : l.stackTraces = false) {e : Env} {s : State} {m : MethodId} {below : List Frame} {meth : Method} {c : Code} {D : va_G} {cy cq : ClassId} {b N9 i : Nat} {xs : Nat → Int32} {args : Array Value} {Q : State → Prop} {cells slots : Nat} {a bb : Nat → Nat} {oo : Nat} {ws : va_W} {H : Heap} {locs : List Loc} {ls : Array Slot} (C : tq_C p s m meth c "TwinHashTablesLaw" cL_law 7 (some .boolean)) (hN : va_Nc tqISE tqIAE s) (hK : va_K D vwCl (tq_ty2 cy cq) s) (hE : tq_E (fun q : Nat => s.heap.size ≤ q) s s.heap) (hX : va_X b N9 xs s s.heap) (hbl : b < s.heap.size) (hL : N9 ≤ 1536) (hi : i + 2 < N9) (hcells : cells + 1 ≤ 1053) (hslots : slots + 6 ≤ 11515) (hI : INV cy cq a bb oo ws) (hP : va_P D vwCl ws H) (hD : va_D (fun q : Nat => s.heap.size ≤ q) ws) (hS : va_S (fun q : Nat => s.heap.size ≤ q) s.heap H locs) (hl : lv_has ls 7 [(0, .ref b), (1, .ref (a 0)), (2, .ref (bb 0)), (3, .ref oo), (4, .int (nI i))]) (kk : ∀ (ws : va_W) (H : Heap) (locs : List Loc) (ls : Array Slot), INV cy cq a bb oo ws → va_P D vwCl ws H → va_D (fun q : Nat => s.heap.size ≤ q) ws → va_S (fun q : Nat => s.heap.size ≤ q) s.heap H locs → lv_has ls 7 [(0, .ref b), (1, .ref (a 0)), (2, .ref (bb 0)), (3, .ref oo), (4, .int (nI i))] → W p l e room_1 s m args below meth c H locs (cells + 1) (slots + 6) Q (F0 m 1495 ls [])) : W p l e room_1 s m args below meth c H locs cells slots Q (F0 m 961 ls []) := by
  obtain ⟨key, val, ord, tk, cp, efi, ela, eco, ene, ldp, dp, dbl, hlv, spl, mrg, lfi, lla, lco, lne, lev, ptr, llo, lhi, lsp, dep, E, L9, sto, vas, dpt, ext, lin, mov, thr, ov, rfl, hCR, hMR, hMC⟩ := hI
  obtain ⟨hx, hb, hml, hown, hrt, hlk, hT⟩ := id C
  have hK1 : va_K D vwCl (tq_ty cy) s := hK.sub [0] rfl
  have hA : ∀ q : Nat, s.heap.size ≤ q → (fun q : Nat => s.heap.size ≤ q) q := fun _ h => h
  have hbA : ¬ (fun q : Nat => s.heap.size ≤ q) b := Nat.not_le.mpr hbl
  obtain ⟨p1, hp1⟩ : ∃ z, z = xs (nI (i + 1)).toNatClampNeg := ⟨_, rfl⟩
  refine lv_aload_n hx hb dL_law_961 rfl (lv_at hl 1 rfl) ?_
  refine lv_aload_n hx hb dL_law_962 rfl (lv_at hl 0 rfl) ?_
  refine lv_iload hx hb dL_law_963 (lv_at hl 4 rfl) ?_
  refine lv_iconst (v := nI 1) hx hb dL_law_965 (by decide) ?_
  refine tq_iadd C dL_law_966 ?_
  refine va_sld hx hb hX hbl hbA hS (vp_inN (by omega) hL) dL_law_967 ?_
  rw [← hp1]
  refine lv_aload_n hx hb dL_law_968 rfl (lv_at hl 3 rfl) ?_
  refine tq_callI (W3 := fun u => (wZ cy a key val ord tk cp efi ela eco ene ldp dp dbl hlv spl mrg lfi lla lco lne lev ptr llo lhi lsp bb sto vas tk cp llo lhi dpt dp ext dbl hlv spl mrg lin lev ptr lsp mov thr cq oo u)) (wr := [18, 19, 20, 21, 22, 23, 24].filterMap (fun i => (wZ cy a key val ord tk cp efi ela eco ene ldp dp dbl hlv spl mrg lfi lla lco lne lev ptr llo lhi lsp bb sto vas tk cp llo lhi dpt dp ext dbl hlv spl mrg lin lev ptr lsp mov thr cq oo ov)[i]?)) (vx_runSW C.fix (As := [.ref (a 0), .int p1, .ref oo]) (rest := []) (c_L_probes l hl9 D cy cq a key val ord tk cp efi ela eco ene ldp dp dbl hlv spl mrg lfi lla lco lne lev ptr llo lhi lsp oo ov p1 dep E L9 hCR H.size) (tq_cW (n := 3) C ml_L_142 sm_L_probes ini_L cw_L_probes ⟨by decide, by decide, by decide +kernel⟩ ⟨Nat.le_of_ble_eq_true rfl, Nat.le_of_ble_eq_true rfl⟩) ⟨tq_Pl.blind, tq_preL C hN hK hP hD hS hA hE [0, 1, 2, 3, 4, 5, 6, 7, 8, 9, 10, 11, 12, 13, 14, 15, 16, 17, 25] (by decide) rfl⟩ rfl rfl hl.1 rfl (lv_room (Nat.le_of_ble_eq_true rfl)) dL_law_969 ⟨hcells, hslots⟩) hP hD hS hA [0, 1, 2, 3, 4, 5, 6, 7, 8, 9, 10, 11, 12, 13, 14, 15, 16, 17, 25] [18, 19, 20, 21, 22, 23, 24] [7, 8, 9, 10, 11, 12, 13, 14, 15, 16, 17, 18, 19, 20, 21, 22, 23, 24, 0, 1, 2, 3, 4, 5, 6, 25] rfl rfl (by decide) (by decide) (by decide) (fun _ => rfl) (fun k u H locs hw hP hD hS => ?_)
  have hP : va_P D vwCl (wZ cy a key val ord tk cp efi ela eco ene ldp dp dbl hlv spl mrg lfi lla lco lne lev ptr llo lhi lsp bb sto vas tk cp llo lhi dpt dp ext dbl hlv spl mrg lin lev ptr lsp mov thr cq oo u) H := hP
  have hD : va_D (fun q : Nat => s.heap.size ≤ q) (wZ cy a key val ord tk cp efi ela eco ene ldp dp dbl hlv spl mrg lfi lla lco lne lev ptr llo lhi lsp bb sto vas tk cp llo lhi dpt dp ext dbl hlv spl mrg lin lev ptr lsp mov thr cq oo u) := hD
  refine lv_istore (lv' := [(5, .int k), (0, .ref b), (1, .ref (a 0)), (2, .ref (bb 0)), (3, .ref oo), (4, .int (nI i))]) hx hb dL_law_972 hl (by decide) rfl (fun ls hl => ?_)
  refine lv_aload_n hx hb dL_law_974 rfl (lv_at hl 3 rfl) ?_
  refine lv_aload_n hx hb dL_law_975 rfl (lv_at hl 1 rfl) ?_
  refine lv_iload hx hb dL_law_976 (lv_at hl 5 rfl) ?_
  refine lv_iconst (v := nI 1) hx hb dL_law_978 (by decide) ?_
  refine tq_iadd C dL_law_979 ?_
  refine va_sld hx hb hX hbl hbA hS (vp_inN (by omega) hL) dL_law_980 ?_
  rw [← hp1]
  refine tq_callI (W3 := fun v => (wZ cy a key val ord tk cp efi ela eco ene ldp dp dbl hlv spl mrg lfi lla lco lne lev ptr llo lhi lsp bb sto vas tk cp llo lhi dpt dp ext dbl hlv spl mrg lin lev ptr lsp mov v cq oo u)) (wr := [0, 1, 2, 3, 4, 5, 6, 7, 8, 9, 10, 11, 12, 13, 14, 15, 16, 17, 25].filterMap (fun i => (wZ cy a key val ord tk cp efi ela eco ene ldp dp dbl hlv spl mrg lfi lla lco lne lev ptr llo lhi lsp bb sto vas tk cp llo lhi dpt dp ext dbl hlv spl mrg lin lev ptr lsp mov thr cq oo u)[i]?)) (va_runV C.fix (As := [.int p1]) (rest := []) (c_X5_probes l D cy bb sto vas tk cp llo lhi dpt dp ext dbl hlv spl mrg lin lev ptr lsp mov thr p1 (stl key val ord tk) dep E L9 hMR hMC H.size) (tq_cV (n := 1) C ml_L_144 im_X5_probes se_X5_probes ini_X5 cd_X5_probes ⟨by decide, by decide, by decide +kernel⟩ ⟨Nat.le_of_ble_eq_true rfl, Nat.le_of_ble_eq_true rfl⟩) ⟨tq_Pc.blind, va_recv hK hP (ci := 5) (q0 := 18) rfl rfl, tq_preC C hK1 (hP.sub [18, 19, 20, 21, 22, 23, 24] rfl) (hD.sub [18, 19, 20, 21, 22, 23, 24] (by decide) rfl)⟩ rfl rfl hl.1 rfl (lv_room (Nat.le_of_ble_eq_true rfl)) dL_law_981 ⟨hcells, hslots⟩) hP hD hS hA [18, 19, 20, 21, 22, 23, 24] [0, 1, 2, 3, 4, 5, 6, 7, 8, 9, 10, 11, 12, 13, 14, 15, 16, 17, 25] [0, 1, 2, 3, 4, 5, 6, 7, 8, 9, 10, 11, 12, 13, 14, 15, 16, 17, 19, 20, 21, 22, 23, 24, 25, 18] rfl rfl (by decide) (by decide) (by decide) (fun _ => rfl) (fun r2 v H locs hm hP hD hS => ?_)
  have hP : va_P D vwCl (wZ cy a key val ord tk cp efi ela eco ene ldp dp dbl hlv spl mrg lfi lla lco lne lev ptr llo lhi lsp bb sto vas tk cp llo lhi dpt dp ext dbl hlv spl mrg lin lev ptr lsp mov v cq oo u) H := hP
  have hD : va_D (fun q : Nat => s.heap.size ≤ q) (wZ cy a key val ord tk cp efi ela eco ene ldp dp dbl hlv spl mrg lfi lla lco lne lev ptr llo lhi lsp bb sto vas tk cp llo lhi dpt dp ext dbl hlv spl mrg lin lev ptr lsp mov v cq oo u) := hD
  refine lv_istore (lv' := [(6, .int r2), (5, .int k), (0, .ref b), (1, .ref (a 0)), (2, .ref (bb 0)), (3, .ref oo), (4, .int (nI i))]) hx hb dL_law_984 hl (by decide) rfl (fun ls hl => ?_)
  refine lv_aload_n hx hb dL_law_986 rfl (lv_at hl 4 rfl) ?_
  have hq : nI v = k ∧ (k = nI 0 → u 0 = r2.toInt64) := meet_read (X := tqIAE) (by decide) hw hm meet_key (ex_uniq (by decide) (fun _ _ => prP_uniq))
  have hq2 : INV cy cq a bb oo (wZ cy a key val ord tk cp efi ela eco ene ldp dp dbl hlv spl mrg lfi lla lco lne lev ptr llo lhi lsp bb sto vas tk cp llo lhi dpt dp ext dbl hlv spl mrg lin lev ptr lsp mov v cq oo u) := ⟨key, val, ord, tk, cp, efi, ela, eco, ene, ldp, dp, dbl, hlv, spl, mrg, lfi, lla, lco, lne, lev, ptr, llo, lhi, lsp, dep, E, L9, sto, vas, dpt, ext, lin, mov, v, u, rfl, hCR, hMR, hMC⟩
  refine tq_callF (va_runV C.fix (As := []) (rest := []) (c_X5_thrown l D cy bb sto vas tk cp llo lhi dpt dp ext dbl hlv spl mrg lin lev ptr lsp mov v  ) (tq_cV (n := 0) C ml_L_84 im_X5_thrown se_X5_thrown ini_X5 cd_X5_thrown ⟨by decide, by decide, by decide +kernel⟩ ⟨Nat.le_of_ble_eq_true rfl, Nat.le_of_ble_eq_true rfl⟩) ⟨tq_Pf.blind, va_recv hK hP (ci := 5) (q0 := 18) rfl rfl, tq_preF C hK1 (hP.sub [18, 19, 20, 21, 22, 23, 24] rfl)⟩ rfl rfl hl.1 rfl (lv_room (Nat.le_of_ble_eq_true rfl)) dL_law_987 ⟨hcells, hslots⟩) (fun r9 hr9 => ?_)
  obtain rfl := hr9
  refine lv_iload hx hb dL_law_990 (lv_at hl 1 rfl) ?_
  refine lv_icmp_eq (tgt := 997) hx hb dL_law_992 (by decide) (fun _ => ?_) (fun h9 => absurd hq.1 h9)
  refine lv_iload hx hb dL_law_997 (lv_at hl 1 rfl) ?_
  refine lv_if_ne (tgt := 1014) hx hb dL_law_999 (by decide) (fun _ => ?_) (fun h9 => ?_)
  · refine lv_goto (tgt := 1495) hx hb dL_law_1014 (by decide) ?_
    exact kk _ _ _ _ hq2 hP hD hS (lv_sub hl [2, 3, 4, 5, 6] rfl)
  · have h8 : k = nI 0 := by first | exact h9 | exact Classical.not_not.mp h9
    refine lv_aload_n hx hb dL_law_1002 rfl (lv_at hl 5 rfl) ?_
    refine lv_iconst (v := nI 0) hx hb dL_law_1003 (by decide) ?_
    refine va_lald hx hb hK hP 25 1 rfl rfl tq_in0 dL_law_1004 ?_
    rw [show u (nI 0).toNatClampNeg = r2.toInt64 from hq.2 h8]
    refine lv_iload hx hb dL_law_1005 (lv_at hl 0 rfl) ?_
    refine lv_i2l (v := r2.toInt64) hx hb dL_law_1007 rfl ?_
    refine lv_lcmp0 hx hb dL_law_1008 ?_
    refine lv_if_eq (tgt := 1014) hx hb dL_law_1009 (by decide) (fun _ => ?_) (fun h7 => absurd rfl h7)
    refine lv_goto (tgt := 1495) hx hb dL_law_1014 (by decide) ?_
    exact kk _ _ _ _ hq2 hP hD hS (lv_sub hl [2, 3, 4, 5, 6] rfl)
set_option maxHeartbeats 4000000 in
set_option maxRecDepth 100000 in
theorem law_slotAt {p : Program} {l : Launch} (hl9 : l.stackTraces = false) {e : Env} {s : State} {m : MethodId} {below : List Frame} {meth : Method} {c : Code} {D : va_G} {cy cq : ClassId} {b N9 i : Nat} {xs : Nat → Int32} {args : Array Value} {Q : State → Prop} {cells slots : Nat} {a bb : Nat → Nat} {oo : Nat} {ws : va_W} {H : Heap} {locs : List Loc} {ls : Array Slot} (C : tq_C p s m meth c "TwinHashTablesLaw" cL_law 7 (some .boolean)) (hN : va_Nc tqISE tqIAE s) (hK : va_K D vwCl (tq_ty2 cy cq) s) (hE : tq_E (fun q : Nat => s.heap.size ≤ q) s s.heap) (hX : va_X b N9 xs s s.heap) (hbl : b < s.heap.size) (hL : N9 ≤ 1536) (hi : i + 2 < N9) (hcells : cells + 1 ≤ 1053) (hslots : slots + 6 ≤ 11515) (hI : INV cy cq a bb oo ws) (hP : va_P D vwCl ws H) (hD : va_D (fun q : Nat => s.heap.size ≤ q) ws) (hS : va_S (fun q : Nat => s.heap.size ≤ q) s.heap H locs) (hl : lv_has ls 7 [(0, .ref b), (1, .ref (a 0)), (2, .ref (bb 0)), (3, .ref oo), (4, .int (nI i))]) (kk : ∀ (ws : va_W) (H : Heap) (locs : List Loc) (ls : Array Slot), INV cy cq a bb oo ws → va_P D vwCl ws H → va_D (fun q : Nat => s.heap.size ≤ q) ws → va_S (fun q : Nat => s.heap.size ≤ q) s.heap H locs → lv_has ls 7 [(0, .ref b), (1, .ref (a 0)), (2, .ref (bb 0)), (3, .ref oo), (4, .int (nI i))] → W p l e room_1 s m args below meth c H locs (cells + 1) (slots + 6) Q (F0 m 1495 ls [])) : W p l e room_1 s m args below meth c H locs cells slots Q (F0 m 1069 ls []) := by
  obtain ⟨key, val, ord, tk, cp, efi, ela, eco, ene, ldp, dp, dbl, hlv, spl, mrg, lfi, lla, lco, lne, lev, ptr, llo, lhi, lsp, dep, E, L9, sto, vas, dpt, ext, lin, mov, thr, ov, rfl, hCR, hMR, hMC⟩ := hI
  obtain ⟨hx, hb, hml, hown, hrt, hlk, hT⟩ := id C
  have hK1 : va_K D vwCl (tq_ty cy) s := hK.sub [0] rfl
  have hA : ∀ q : Nat, s.heap.size ≤ q → (fun q : Nat => s.heap.size ≤ q) q := fun _ h => h
  have hbA : ¬ (fun q : Nat => s.heap.size ≤ q) b := Nat.not_le.mpr hbl
  obtain ⟨p1, hp1⟩ : ∃ z, z = xs (nI (i + 1)).toNatClampNeg := ⟨_, rfl⟩
  refine lv_aload_n hx hb dL_law_1069 rfl (lv_at hl 1 rfl) ?_
  refine lv_aload_n hx hb dL_law_1070 rfl (lv_at hl 0 rfl) ?_
  refine lv_iload hx hb dL_law_1071 (lv_at hl 4 rfl) ?_
  refine lv_iconst (v := nI 1) hx hb dL_law_1073 (by decide) ?_
  refine tq_iadd C dL_law_1074 ?_
  refine va_sld hx hb hX hbl hbA hS (vp_inN (by omega) hL) dL_law_1075 ?_
  rw [← hp1]
  refine lv_aload_n hx hb dL_law_1076 rfl (lv_at hl 3 rfl) ?_
  refine tq_callI (W3 := fun u => (wZ cy a key val ord tk cp efi ela eco ene ldp dp dbl hlv spl mrg lfi lla lco lne lev ptr llo lhi lsp bb sto vas tk cp llo lhi dpt dp ext dbl hlv spl mrg lin lev ptr lsp mov thr cq oo u)) (wr := [18, 19, 20, 21, 22, 23, 24].filterMap (fun i => (wZ cy a key val ord tk cp efi ela eco ene ldp dp dbl hlv spl mrg lfi lla lco lne lev ptr llo lhi lsp bb sto vas tk cp llo lhi dpt dp ext dbl hlv spl mrg lin lev ptr lsp mov thr cq oo ov)[i]?)) (vx_runSW C.fix (As := [.ref (a 0), .int p1, .ref oo]) (rest := []) (c_L_slotAt l hl9 D cy cq a key val ord tk cp efi ela eco ene ldp dp dbl hlv spl mrg lfi lla lco lne lev ptr llo lhi lsp oo ov p1 dep E L9 hCR H.size) (tq_cW (n := 3) C ml_L_161 sm_L_slotAt ini_L cw_L_slotAt ⟨by decide, by decide, by decide +kernel⟩ ⟨Nat.le_of_ble_eq_true rfl, Nat.le_of_ble_eq_true rfl⟩) ⟨tq_Pl.blind, tq_preL C hN hK hP hD hS hA hE [0, 1, 2, 3, 4, 5, 6, 7, 8, 9, 10, 11, 12, 13, 14, 15, 16, 17, 25] (by decide) rfl⟩ rfl rfl hl.1 rfl (lv_room (Nat.le_of_ble_eq_true rfl)) dL_law_1077 ⟨hcells, hslots⟩) hP hD hS hA [0, 1, 2, 3, 4, 5, 6, 7, 8, 9, 10, 11, 12, 13, 14, 15, 16, 17, 25] [18, 19, 20, 21, 22, 23, 24] [7, 8, 9, 10, 11, 12, 13, 14, 15, 16, 17, 18, 19, 20, 21, 22, 23, 24, 0, 1, 2, 3, 4, 5, 6, 25] rfl rfl (by decide) (by decide) (by decide) (fun _ => rfl) (fun k u H locs hw hP hD hS => ?_)
  have hP : va_P D vwCl (wZ cy a key val ord tk cp efi ela eco ene ldp dp dbl hlv spl mrg lfi lla lco lne lev ptr llo lhi lsp bb sto vas tk cp llo lhi dpt dp ext dbl hlv spl mrg lin lev ptr lsp mov thr cq oo u) H := hP
  have hD : va_D (fun q : Nat => s.heap.size ≤ q) (wZ cy a key val ord tk cp efi ela eco ene ldp dp dbl hlv spl mrg lfi lla lco lne lev ptr llo lhi lsp bb sto vas tk cp llo lhi dpt dp ext dbl hlv spl mrg lin lev ptr lsp mov thr cq oo u) := hD
  refine lv_istore (lv' := [(5, .int k), (0, .ref b), (1, .ref (a 0)), (2, .ref (bb 0)), (3, .ref oo), (4, .int (nI i))]) hx hb dL_law_1080 hl (by decide) rfl (fun ls hl => ?_)
  refine lv_aload_n hx hb dL_law_1082 rfl (lv_at hl 3 rfl) ?_
  refine lv_aload_n hx hb dL_law_1083 rfl (lv_at hl 1 rfl) ?_
  refine lv_iload hx hb dL_law_1084 (lv_at hl 5 rfl) ?_
  refine lv_iconst (v := nI 1) hx hb dL_law_1086 (by decide) ?_
  refine tq_iadd C dL_law_1087 ?_
  refine va_sld hx hb hX hbl hbA hS (vp_inN (by omega) hL) dL_law_1088 ?_
  rw [← hp1]
  refine tq_callI (W3 := fun v => (wZ cy a key val ord tk cp efi ela eco ene ldp dp dbl hlv spl mrg lfi lla lco lne lev ptr llo lhi lsp bb sto vas tk cp llo lhi dpt dp ext dbl hlv spl mrg lin lev ptr lsp mov v cq oo u)) (wr := [0, 1, 2, 3, 4, 5, 6, 7, 8, 9, 10, 11, 12, 13, 14, 15, 16, 17, 25].filterMap (fun i => (wZ cy a key val ord tk cp efi ela eco ene ldp dp dbl hlv spl mrg lfi lla lco lne lev ptr llo lhi lsp bb sto vas tk cp llo lhi dpt dp ext dbl hlv spl mrg lin lev ptr lsp mov thr cq oo u)[i]?)) (va_runV C.fix (As := [.int p1]) (rest := []) (c_X5_slotAt l D cy bb sto vas tk cp llo lhi dpt dp ext dbl hlv spl mrg lin lev ptr lsp mov thr p1 (stl key val ord tk) dep E L9 hMR hMC H.size) (tq_cV (n := 1) C ml_L_163 im_X5_slotAt se_X5_slotAt ini_X5 cd_X5_slotAt ⟨by decide, by decide, by decide +kernel⟩ ⟨Nat.le_of_ble_eq_true rfl, Nat.le_of_ble_eq_true rfl⟩) ⟨tq_Pc.blind, va_recv hK hP (ci := 5) (q0 := 18) rfl rfl, tq_preC C hK1 (hP.sub [18, 19, 20, 21, 22, 23, 24] rfl) (hD.sub [18, 19, 20, 21, 22, 23, 24] (by decide) rfl)⟩ rfl rfl hl.1 rfl (lv_room (Nat.le_of_ble_eq_true rfl)) dL_law_1089 ⟨hcells, hslots⟩) hP hD hS hA [18, 19, 20, 21, 22, 23, 24] [0, 1, 2, 3, 4, 5, 6, 7, 8, 9, 10, 11, 12, 13, 14, 15, 16, 17, 25] [0, 1, 2, 3, 4, 5, 6, 7, 8, 9, 10, 11, 12, 13, 14, 15, 16, 17, 19, 20, 21, 22, 23, 24, 25, 18] rfl rfl (by decide) (by decide) (by decide) (fun _ => rfl) (fun r2 v H locs hm hP hD hS => ?_)
  have hP : va_P D vwCl (wZ cy a key val ord tk cp efi ela eco ene ldp dp dbl hlv spl mrg lfi lla lco lne lev ptr llo lhi lsp bb sto vas tk cp llo lhi dpt dp ext dbl hlv spl mrg lin lev ptr lsp mov v cq oo u) H := hP
  have hD : va_D (fun q : Nat => s.heap.size ≤ q) (wZ cy a key val ord tk cp efi ela eco ene ldp dp dbl hlv spl mrg lfi lla lco lne lev ptr llo lhi lsp bb sto vas tk cp llo lhi dpt dp ext dbl hlv spl mrg lin lev ptr lsp mov v cq oo u) := hD
  refine lv_istore (lv' := [(6, .int r2), (5, .int k), (0, .ref b), (1, .ref (a 0)), (2, .ref (bb 0)), (3, .ref oo), (4, .int (nI i))]) hx hb dL_law_1092 hl (by decide) rfl (fun ls hl => ?_)
  refine lv_aload_n hx hb dL_law_1094 rfl (lv_at hl 4 rfl) ?_
  have hq : nI v = k ∧ (k = nI 0 → u 0 = r2.toInt64) := meet_read (X := tqIAE) (by decide) hw hm meet_ex (ex_fun (by decide))
  have hq2 : INV cy cq a bb oo (wZ cy a key val ord tk cp efi ela eco ene ldp dp dbl hlv spl mrg lfi lla lco lne lev ptr llo lhi lsp bb sto vas tk cp llo lhi dpt dp ext dbl hlv spl mrg lin lev ptr lsp mov v cq oo u) := ⟨key, val, ord, tk, cp, efi, ela, eco, ene, ldp, dp, dbl, hlv, spl, mrg, lfi, lla, lco, lne, lev, ptr, llo, lhi, lsp, dep, E, L9, sto, vas, dpt, ext, lin, mov, v, u, rfl, hCR, hMR, hMC⟩
  refine tq_callF (va_runV C.fix (As := []) (rest := []) (c_X5_thrown l D cy bb sto vas tk cp llo lhi dpt dp ext dbl hlv spl mrg lin lev ptr lsp mov v  ) (tq_cV (n := 0) C ml_L_84 im_X5_thrown se_X5_thrown ini_X5 cd_X5_thrown ⟨by decide, by decide, by decide +kernel⟩ ⟨Nat.le_of_ble_eq_true rfl, Nat.le_of_ble_eq_true rfl⟩) ⟨tq_Pf.blind, va_recv hK hP (ci := 5) (q0 := 18) rfl rfl, tq_preF C hK1 (hP.sub [18, 19, 20, 21, 22, 23, 24] rfl)⟩ rfl rfl hl.1 rfl (lv_room (Nat.le_of_ble_eq_true rfl)) dL_law_1095 ⟨hcells, hslots⟩) (fun r9 hr9 => ?_)
  obtain rfl := hr9
  refine lv_iload hx hb dL_law_1098 (lv_at hl 1 rfl) ?_
  refine lv_icmp_eq (tgt := 1105) hx hb dL_law_1100 (by decide) (fun _ => ?_) (fun h9 => absurd hq.1 h9)
  refine lv_iload hx hb dL_law_1105 (lv_at hl 1 rfl) ?_
  refine lv_if_ne (tgt := 1122) hx hb dL_law_1107 (by decide) (fun _ => ?_) (fun h9 => ?_)
  · refine lv_goto (tgt := 1495) hx hb dL_law_1122 (by decide) ?_
    exact kk _ _ _ _ hq2 hP hD hS (lv_sub hl [2, 3, 4, 5, 6] rfl)
  · have h8 : k = nI 0 := by first | exact h9 | exact Classical.not_not.mp h9
    refine lv_aload_n hx hb dL_law_1110 rfl (lv_at hl 5 rfl) ?_
    refine lv_iconst (v := nI 0) hx hb dL_law_1111 (by decide) ?_
    refine va_lald hx hb hK hP 25 1 rfl rfl tq_in0 dL_law_1112 ?_
    rw [show u (nI 0).toNatClampNeg = r2.toInt64 from hq.2 h8]
    refine lv_iload hx hb dL_law_1113 (lv_at hl 0 rfl) ?_
    refine lv_i2l (v := r2.toInt64) hx hb dL_law_1115 rfl ?_
    refine lv_lcmp0 hx hb dL_law_1116 ?_
    refine lv_if_eq (tgt := 1122) hx hb dL_law_1117 (by decide) (fun _ => ?_) (fun h7 => absurd rfl h7)
    refine lv_goto (tgt := 1495) hx hb dL_law_1122 (by decide) ?_
    exact kk _ _ _ _ hq2 hP hD hS (lv_sub hl [2, 3, 4, 5, 6] rfl)
set_option maxHeartbeats 4000000 in
set_option maxRecDepth 100000 in
theorem law_nextCursor {p : Program} {l : Launch} (hl9 : l.stackTraces = false) {e : Env} {s : State} {m : MethodId} {below : List Frame} {meth : Method} {c : Code} {D : va_G} {cy cq : ClassId} {b N9 i : Nat} {xs : Nat → Int32} {args : Array Value} {Q : State → Prop} {cells slots : Nat} {a bb : Nat → Nat} {oo : Nat} {ws : va_W} {H : Heap} {locs : List Loc} {ls : Array Slot} (C : tq_C p s m meth c "TwinHashTablesLaw" cL_law 7 (some .boolean)) (hN : va_Nc tqISE tqIAE s) (hK : va_K D vwCl (tq_ty2 cy cq) s) (hE : tq_E (fun q : Nat => s.heap.size ≤ q) s s.heap) (hX : va_X b N9 xs s s.heap) (hbl : b < s.heap.size) (hL : N9 ≤ 1536) (hi : i + 2 < N9) (hcells : cells + 1 ≤ 1053) (hslots : slots + 6 ≤ 11515) (hI : INV cy cq a bb oo ws) (hP : va_P D vwCl ws H) (hD : va_D (fun q : Nat => s.heap.size ≤ q) ws) (hS : va_S (fun q : Nat => s.heap.size ≤ q) s.heap H locs) (hl : lv_has ls 7 [(0, .ref b), (1, .ref (a 0)), (2, .ref (bb 0)), (3, .ref oo), (4, .int (nI i))]) (kk : ∀ (ws : va_W) (H : Heap) (locs : List Loc) (ls : Array Slot), INV cy cq a bb oo ws → va_P D vwCl ws H → va_D (fun q : Nat => s.heap.size ≤ q) ws → va_S (fun q : Nat => s.heap.size ≤ q) s.heap H locs → lv_has ls 7 [(0, .ref b), (1, .ref (a 0)), (2, .ref (bb 0)), (3, .ref oo), (4, .int (nI i))] → W p l e room_1 s m args below meth c H locs (cells + 1) (slots + 6) Q (F0 m 1495 ls [])) : W p l e room_1 s m args below meth c H locs cells slots Q (F0 m 1125 ls []) := by
  obtain ⟨key, val, ord, tk, cp, efi, ela, eco, ene, ldp, dp, dbl, hlv, spl, mrg, lfi, lla, lco, lne, lev, ptr, llo, lhi, lsp, dep, E, L9, sto, vas, dpt, ext, lin, mov, thr, ov, rfl, hCR, hMR, hMC⟩ := hI
  obtain ⟨hx, hb, hml, hown, hrt, hlk, hT⟩ := id C
  have hK1 : va_K D vwCl (tq_ty cy) s := hK.sub [0] rfl
  have hA : ∀ q : Nat, s.heap.size ≤ q → (fun q : Nat => s.heap.size ≤ q) q := fun _ h => h
  have hbA : ¬ (fun q : Nat => s.heap.size ≤ q) b := Nat.not_le.mpr hbl
  obtain ⟨p1, hp1⟩ : ∃ z, z = xs (nI (i + 1)).toNatClampNeg := ⟨_, rfl⟩
  refine lv_aload_n hx hb dL_law_1125 rfl (lv_at hl 1 rfl) ?_
  refine lv_aload_n hx hb dL_law_1126 rfl (lv_at hl 0 rfl) ?_
  refine lv_iload hx hb dL_law_1127 (lv_at hl 4 rfl) ?_
  refine lv_iconst (v := nI 1) hx hb dL_law_1129 (by decide) ?_
  refine tq_iadd C dL_law_1130 ?_
  refine va_sld hx hb hX hbl hbA hS (vp_inN (by omega) hL) dL_law_1131 ?_
  rw [← hp1]
  refine lv_aload_n hx hb dL_law_1132 rfl (lv_at hl 3 rfl) ?_
  refine tq_callI (W3 := fun u => (wZ cy a key val ord tk cp efi ela eco ene ldp dp dbl hlv spl mrg lfi lla lco lne lev ptr llo lhi lsp bb sto vas tk cp llo lhi dpt dp ext dbl hlv spl mrg lin lev ptr lsp mov thr cq oo u)) (wr := [18, 19, 20, 21, 22, 23, 24].filterMap (fun i => (wZ cy a key val ord tk cp efi ela eco ene ldp dp dbl hlv spl mrg lfi lla lco lne lev ptr llo lhi lsp bb sto vas tk cp llo lhi dpt dp ext dbl hlv spl mrg lin lev ptr lsp mov thr cq oo ov)[i]?)) (vx_runSW C.fix (As := [.ref (a 0), .int p1, .ref oo]) (rest := []) (c_L_nextCursor l hl9 D cy cq a key val ord tk cp efi ela eco ene ldp dp dbl hlv spl mrg lfi lla lco lne lev ptr llo lhi lsp oo ov p1 dep E L9 hCR H.size) (tq_cW (n := 3) C ml_L_164 sm_L_nextCursor ini_L cw_L_nextCursor ⟨by decide, by decide, by decide +kernel⟩ ⟨Nat.le_of_ble_eq_true rfl, Nat.le_of_ble_eq_true rfl⟩) ⟨tq_Pl.blind, tq_preL C hN hK hP hD hS hA hE [0, 1, 2, 3, 4, 5, 6, 7, 8, 9, 10, 11, 12, 13, 14, 15, 16, 17, 25] (by decide) rfl⟩ rfl rfl hl.1 rfl (lv_room (Nat.le_of_ble_eq_true rfl)) dL_law_1133 ⟨hcells, hslots⟩) hP hD hS hA [0, 1, 2, 3, 4, 5, 6, 7, 8, 9, 10, 11, 12, 13, 14, 15, 16, 17, 25] [18, 19, 20, 21, 22, 23, 24] [7, 8, 9, 10, 11, 12, 13, 14, 15, 16, 17, 18, 19, 20, 21, 22, 23, 24, 0, 1, 2, 3, 4, 5, 6, 25] rfl rfl (by decide) (by decide) (by decide) (fun _ => rfl) (fun k u H locs hw hP hD hS => ?_)
  have hP : va_P D vwCl (wZ cy a key val ord tk cp efi ela eco ene ldp dp dbl hlv spl mrg lfi lla lco lne lev ptr llo lhi lsp bb sto vas tk cp llo lhi dpt dp ext dbl hlv spl mrg lin lev ptr lsp mov thr cq oo u) H := hP
  have hD : va_D (fun q : Nat => s.heap.size ≤ q) (wZ cy a key val ord tk cp efi ela eco ene ldp dp dbl hlv spl mrg lfi lla lco lne lev ptr llo lhi lsp bb sto vas tk cp llo lhi dpt dp ext dbl hlv spl mrg lin lev ptr lsp mov thr cq oo u) := hD
  refine lv_istore (lv' := [(5, .int k), (0, .ref b), (1, .ref (a 0)), (2, .ref (bb 0)), (3, .ref oo), (4, .int (nI i))]) hx hb dL_law_1136 hl (by decide) rfl (fun ls hl => ?_)
  refine lv_aload_n hx hb dL_law_1138 rfl (lv_at hl 3 rfl) ?_
  refine lv_aload_n hx hb dL_law_1139 rfl (lv_at hl 1 rfl) ?_
  refine lv_iload hx hb dL_law_1140 (lv_at hl 5 rfl) ?_
  refine lv_iconst (v := nI 1) hx hb dL_law_1142 (by decide) ?_
  refine tq_iadd C dL_law_1143 ?_
  refine va_sld hx hb hX hbl hbA hS (vp_inN (by omega) hL) dL_law_1144 ?_
  rw [← hp1]
  refine tq_callI (W3 := fun v => (wZ cy a key val ord tk cp efi ela eco ene ldp dp dbl hlv spl mrg lfi lla lco lne lev ptr llo lhi lsp bb sto vas tk cp llo lhi dpt dp ext dbl hlv spl mrg lin lev ptr lsp mov v cq oo u)) (wr := [0, 1, 2, 3, 4, 5, 6, 7, 8, 9, 10, 11, 12, 13, 14, 15, 16, 17, 25].filterMap (fun i => (wZ cy a key val ord tk cp efi ela eco ene ldp dp dbl hlv spl mrg lfi lla lco lne lev ptr llo lhi lsp bb sto vas tk cp llo lhi dpt dp ext dbl hlv spl mrg lin lev ptr lsp mov thr cq oo u)[i]?)) (va_runV C.fix (As := [.int p1]) (rest := []) (c_X5_nextCursor l D cy bb sto vas tk cp llo lhi dpt dp ext dbl hlv spl mrg lin lev ptr lsp mov thr p1 (stl key val ord tk) dep E L9 hMR hMC H.size) (tq_cV (n := 1) C ml_L_166 im_X5_nextCursor se_X5_nextCursor ini_X5 cd_X5_nextCursor ⟨by decide, by decide, by decide +kernel⟩ ⟨Nat.le_of_ble_eq_true rfl, Nat.le_of_ble_eq_true rfl⟩) ⟨tq_Pc.blind, va_recv hK hP (ci := 5) (q0 := 18) rfl rfl, tq_preC C hK1 (hP.sub [18, 19, 20, 21, 22, 23, 24] rfl) (hD.sub [18, 19, 20, 21, 22, 23, 24] (by decide) rfl)⟩ rfl rfl hl.1 rfl (lv_room (Nat.le_of_ble_eq_true rfl)) dL_law_1145 ⟨hcells, hslots⟩) hP hD hS hA [18, 19, 20, 21, 22, 23, 24] [0, 1, 2, 3, 4, 5, 6, 7, 8, 9, 10, 11, 12, 13, 14, 15, 16, 17, 25] [0, 1, 2, 3, 4, 5, 6, 7, 8, 9, 10, 11, 12, 13, 14, 15, 16, 17, 19, 20, 21, 22, 23, 24, 25, 18] rfl rfl (by decide) (by decide) (by decide) (fun _ => rfl) (fun r2 v H locs hm hP hD hS => ?_)
  have hP : va_P D vwCl (wZ cy a key val ord tk cp efi ela eco ene ldp dp dbl hlv spl mrg lfi lla lco lne lev ptr llo lhi lsp bb sto vas tk cp llo lhi dpt dp ext dbl hlv spl mrg lin lev ptr lsp mov v cq oo u) H := hP
  have hD : va_D (fun q : Nat => s.heap.size ≤ q) (wZ cy a key val ord tk cp efi ela eco ene ldp dp dbl hlv spl mrg lfi lla lco lne lev ptr llo lhi lsp bb sto vas tk cp llo lhi dpt dp ext dbl hlv spl mrg lin lev ptr lsp mov v cq oo u) := hD
  refine lv_istore (lv' := [(6, .int r2), (5, .int k), (0, .ref b), (1, .ref (a 0)), (2, .ref (bb 0)), (3, .ref oo), (4, .int (nI i))]) hx hb dL_law_1148 hl (by decide) rfl (fun ls hl => ?_)
  refine lv_aload_n hx hb dL_law_1150 rfl (lv_at hl 4 rfl) ?_
  have hq : nI v = k ∧ (k = nI 0 → u 0 = r2.toInt64) := meet_read (X := tqIAE) (by decide) hw hm meet_ex (ex_fun (by decide))
  have hq2 : INV cy cq a bb oo (wZ cy a key val ord tk cp efi ela eco ene ldp dp dbl hlv spl mrg lfi lla lco lne lev ptr llo lhi lsp bb sto vas tk cp llo lhi dpt dp ext dbl hlv spl mrg lin lev ptr lsp mov v cq oo u) := ⟨key, val, ord, tk, cp, efi, ela, eco, ene, ldp, dp, dbl, hlv, spl, mrg, lfi, lla, lco, lne, lev, ptr, llo, lhi, lsp, dep, E, L9, sto, vas, dpt, ext, lin, mov, v, u, rfl, hCR, hMR, hMC⟩
  refine tq_callF (va_runV C.fix (As := []) (rest := []) (c_X5_thrown l D cy bb sto vas tk cp llo lhi dpt dp ext dbl hlv spl mrg lin lev ptr lsp mov v  ) (tq_cV (n := 0) C ml_L_84 im_X5_thrown se_X5_thrown ini_X5 cd_X5_thrown ⟨by decide, by decide, by decide +kernel⟩ ⟨Nat.le_of_ble_eq_true rfl, Nat.le_of_ble_eq_true rfl⟩) ⟨tq_Pf.blind, va_recv hK hP (ci := 5) (q0 := 18) rfl rfl, tq_preF C hK1 (hP.sub [18, 19, 20, 21, 22, 23, 24] rfl)⟩ rfl rfl hl.1 rfl (lv_room (Nat.le_of_ble_eq_true rfl)) dL_law_1151 ⟨hcells, hslots⟩) (fun r9 hr9 => ?_)
  obtain rfl := hr9
  refine lv_iload hx hb dL_law_1154 (lv_at hl 1 rfl) ?_
  refine lv_icmp_eq (tgt := 1161) hx hb dL_law_1156 (by decide) (fun _ => ?_) (fun h9 => absurd hq.1 h9)
  refine lv_iload hx hb dL_law_1161 (lv_at hl 1 rfl) ?_
  refine lv_if_ne (tgt := 1178) hx hb dL_law_1163 (by decide) (fun _ => ?_) (fun h9 => ?_)
  · refine lv_goto (tgt := 1495) hx hb dL_law_1178 (by decide) ?_
    exact kk _ _ _ _ hq2 hP hD hS (lv_sub hl [2, 3, 4, 5, 6] rfl)
  · have h8 : k = nI 0 := by first | exact h9 | exact Classical.not_not.mp h9
    refine lv_aload_n hx hb dL_law_1166 rfl (lv_at hl 5 rfl) ?_
    refine lv_iconst (v := nI 0) hx hb dL_law_1167 (by decide) ?_
    refine va_lald hx hb hK hP 25 1 rfl rfl tq_in0 dL_law_1168 ?_
    rw [show u (nI 0).toNatClampNeg = r2.toInt64 from hq.2 h8]
    refine lv_iload hx hb dL_law_1169 (lv_at hl 0 rfl) ?_
    refine lv_i2l (v := r2.toInt64) hx hb dL_law_1171 rfl ?_
    refine lv_lcmp0 hx hb dL_law_1172 ?_
    refine lv_if_eq (tgt := 1178) hx hb dL_law_1173 (by decide) (fun _ => ?_) (fun h7 => absurd rfl h7)
    refine lv_goto (tgt := 1495) hx hb dL_law_1178 (by decide) ?_
    exact kk _ _ _ _ hq2 hP hD hS (lv_sub hl [2, 3, 4, 5, 6] rfl)
set_option maxHeartbeats 4000000 in
set_option maxRecDepth 100000 in
theorem law_linearSize {p : Program} {l : Launch} (hl9 : l.stackTraces = false) {e : Env} {s : State} {m : MethodId} {below : List Frame} {meth : Method} {c : Code} {D : va_G} {cy cq : ClassId} {b N9 i : Nat} {xs : Nat → Int32} {args : Array Value} {Q : State → Prop} {cells slots : Nat} {a bb : Nat → Nat} {oo : Nat} {ws : va_W} {H : Heap} {locs : List Loc} {ls : Array Slot} (C : tq_C p s m meth c "TwinHashTablesLaw" cL_law 7 (some .boolean)) (hN : va_Nc tqISE tqIAE s) (hK : va_K D vwCl (tq_ty2 cy cq) s) (hE : tq_E (fun q : Nat => s.heap.size ≤ q) s s.heap) (hX : va_X b N9 xs s s.heap) (hbl : b < s.heap.size) (hL : N9 ≤ 1536) (hi : i + 2 < N9) (hcells : cells + 1 ≤ 1053) (hslots : slots + 6 ≤ 11515) (hI : INV cy cq a bb oo ws) (hP : va_P D vwCl ws H) (hD : va_D (fun q : Nat => s.heap.size ≤ q) ws) (hS : va_S (fun q : Nat => s.heap.size ≤ q) s.heap H locs) (hl : lv_has ls 7 [(0, .ref b), (1, .ref (a 0)), (2, .ref (bb 0)), (3, .ref oo), (4, .int (nI i))]) (kk : ∀ (ws : va_W) (H : Heap) (locs : List Loc) (ls : Array Slot), INV cy cq a bb oo ws → va_P D vwCl ws H → va_D (fun q : Nat => s.heap.size ≤ q) ws → va_S (fun q : Nat => s.heap.size ≤ q) s.heap H locs → lv_has ls 7 [(0, .ref b), (1, .ref (a 0)), (2, .ref (bb 0)), (3, .ref oo), (4, .int (nI i))] → W p l e room_1 s m args below meth c H locs (cells + 1) (slots + 6) Q (F0 m 1495 ls [])) : W p l e room_1 s m args below meth c H locs cells slots Q (F0 m 1220 ls []) := by
  obtain ⟨key, val, ord, tk, cp, efi, ela, eco, ene, ldp, dp, dbl, hlv, spl, mrg, lfi, lla, lco, lne, lev, ptr, llo, lhi, lsp, dep, E, L9, sto, vas, dpt, ext, lin, mov, thr, ov, rfl, hCR, hMR, hMC⟩ := hI
  obtain ⟨hx, hb, hml, hown, hrt, hlk, hT⟩ := id C
  have hK1 : va_K D vwCl (tq_ty cy) s := hK.sub [0] rfl
  have hA : ∀ q : Nat, s.heap.size ≤ q → (fun q : Nat => s.heap.size ≤ q) q := fun _ h => h
  have hbA : ¬ (fun q : Nat => s.heap.size ≤ q) b := Nat.not_le.mpr hbl
  obtain ⟨p1, hp1⟩ : ∃ z, z = xs (nI (i + 1)).toNatClampNeg := ⟨_, rfl⟩
  refine lv_aload_n hx hb dL_law_1220 rfl (lv_at hl 1 rfl) ?_
  refine lv_aload_n hx hb dL_law_1221 rfl (lv_at hl 0 rfl) ?_
  refine lv_iload hx hb dL_law_1222 (lv_at hl 4 rfl) ?_
  refine lv_iconst (v := nI 1) hx hb dL_law_1224 (by decide) ?_
  refine tq_iadd C dL_law_1225 ?_
  refine va_sld hx hb hX hbl hbA hS (vp_inN (by omega) hL) dL_law_1226 ?_
  rw [← hp1]
  refine lv_aload_n hx hb dL_law_1227 rfl (lv_at hl 3 rfl) ?_
  refine tq_callI (W3 := fun u => (wZ cy a key val ord tk cp efi ela eco ene ldp dp dbl hlv spl mrg lfi lla lco lne lev ptr llo lhi lsp bb sto vas tk cp llo lhi dpt dp ext dbl hlv spl mrg lin lev ptr lsp mov thr cq oo u)) (wr := [18, 19, 20, 21, 22, 23, 24].filterMap (fun i => (wZ cy a key val ord tk cp efi ela eco ene ldp dp dbl hlv spl mrg lfi lla lco lne lev ptr llo lhi lsp bb sto vas tk cp llo lhi dpt dp ext dbl hlv spl mrg lin lev ptr lsp mov thr cq oo ov)[i]?)) (vx_runSW C.fix (As := [.ref (a 0), .int p1, .ref oo]) (rest := []) (c_L_linearSize l hl9 D cy cq a key val ord tk cp efi ela eco ene ldp dp dbl hlv spl mrg lfi lla lco lne lev ptr llo lhi lsp oo ov p1 dep E L9 hCR H.size) (tq_cW (n := 3) C ml_L_179 sm_L_linearSize ini_L cw_L_linearSize ⟨by decide, by decide, by decide +kernel⟩ ⟨Nat.le_of_ble_eq_true rfl, Nat.le_of_ble_eq_true rfl⟩) ⟨tq_Pl.blind, tq_preL C hN hK hP hD hS hA hE [0, 1, 2, 3, 4, 5, 6, 7, 8, 9, 10, 11, 12, 13, 14, 15, 16, 17, 25] (by decide) rfl⟩ rfl rfl hl.1 rfl (lv_room (Nat.le_of_ble_eq_true rfl)) dL_law_1228 ⟨hcells, hslots⟩) hP hD hS hA [0, 1, 2, 3, 4, 5, 6, 7, 8, 9, 10, 11, 12, 13, 14, 15, 16, 17, 25] [18, 19, 20, 21, 22, 23, 24] [7, 8, 9, 10, 11, 12, 13, 14, 15, 16, 17, 18, 19, 20, 21, 22, 23, 24, 0, 1, 2, 3, 4, 5, 6, 25] rfl rfl (by decide) (by decide) (by decide) (fun _ => rfl) (fun k u H locs hw hP hD hS => ?_)
  have hP : va_P D vwCl (wZ cy a key val ord tk cp efi ela eco ene ldp dp dbl hlv spl mrg lfi lla lco lne lev ptr llo lhi lsp bb sto vas tk cp llo lhi dpt dp ext dbl hlv spl mrg lin lev ptr lsp mov thr cq oo u) H := hP
  have hD : va_D (fun q : Nat => s.heap.size ≤ q) (wZ cy a key val ord tk cp efi ela eco ene ldp dp dbl hlv spl mrg lfi lla lco lne lev ptr llo lhi lsp bb sto vas tk cp llo lhi dpt dp ext dbl hlv spl mrg lin lev ptr lsp mov thr cq oo u) := hD
  refine lv_istore (lv' := [(5, .int k), (0, .ref b), (1, .ref (a 0)), (2, .ref (bb 0)), (3, .ref oo), (4, .int (nI i))]) hx hb dL_law_1231 hl (by decide) rfl (fun ls hl => ?_)
  refine lv_aload_n hx hb dL_law_1233 rfl (lv_at hl 3 rfl) ?_
  refine lv_aload_n hx hb dL_law_1234 rfl (lv_at hl 1 rfl) ?_
  refine lv_iload hx hb dL_law_1235 (lv_at hl 5 rfl) ?_
  refine lv_iconst (v := nI 1) hx hb dL_law_1237 (by decide) ?_
  refine tq_iadd C dL_law_1238 ?_
  refine va_sld hx hb hX hbl hbA hS (vp_inN (by omega) hL) dL_law_1239 ?_
  rw [← hp1]
  refine tq_callI (W3 := fun v => (wZ cy a key val ord tk cp efi ela eco ene ldp dp dbl hlv spl mrg lfi lla lco lne lev ptr llo lhi lsp bb sto vas tk cp llo lhi dpt dp ext dbl hlv spl mrg lin lev ptr lsp mov v cq oo u)) (wr := [0, 1, 2, 3, 4, 5, 6, 7, 8, 9, 10, 11, 12, 13, 14, 15, 16, 17, 25].filterMap (fun i => (wZ cy a key val ord tk cp efi ela eco ene ldp dp dbl hlv spl mrg lfi lla lco lne lev ptr llo lhi lsp bb sto vas tk cp llo lhi dpt dp ext dbl hlv spl mrg lin lev ptr lsp mov thr cq oo u)[i]?)) (va_runV C.fix (As := [.int p1]) (rest := []) (c_X5_linearSize l D cy bb sto vas tk cp llo lhi dpt dp ext dbl hlv spl mrg lin lev ptr lsp mov thr p1 (stl key val ord tk) dep E L9 hMR hMC H.size) (tq_cV (n := 1) C ml_L_181 im_X5_linearSize se_X5_linearSize ini_X5 cd_X5_linearSize ⟨by decide, by decide, by decide +kernel⟩ ⟨Nat.le_of_ble_eq_true rfl, Nat.le_of_ble_eq_true rfl⟩) ⟨tq_Pc.blind, va_recv hK hP (ci := 5) (q0 := 18) rfl rfl, tq_preC C hK1 (hP.sub [18, 19, 20, 21, 22, 23, 24] rfl) (hD.sub [18, 19, 20, 21, 22, 23, 24] (by decide) rfl)⟩ rfl rfl hl.1 rfl (lv_room (Nat.le_of_ble_eq_true rfl)) dL_law_1240 ⟨hcells, hslots⟩) hP hD hS hA [18, 19, 20, 21, 22, 23, 24] [0, 1, 2, 3, 4, 5, 6, 7, 8, 9, 10, 11, 12, 13, 14, 15, 16, 17, 25] [0, 1, 2, 3, 4, 5, 6, 7, 8, 9, 10, 11, 12, 13, 14, 15, 16, 17, 19, 20, 21, 22, 23, 24, 25, 18] rfl rfl (by decide) (by decide) (by decide) (fun _ => rfl) (fun r2 v H locs hm hP hD hS => ?_)
  have hP : va_P D vwCl (wZ cy a key val ord tk cp efi ela eco ene ldp dp dbl hlv spl mrg lfi lla lco lne lev ptr llo lhi lsp bb sto vas tk cp llo lhi dpt dp ext dbl hlv spl mrg lin lev ptr lsp mov v cq oo u) H := hP
  have hD : va_D (fun q : Nat => s.heap.size ≤ q) (wZ cy a key val ord tk cp efi ela eco ene ldp dp dbl hlv spl mrg lfi lla lco lne lev ptr llo lhi lsp bb sto vas tk cp llo lhi dpt dp ext dbl hlv spl mrg lin lev ptr lsp mov v cq oo u) := hD
  refine lv_istore (lv' := [(6, .int r2), (5, .int k), (0, .ref b), (1, .ref (a 0)), (2, .ref (bb 0)), (3, .ref oo), (4, .int (nI i))]) hx hb dL_law_1243 hl (by decide) rfl (fun ls hl => ?_)
  refine lv_aload_n hx hb dL_law_1245 rfl (lv_at hl 4 rfl) ?_
  have hq : nI v = k ∧ (k = nI 0 → u 0 = r2.toInt64) := meet_read (X := "java/lang/IndexOutOfBoundsException") (by decide) hw hm meet_ex (ex_fun (by have := hMC.2.1.2; omega))
  have hq2 : INV cy cq a bb oo (wZ cy a key val ord tk cp efi ela eco ene ldp dp dbl hlv spl mrg lfi lla lco lne lev ptr llo lhi lsp bb sto vas tk cp llo lhi dpt dp ext dbl hlv spl mrg lin lev ptr lsp mov v cq oo u) := ⟨key, val, ord, tk, cp, efi, ela, eco, ene, ldp, dp, dbl, hlv, spl, mrg, lfi, lla, lco, lne, lev, ptr, llo, lhi, lsp, dep, E, L9, sto, vas, dpt, ext, lin, mov, v, u, rfl, hCR, hMR, hMC⟩
  refine tq_callF (va_runV C.fix (As := []) (rest := []) (c_X5_thrown l D cy bb sto vas tk cp llo lhi dpt dp ext dbl hlv spl mrg lin lev ptr lsp mov v  ) (tq_cV (n := 0) C ml_L_84 im_X5_thrown se_X5_thrown ini_X5 cd_X5_thrown ⟨by decide, by decide, by decide +kernel⟩ ⟨Nat.le_of_ble_eq_true rfl, Nat.le_of_ble_eq_true rfl⟩) ⟨tq_Pf.blind, va_recv hK hP (ci := 5) (q0 := 18) rfl rfl, tq_preF C hK1 (hP.sub [18, 19, 20, 21, 22, 23, 24] rfl)⟩ rfl rfl hl.1 rfl (lv_room (Nat.le_of_ble_eq_true rfl)) dL_law_1246 ⟨hcells, hslots⟩) (fun r9 hr9 => ?_)
  obtain rfl := hr9
  refine lv_iload hx hb dL_law_1249 (lv_at hl 1 rfl) ?_
  refine lv_icmp_eq (tgt := 1256) hx hb dL_law_1251 (by decide) (fun _ => ?_) (fun h9 => absurd hq.1 h9)
  refine lv_iload hx hb dL_law_1256 (lv_at hl 1 rfl) ?_
  refine lv_if_ne (tgt := 1273) hx hb dL_law_1258 (by decide) (fun _ => ?_) (fun h9 => ?_)
  · refine lv_goto (tgt := 1495) hx hb dL_law_1273 (by decide) ?_
    exact kk _ _ _ _ hq2 hP hD hS (lv_sub hl [2, 3, 4, 5, 6] rfl)
  · have h8 : k = nI 0 := by first | exact h9 | exact Classical.not_not.mp h9
    refine lv_aload_n hx hb dL_law_1261 rfl (lv_at hl 5 rfl) ?_
    refine lv_iconst (v := nI 0) hx hb dL_law_1262 (by decide) ?_
    refine va_lald hx hb hK hP 25 1 rfl rfl tq_in0 dL_law_1263 ?_
    rw [show u (nI 0).toNatClampNeg = r2.toInt64 from hq.2 h8]
    refine lv_iload hx hb dL_law_1264 (lv_at hl 0 rfl) ?_
    refine lv_i2l (v := r2.toInt64) hx hb dL_law_1266 rfl ?_
    refine lv_lcmp0 hx hb dL_law_1267 ?_
    refine lv_if_eq (tgt := 1273) hx hb dL_law_1268 (by decide) (fun _ => ?_) (fun h7 => absurd rfl h7)
    refine lv_goto (tgt := 1495) hx hb dL_law_1273 (by decide) ?_
    exact kk _ _ _ _ hq2 hP hD hS (lv_sub hl [2, 3, 4, 5, 6] rfl)
set_option maxHeartbeats 4000000 in
set_option maxRecDepth 100000 in
theorem law_linearKeyAt {p : Program} {l : Launch} (hl9 : l.stackTraces = false) {e : Env} {s : State} {m : MethodId} {below : List Frame} {meth : Method} {c : Code} {D : va_G} {cy cq : ClassId} {b N9 i : Nat} {xs : Nat → Int32} {args : Array Value} {Q : State → Prop} {cells slots : Nat} {a bb : Nat → Nat} {oo : Nat} {ws : va_W} {H : Heap} {locs : List Loc} {ls : Array Slot} (C : tq_C p s m meth c "TwinHashTablesLaw" cL_law 7 (some .boolean)) (hN : va_Nc tqISE tqIAE s) (hK : va_K D vwCl (tq_ty2 cy cq) s) (hE : tq_E (fun q : Nat => s.heap.size ≤ q) s s.heap) (hX : va_X b N9 xs s s.heap) (hbl : b < s.heap.size) (hL : N9 ≤ 1536) (hi : i + 2 < N9) (hcells : cells + 1 ≤ 1053) (hslots : slots + 6 ≤ 11515) (hI : INV cy cq a bb oo ws) (hP : va_P D vwCl ws H) (hD : va_D (fun q : Nat => s.heap.size ≤ q) ws) (hS : va_S (fun q : Nat => s.heap.size ≤ q) s.heap H locs) (hl : lv_has ls 7 [(0, .ref b), (1, .ref (a 0)), (2, .ref (bb 0)), (3, .ref oo), (4, .int (nI i))]) (kk : ∀ (ws : va_W) (H : Heap) (locs : List Loc) (ls : Array Slot), INV cy cq a bb oo ws → va_P D vwCl ws H → va_D (fun q : Nat => s.heap.size ≤ q) ws → va_S (fun q : Nat => s.heap.size ≤ q) s.heap H locs → lv_has ls 7 [(0, .ref b), (1, .ref (a 0)), (2, .ref (bb 0)), (3, .ref oo), (4, .int (nI i))] → W p l e room_1 s m args below meth c H locs (cells + 1) (slots + 6) Q (F0 m 1495 ls [])) : W p l e room_1 s m args below meth c H locs cells slots Q (F0 m 1276 ls []) := by
  obtain ⟨key, val, ord, tk, cp, efi, ela, eco, ene, ldp, dp, dbl, hlv, spl, mrg, lfi, lla, lco, lne, lev, ptr, llo, lhi, lsp, dep, E, L9, sto, vas, dpt, ext, lin, mov, thr, ov, rfl, hCR, hMR, hMC⟩ := hI
  obtain ⟨hx, hb, hml, hown, hrt, hlk, hT⟩ := id C
  have hK1 : va_K D vwCl (tq_ty cy) s := hK.sub [0] rfl
  have hA : ∀ q : Nat, s.heap.size ≤ q → (fun q : Nat => s.heap.size ≤ q) q := fun _ h => h
  have hbA : ¬ (fun q : Nat => s.heap.size ≤ q) b := Nat.not_le.mpr hbl
  obtain ⟨p1, hp1⟩ : ∃ z, z = xs (nI (i + 1)).toNatClampNeg := ⟨_, rfl⟩
  obtain ⟨p2, hp2⟩ : ∃ z, z = xs (nI (i + 2)).toNatClampNeg := ⟨_, rfl⟩
  refine lv_aload_n hx hb dL_law_1276 rfl (lv_at hl 1 rfl) ?_
  refine lv_aload_n hx hb dL_law_1277 rfl (lv_at hl 0 rfl) ?_
  refine lv_iload hx hb dL_law_1278 (lv_at hl 4 rfl) ?_
  refine lv_iconst (v := nI 1) hx hb dL_law_1280 (by decide) ?_
  refine tq_iadd C dL_law_1281 ?_
  refine va_sld hx hb hX hbl hbA hS (vp_inN (by omega) hL) dL_law_1282 ?_
  rw [← hp1]
  refine lv_aload_n hx hb dL_law_1283 rfl (lv_at hl 0 rfl) ?_
  refine lv_iload hx hb dL_law_1284 (lv_at hl 4 rfl) ?_
  refine lv_iconst (v := nI 2) hx hb dL_law_1286 (by decide) ?_
  refine tq_iadd C dL_law_1287 ?_
  refine va_sld hx hb hX hbl hbA hS (vp_inN (by omega) hL) dL_law_1288 ?_
  rw [← hp2]
  refine lv_aload_n hx hb dL_law_1289 rfl (lv_at hl 3 rfl) ?_
  refine tq_callI (W3 := fun u => (wZ cy a key val ord tk cp efi ela eco ene ldp dp dbl hlv spl mrg lfi lla lco lne lev ptr llo lhi lsp bb sto vas tk cp llo lhi dpt dp ext dbl hlv spl mrg lin lev ptr lsp mov thr cq oo u)) (wr := [18, 19, 20, 21, 22, 23, 24].filterMap (fun i => (wZ cy a key val ord tk cp efi ela eco ene ldp dp dbl hlv spl mrg lfi lla lco lne lev ptr llo lhi lsp bb sto vas tk cp llo lhi dpt dp ext dbl hlv spl mrg lin lev ptr lsp mov thr cq oo ov)[i]?)) (vx_runSW C.fix (As := [.ref (a 0), .int p1, .int p2, .ref oo]) (rest := []) (c_L_linearKeyAt l hl9 D cy cq a key val ord tk cp efi ela eco ene ldp dp dbl hlv spl mrg lfi lla lco lne lev ptr llo lhi lsp oo ov p1 p2 dep E L9 hCR H.size) (tq_cW (n := 4) C ml_L_182 sm_L_linearKeyAt ini_L cw_L_linearKeyAt ⟨by decide, by decide, by decide +kernel⟩ ⟨Nat.le_of_ble_eq_true rfl, Nat.le_of_ble_eq_true rfl⟩) ⟨tq_Pl.blind, tq_preL C hN hK hP hD hS hA hE [0, 1, 2, 3, 4, 5, 6, 7, 8, 9, 10, 11, 12, 13, 14, 15, 16, 17, 25] (by decide) rfl⟩ rfl rfl hl.1 rfl (lv_room (Nat.le_of_ble_eq_true rfl)) dL_law_1290 ⟨hcells, hslots⟩) hP hD hS hA [0, 1, 2, 3, 4, 5, 6, 7, 8, 9, 10, 11, 12, 13, 14, 15, 16, 17, 25] [18, 19, 20, 21, 22, 23, 24] [7, 8, 9, 10, 11, 12, 13, 14, 15, 16, 17, 18, 19, 20, 21, 22, 23, 24, 0, 1, 2, 3, 4, 5, 6, 25] rfl rfl (by decide) (by decide) (by decide) (fun _ => rfl) (fun k u H locs hw hP hD hS => ?_)
  have hP : va_P D vwCl (wZ cy a key val ord tk cp efi ela eco ene ldp dp dbl hlv spl mrg lfi lla lco lne lev ptr llo lhi lsp bb sto vas tk cp llo lhi dpt dp ext dbl hlv spl mrg lin lev ptr lsp mov thr cq oo u) H := hP
  have hD : va_D (fun q : Nat => s.heap.size ≤ q) (wZ cy a key val ord tk cp efi ela eco ene ldp dp dbl hlv spl mrg lfi lla lco lne lev ptr llo lhi lsp bb sto vas tk cp llo lhi dpt dp ext dbl hlv spl mrg lin lev ptr lsp mov thr cq oo u) := hD
  refine lv_istore (lv' := [(5, .int k), (0, .ref b), (1, .ref (a 0)), (2, .ref (bb 0)), (3, .ref oo), (4, .int (nI i))]) hx hb dL_law_1293 hl (by decide) rfl (fun ls hl => ?_)
  refine lv_aload_n hx hb dL_law_1295 rfl (lv_at hl 3 rfl) ?_
  refine lv_aload_n hx hb dL_law_1296 rfl (lv_at hl 1 rfl) ?_
  refine lv_iload hx hb dL_law_1297 (lv_at hl 5 rfl) ?_
  refine lv_iconst (v := nI 1) hx hb dL_law_1299 (by decide) ?_
  refine tq_iadd C dL_law_1300 ?_
  refine va_sld hx hb hX hbl hbA hS (vp_inN (by omega) hL) dL_law_1301 ?_
  rw [← hp1]
  refine lv_aload_n hx hb dL_law_1302 rfl (lv_at hl 1 rfl) ?_
  refine lv_iload hx hb dL_law_1303 (lv_at hl 5 rfl) ?_
  refine lv_iconst (v := nI 2) hx hb dL_law_1305 (by decide) ?_
  refine tq_iadd C dL_law_1306 ?_
  refine va_sld hx hb hX hbl hbA hS (vp_inN (by omega) hL) dL_law_1307 ?_
  rw [← hp2]
  refine tq_callI (W3 := fun v => (wZ cy a key val ord tk cp efi ela eco ene ldp dp dbl hlv spl mrg lfi lla lco lne lev ptr llo lhi lsp bb sto vas tk cp llo lhi dpt dp ext dbl hlv spl mrg lin lev ptr lsp mov v cq oo u)) (wr := [0, 1, 2, 3, 4, 5, 6, 7, 8, 9, 10, 11, 12, 13, 14, 15, 16, 17, 25].filterMap (fun i => (wZ cy a key val ord tk cp efi ela eco ene ldp dp dbl hlv spl mrg lfi lla lco lne lev ptr llo lhi lsp bb sto vas tk cp llo lhi dpt dp ext dbl hlv spl mrg lin lev ptr lsp mov thr cq oo u)[i]?)) (va_runV C.fix (As := [.int p1, .int p2]) (rest := []) (c_X5_linearKeyAt l D cy bb sto vas tk cp llo lhi dpt dp ext dbl hlv spl mrg lin lev ptr lsp mov thr p1 p2 (stl key val ord tk) dep E L9 hMR hMC H.size) (tq_cV (n := 2) C ml_L_184 im_X5_linearKeyAt se_X5_linearKeyAt ini_X5 cd_X5_linearKeyAt ⟨by decide, by decide, by decide +kernel⟩ ⟨Nat.le_of_ble_eq_true rfl, Nat.le_of_ble_eq_true rfl⟩) ⟨tq_Pc.blind, va_recv hK hP (ci := 5) (q0 := 18) rfl rfl, tq_preC C hK1 (hP.sub [18, 19, 20, 21, 22, 23, 24] rfl) (hD.sub [18, 19, 20, 21, 22, 23, 24] (by decide) rfl)⟩ rfl rfl hl.1 rfl (lv_room (Nat.le_of_ble_eq_true rfl)) dL_law_1308 ⟨hcells, hslots⟩) hP hD hS hA [18, 19, 20, 21, 22, 23, 24] [0, 1, 2, 3, 4, 5, 6, 7, 8, 9, 10, 11, 12, 13, 14, 15, 16, 17, 25] [0, 1, 2, 3, 4, 5, 6, 7, 8, 9, 10, 11, 12, 13, 14, 15, 16, 17, 19, 20, 21, 22, 23, 24, 25, 18] rfl rfl (by decide) (by decide) (by decide) (fun _ => rfl) (fun r2 v H locs hm hP hD hS => ?_)
  have hP : va_P D vwCl (wZ cy a key val ord tk cp efi ela eco ene ldp dp dbl hlv spl mrg lfi lla lco lne lev ptr llo lhi lsp bb sto vas tk cp llo lhi dpt dp ext dbl hlv spl mrg lin lev ptr lsp mov v cq oo u) H := hP
  have hD : va_D (fun q : Nat => s.heap.size ≤ q) (wZ cy a key val ord tk cp efi ela eco ene ldp dp dbl hlv spl mrg lfi lla lco lne lev ptr llo lhi lsp bb sto vas tk cp llo lhi dpt dp ext dbl hlv spl mrg lin lev ptr lsp mov v cq oo u) := hD
  refine lv_istore (lv' := [(6, .int r2), (5, .int k), (0, .ref b), (1, .ref (a 0)), (2, .ref (bb 0)), (3, .ref oo), (4, .int (nI i))]) hx hb dL_law_1311 hl (by decide) rfl (fun ls hl => ?_)
  refine lv_aload_n hx hb dL_law_1313 rfl (lv_at hl 4 rfl) ?_
  have hq : nI v = k ∧ (k = nI 0 → u 0 = r2.toInt64) := meet_read (X := "java/lang/IndexOutOfBoundsException") (by decide) hw hm meet_ex2 (ex_uniq (by have := hMC.2.1.2; omega) (fun _ _ => at_uniq (by unfold lnB; exact Nat.le_trans (List.length_filter_le _ _) (by rw [← hMR.2.2.1]; have := hMR.2.2.2.1; omega))))
  have hq2 : INV cy cq a bb oo (wZ cy a key val ord tk cp efi ela eco ene ldp dp dbl hlv spl mrg lfi lla lco lne lev ptr llo lhi lsp bb sto vas tk cp llo lhi dpt dp ext dbl hlv spl mrg lin lev ptr lsp mov v cq oo u) := ⟨key, val, ord, tk, cp, efi, ela, eco, ene, ldp, dp, dbl, hlv, spl, mrg, lfi, lla, lco, lne, lev, ptr, llo, lhi, lsp, dep, E, L9, sto, vas, dpt, ext, lin, mov, v, u, rfl, hCR, hMR, hMC⟩
  refine tq_callF (va_runV C.fix (As := []) (rest := []) (c_X5_thrown l D cy bb sto vas tk cp llo lhi dpt dp ext dbl hlv spl mrg lin lev ptr lsp mov v  ) (tq_cV (n := 0) C ml_L_84 im_X5_thrown se_X5_thrown ini_X5 cd_X5_thrown ⟨by decide, by decide, by decide +kernel⟩ ⟨Nat.le_of_ble_eq_true rfl, Nat.le_of_ble_eq_true rfl⟩) ⟨tq_Pf.blind, va_recv hK hP (ci := 5) (q0 := 18) rfl rfl, tq_preF C hK1 (hP.sub [18, 19, 20, 21, 22, 23, 24] rfl)⟩ rfl rfl hl.1 rfl (lv_room (Nat.le_of_ble_eq_true rfl)) dL_law_1314 ⟨hcells, hslots⟩) (fun r9 hr9 => ?_)
  obtain rfl := hr9
  refine lv_iload hx hb dL_law_1317 (lv_at hl 1 rfl) ?_
  refine lv_icmp_eq (tgt := 1324) hx hb dL_law_1319 (by decide) (fun _ => ?_) (fun h9 => absurd hq.1 h9)
  refine lv_iload hx hb dL_law_1324 (lv_at hl 1 rfl) ?_
  refine lv_if_ne (tgt := 1341) hx hb dL_law_1326 (by decide) (fun _ => ?_) (fun h9 => ?_)
  · refine lv_goto (tgt := 1495) hx hb dL_law_1341 (by decide) ?_
    exact kk _ _ _ _ hq2 hP hD hS (lv_sub hl [2, 3, 4, 5, 6] rfl)
  · have h8 : k = nI 0 := by first | exact h9 | exact Classical.not_not.mp h9
    refine lv_aload_n hx hb dL_law_1329 rfl (lv_at hl 5 rfl) ?_
    refine lv_iconst (v := nI 0) hx hb dL_law_1330 (by decide) ?_
    refine va_lald hx hb hK hP 25 1 rfl rfl tq_in0 dL_law_1331 ?_
    rw [show u (nI 0).toNatClampNeg = r2.toInt64 from hq.2 h8]
    refine lv_iload hx hb dL_law_1332 (lv_at hl 0 rfl) ?_
    refine lv_i2l (v := r2.toInt64) hx hb dL_law_1334 rfl ?_
    refine lv_lcmp0 hx hb dL_law_1335 ?_
    refine lv_if_eq (tgt := 1341) hx hb dL_law_1336 (by decide) (fun _ => ?_) (fun h7 => absurd rfl h7)
    refine lv_goto (tgt := 1495) hx hb dL_law_1341 (by decide) ?_
    exact kk _ _ _ _ hq2 hP hD hS (lv_sub hl [2, 3, 4, 5, 6] rfl)
set_option maxHeartbeats 4000000 in
set_option maxRecDepth 100000 in
theorem law_linearBucketOf {p : Program} {l : Launch} (hl9 : l.stackTraces = false) {e : Env} {s : State} {m : MethodId} {below : List Frame} {meth : Method} {c : Code} {D : va_G} {cy cq : ClassId} {b N9 i : Nat} {xs : Nat → Int32} {args : Array Value} {Q : State → Prop} {cells slots : Nat} {a bb : Nat → Nat} {oo : Nat} {ws : va_W} {H : Heap} {locs : List Loc} {ls : Array Slot} (C : tq_C p s m meth c "TwinHashTablesLaw" cL_law 7 (some .boolean)) (hN : va_Nc tqISE tqIAE s) (hK : va_K D vwCl (tq_ty2 cy cq) s) (hE : tq_E (fun q : Nat => s.heap.size ≤ q) s s.heap) (hX : va_X b N9 xs s s.heap) (hbl : b < s.heap.size) (hL : N9 ≤ 1536) (hi : i + 2 < N9) (hcells : cells + 1 ≤ 1053) (hslots : slots + 6 ≤ 11515) (hI : INV cy cq a bb oo ws) (hP : va_P D vwCl ws H) (hD : va_D (fun q : Nat => s.heap.size ≤ q) ws) (hS : va_S (fun q : Nat => s.heap.size ≤ q) s.heap H locs) (hl : lv_has ls 7 [(0, .ref b), (1, .ref (a 0)), (2, .ref (bb 0)), (3, .ref oo), (4, .int (nI i))]) (kk : ∀ (ws : va_W) (H : Heap) (locs : List Loc) (ls : Array Slot), INV cy cq a bb oo ws → va_P D vwCl ws H → va_D (fun q : Nat => s.heap.size ≤ q) ws → va_S (fun q : Nat => s.heap.size ≤ q) s.heap H locs → lv_has ls 7 [(0, .ref b), (1, .ref (a 0)), (2, .ref (bb 0)), (3, .ref oo), (4, .int (nI i))] → W p l e room_1 s m args below meth c H locs (cells + 1) (slots + 6) Q (F0 m 1495 ls [])) : W p l e room_1 s m args below meth c H locs cells slots Q (F0 m 1344 ls []) := by
  obtain ⟨key, val, ord, tk, cp, efi, ela, eco, ene, ldp, dp, dbl, hlv, spl, mrg, lfi, lla, lco, lne, lev, ptr, llo, lhi, lsp, dep, E, L9, sto, vas, dpt, ext, lin, mov, thr, ov, rfl, hCR, hMR, hMC⟩ := hI
  obtain ⟨hx, hb, hml, hown, hrt, hlk, hT⟩ := id C
  have hK1 : va_K D vwCl (tq_ty cy) s := hK.sub [0] rfl
  have hA : ∀ q : Nat, s.heap.size ≤ q → (fun q : Nat => s.heap.size ≤ q) q := fun _ h => h
  have hbA : ¬ (fun q : Nat => s.heap.size ≤ q) b := Nat.not_le.mpr hbl
  obtain ⟨p1, hp1⟩ : ∃ z, z = xs (nI (i + 1)).toNatClampNeg := ⟨_, rfl⟩
  refine lv_aload_n hx hb dL_law_1344 rfl (lv_at hl 1 rfl) ?_
  refine lv_aload_n hx hb dL_law_1345 rfl (lv_at hl 0 rfl) ?_
  refine lv_iload hx hb dL_law_1346 (lv_at hl 4 rfl) ?_
  refine lv_iconst (v := nI 1) hx hb dL_law_1348 (by decide) ?_
  refine tq_iadd C dL_law_1349 ?_
  refine va_sld hx hb hX hbl hbA hS (vp_inN (by omega) hL) dL_law_1350 ?_
  rw [← hp1]
  refine lv_aload_n hx hb dL_law_1351 rfl (lv_at hl 3 rfl) ?_
  refine tq_callI (W3 := fun u => (wZ cy a key val ord tk cp efi ela eco ene ldp dp dbl hlv spl mrg lfi lla lco lne lev ptr llo lhi lsp bb sto vas tk cp llo lhi dpt dp ext dbl hlv spl mrg lin lev ptr lsp mov thr cq oo u)) (wr := [18, 19, 20, 21, 22, 23, 24].filterMap (fun i => (wZ cy a key val ord tk cp efi ela eco ene ldp dp dbl hlv spl mrg lfi lla lco lne lev ptr llo lhi lsp bb sto vas tk cp llo lhi dpt dp ext dbl hlv spl mrg lin lev ptr lsp mov thr cq oo ov)[i]?)) (vx_runSW C.fix (As := [.ref (a 0), .int p1, .ref oo]) (rest := []) (c_L_linearBucketOf l hl9 D cy cq a key val ord tk cp efi ela eco ene ldp dp dbl hlv spl mrg lfi lla lco lne lev ptr llo lhi lsp oo ov p1 dep E L9 hCR H.size) (tq_cW (n := 3) C ml_L_185 sm_L_linearBucketOf ini_L cw_L_linearBucketOf ⟨by decide, by decide, by decide +kernel⟩ ⟨Nat.le_of_ble_eq_true rfl, Nat.le_of_ble_eq_true rfl⟩) ⟨tq_Pl.blind, tq_preL C hN hK hP hD hS hA hE [0, 1, 2, 3, 4, 5, 6, 7, 8, 9, 10, 11, 12, 13, 14, 15, 16, 17, 25] (by decide) rfl⟩ rfl rfl hl.1 rfl (lv_room (Nat.le_of_ble_eq_true rfl)) dL_law_1352 ⟨hcells, hslots⟩) hP hD hS hA [0, 1, 2, 3, 4, 5, 6, 7, 8, 9, 10, 11, 12, 13, 14, 15, 16, 17, 25] [18, 19, 20, 21, 22, 23, 24] [7, 8, 9, 10, 11, 12, 13, 14, 15, 16, 17, 18, 19, 20, 21, 22, 23, 24, 0, 1, 2, 3, 4, 5, 6, 25] rfl rfl (by decide) (by decide) (by decide) (fun _ => rfl) (fun k u H locs hw hP hD hS => ?_)
  have hP : va_P D vwCl (wZ cy a key val ord tk cp efi ela eco ene ldp dp dbl hlv spl mrg lfi lla lco lne lev ptr llo lhi lsp bb sto vas tk cp llo lhi dpt dp ext dbl hlv spl mrg lin lev ptr lsp mov thr cq oo u) H := hP
  have hD : va_D (fun q : Nat => s.heap.size ≤ q) (wZ cy a key val ord tk cp efi ela eco ene ldp dp dbl hlv spl mrg lfi lla lco lne lev ptr llo lhi lsp bb sto vas tk cp llo lhi dpt dp ext dbl hlv spl mrg lin lev ptr lsp mov thr cq oo u) := hD
  refine lv_istore (lv' := [(5, .int k), (0, .ref b), (1, .ref (a 0)), (2, .ref (bb 0)), (3, .ref oo), (4, .int (nI i))]) hx hb dL_law_1355 hl (by decide) rfl (fun ls hl => ?_)
  refine lv_aload_n hx hb dL_law_1357 rfl (lv_at hl 3 rfl) ?_
  refine lv_aload_n hx hb dL_law_1358 rfl (lv_at hl 1 rfl) ?_
  refine lv_iload hx hb dL_law_1359 (lv_at hl 5 rfl) ?_
  refine lv_iconst (v := nI 1) hx hb dL_law_1361 (by decide) ?_
  refine tq_iadd C dL_law_1362 ?_
  refine va_sld hx hb hX hbl hbA hS (vp_inN (by omega) hL) dL_law_1363 ?_
  rw [← hp1]
  refine tq_callI (W3 := fun v => (wZ cy a key val ord tk cp efi ela eco ene ldp dp dbl hlv spl mrg lfi lla lco lne lev ptr llo lhi lsp bb sto vas tk cp llo lhi dpt dp ext dbl hlv spl mrg lin lev ptr lsp mov v cq oo u)) (wr := [0, 1, 2, 3, 4, 5, 6, 7, 8, 9, 10, 11, 12, 13, 14, 15, 16, 17, 25].filterMap (fun i => (wZ cy a key val ord tk cp efi ela eco ene ldp dp dbl hlv spl mrg lfi lla lco lne lev ptr llo lhi lsp bb sto vas tk cp llo lhi dpt dp ext dbl hlv spl mrg lin lev ptr lsp mov thr cq oo u)[i]?)) (va_runV C.fix (As := [.int p1]) (rest := []) (c_X5_linearBucketOf l D cy bb sto vas tk cp llo lhi dpt dp ext dbl hlv spl mrg lin lev ptr lsp mov thr p1 (stl key val ord tk) dep E L9 hMR hMC H.size) (tq_cV (n := 1) C ml_L_187 im_X5_linearBucketOf se_X5_linearBucketOf ini_X5 cd_X5_linearBucketOf ⟨by decide, by decide, by decide +kernel⟩ ⟨Nat.le_of_ble_eq_true rfl, Nat.le_of_ble_eq_true rfl⟩) ⟨tq_Pc.blind, va_recv hK hP (ci := 5) (q0 := 18) rfl rfl, tq_preC C hK1 (hP.sub [18, 19, 20, 21, 22, 23, 24] rfl) (hD.sub [18, 19, 20, 21, 22, 23, 24] (by decide) rfl)⟩ rfl rfl hl.1 rfl (lv_room (Nat.le_of_ble_eq_true rfl)) dL_law_1364 ⟨hcells, hslots⟩) hP hD hS hA [18, 19, 20, 21, 22, 23, 24] [0, 1, 2, 3, 4, 5, 6, 7, 8, 9, 10, 11, 12, 13, 14, 15, 16, 17, 25] [0, 1, 2, 3, 4, 5, 6, 7, 8, 9, 10, 11, 12, 13, 14, 15, 16, 17, 19, 20, 21, 22, 23, 24, 25, 18] rfl rfl (by decide) (by decide) (by decide) (fun _ => rfl) (fun r2 v H locs hm hP hD hS => ?_)
  have hP : va_P D vwCl (wZ cy a key val ord tk cp efi ela eco ene ldp dp dbl hlv spl mrg lfi lla lco lne lev ptr llo lhi lsp bb sto vas tk cp llo lhi dpt dp ext dbl hlv spl mrg lin lev ptr lsp mov v cq oo u) H := hP
  have hD : va_D (fun q : Nat => s.heap.size ≤ q) (wZ cy a key val ord tk cp efi ela eco ene ldp dp dbl hlv spl mrg lfi lla lco lne lev ptr llo lhi lsp bb sto vas tk cp llo lhi dpt dp ext dbl hlv spl mrg lin lev ptr lsp mov v cq oo u) := hD
  refine lv_istore (lv' := [(6, .int r2), (5, .int k), (0, .ref b), (1, .ref (a 0)), (2, .ref (bb 0)), (3, .ref oo), (4, .int (nI i))]) hx hb dL_law_1367 hl (by decide) rfl (fun ls hl => ?_)
  refine lv_aload_n hx hb dL_law_1369 rfl (lv_at hl 4 rfl) ?_
  have hq : nI v = k ∧ (k = nI 0 → u 0 = r2.toInt64) := meet_read (X := tqIAE) (by decide) hw hm meet_key (ex_fun (by decide))
  have hq2 : INV cy cq a bb oo (wZ cy a key val ord tk cp efi ela eco ene ldp dp dbl hlv spl mrg lfi lla lco lne lev ptr llo lhi lsp bb sto vas tk cp llo lhi dpt dp ext dbl hlv spl mrg lin lev ptr lsp mov v cq oo u) := ⟨key, val, ord, tk, cp, efi, ela, eco, ene, ldp, dp, dbl, hlv, spl, mrg, lfi, lla, lco, lne, lev, ptr, llo, lhi, lsp, dep, E, L9, sto, vas, dpt, ext, lin, mov, v, u, rfl, hCR, hMR, hMC⟩
  refine tq_callF (va_runV C.fix (As := []) (rest := []) (c_X5_thrown l D cy bb sto vas tk cp llo lhi dpt dp ext dbl hlv spl mrg lin lev ptr lsp mov v  ) (tq_cV (n := 0) C ml_L_84 im_X5_thrown se_X5_thrown ini_X5 cd_X5_thrown ⟨by decide, by decide, by decide +kernel⟩ ⟨Nat.le_of_ble_eq_true rfl, Nat.le_of_ble_eq_true rfl⟩) ⟨tq_Pf.blind, va_recv hK hP (ci := 5) (q0 := 18) rfl rfl, tq_preF C hK1 (hP.sub [18, 19, 20, 21, 22, 23, 24] rfl)⟩ rfl rfl hl.1 rfl (lv_room (Nat.le_of_ble_eq_true rfl)) dL_law_1370 ⟨hcells, hslots⟩) (fun r9 hr9 => ?_)
  obtain rfl := hr9
  refine lv_iload hx hb dL_law_1373 (lv_at hl 1 rfl) ?_
  refine lv_icmp_eq (tgt := 1380) hx hb dL_law_1375 (by decide) (fun _ => ?_) (fun h9 => absurd hq.1 h9)
  refine lv_iload hx hb dL_law_1380 (lv_at hl 1 rfl) ?_
  refine lv_if_ne (tgt := 1397) hx hb dL_law_1382 (by decide) (fun _ => ?_) (fun h9 => ?_)
  · refine lv_goto (tgt := 1495) hx hb dL_law_1397 (by decide) ?_
    exact kk _ _ _ _ hq2 hP hD hS (lv_sub hl [2, 3, 4, 5, 6] rfl)
  · have h8 : k = nI 0 := by first | exact h9 | exact Classical.not_not.mp h9
    refine lv_aload_n hx hb dL_law_1385 rfl (lv_at hl 5 rfl) ?_
    refine lv_iconst (v := nI 0) hx hb dL_law_1386 (by decide) ?_
    refine va_lald hx hb hK hP 25 1 rfl rfl tq_in0 dL_law_1387 ?_
    rw [show u (nI 0).toNatClampNeg = r2.toInt64 from hq.2 h8]
    refine lv_iload hx hb dL_law_1388 (lv_at hl 0 rfl) ?_
    refine lv_i2l (v := r2.toInt64) hx hb dL_law_1390 rfl ?_
    refine lv_lcmp0 hx hb dL_law_1391 ?_
    refine lv_if_eq (tgt := 1397) hx hb dL_law_1392 (by decide) (fun _ => ?_) (fun h7 => absurd rfl h7)
    refine lv_goto (tgt := 1495) hx hb dL_law_1397 (by decide) ?_
    exact kk _ _ _ _ hq2 hP hD hS (lv_sub hl [2, 3, 4, 5, 6] rfl)
set_option maxHeartbeats 4000000 in
set_option maxRecDepth 100000 in
theorem law_linearProbes {p : Program} {l : Launch} (hl9 : l.stackTraces = false) {e : Env} {s : State} {m : MethodId} {below : List Frame} {meth : Method} {c : Code} {D : va_G} {cy cq : ClassId} {b N9 i : Nat} {xs : Nat → Int32} {args : Array Value} {Q : State → Prop} {cells slots : Nat} {a bb : Nat → Nat} {oo : Nat} {ws : va_W} {H : Heap} {locs : List Loc} {ls : Array Slot} (C : tq_C p s m meth c "TwinHashTablesLaw" cL_law 7 (some .boolean)) (hN : va_Nc tqISE tqIAE s) (hK : va_K D vwCl (tq_ty2 cy cq) s) (hE : tq_E (fun q : Nat => s.heap.size ≤ q) s s.heap) (hX : va_X b N9 xs s s.heap) (hbl : b < s.heap.size) (hL : N9 ≤ 1536) (hi : i + 2 < N9) (hcells : cells + 1 ≤ 1053) (hslots : slots + 6 ≤ 11515) (hI : INV cy cq a bb oo ws) (hP : va_P D vwCl ws H) (hD : va_D (fun q : Nat => s.heap.size ≤ q) ws) (hS : va_S (fun q : Nat => s.heap.size ≤ q) s.heap H locs) (hl : lv_has ls 7 [(0, .ref b), (1, .ref (a 0)), (2, .ref (bb 0)), (3, .ref oo), (4, .int (nI i))]) (kk : ∀ (ws : va_W) (H : Heap) (locs : List Loc) (ls : Array Slot), INV cy cq a bb oo ws → va_P D vwCl ws H → va_D (fun q : Nat => s.heap.size ≤ q) ws → va_S (fun q : Nat => s.heap.size ≤ q) s.heap H locs → lv_has ls 7 [(0, .ref b), (1, .ref (a 0)), (2, .ref (bb 0)), (3, .ref oo), (4, .int (nI i))] → W p l e room_1 s m args below meth c H locs (cells + 1) (slots + 6) Q (F0 m 1495 ls [])) : W p l e room_1 s m args below meth c H locs cells slots Q (F0 m 1413 ls []) := by
  obtain ⟨key, val, ord, tk, cp, efi, ela, eco, ene, ldp, dp, dbl, hlv, spl, mrg, lfi, lla, lco, lne, lev, ptr, llo, lhi, lsp, dep, E, L9, sto, vas, dpt, ext, lin, mov, thr, ov, rfl, hCR, hMR, hMC⟩ := hI
  obtain ⟨hx, hb, hml, hown, hrt, hlk, hT⟩ := id C
  have hK1 : va_K D vwCl (tq_ty cy) s := hK.sub [0] rfl
  have hA : ∀ q : Nat, s.heap.size ≤ q → (fun q : Nat => s.heap.size ≤ q) q := fun _ h => h
  have hbA : ¬ (fun q : Nat => s.heap.size ≤ q) b := Nat.not_le.mpr hbl
  obtain ⟨p1, hp1⟩ : ∃ z, z = xs (nI (i + 1)).toNatClampNeg := ⟨_, rfl⟩
  refine lv_aload_n hx hb dL_law_1413 rfl (lv_at hl 1 rfl) ?_
  refine lv_aload_n hx hb dL_law_1414 rfl (lv_at hl 0 rfl) ?_
  refine lv_iload hx hb dL_law_1415 (lv_at hl 4 rfl) ?_
  refine lv_iconst (v := nI 1) hx hb dL_law_1417 (by decide) ?_
  refine tq_iadd C dL_law_1418 ?_
  refine va_sld hx hb hX hbl hbA hS (vp_inN (by omega) hL) dL_law_1419 ?_
  rw [← hp1]
  refine lv_aload_n hx hb dL_law_1420 rfl (lv_at hl 3 rfl) ?_
  refine tq_callI (W3 := fun u => (wZ cy a key val ord tk cp efi ela eco ene ldp dp dbl hlv spl mrg lfi lla lco lne lev ptr llo lhi lsp bb sto vas tk cp llo lhi dpt dp ext dbl hlv spl mrg lin lev ptr lsp mov thr cq oo u)) (wr := [18, 19, 20, 21, 22, 23, 24].filterMap (fun i => (wZ cy a key val ord tk cp efi ela eco ene ldp dp dbl hlv spl mrg lfi lla lco lne lev ptr llo lhi lsp bb sto vas tk cp llo lhi dpt dp ext dbl hlv spl mrg lin lev ptr lsp mov thr cq oo ov)[i]?)) (vx_runSW C.fix (As := [.ref (a 0), .int p1, .ref oo]) (rest := []) (c_L_linearProbes l hl9 D cy cq a key val ord tk cp efi ela eco ene ldp dp dbl hlv spl mrg lfi lla lco lne lev ptr llo lhi lsp oo ov p1 dep E L9 hCR H.size) (tq_cW (n := 3) C ml_L_192 sm_L_linearProbes ini_L cw_L_linearProbes ⟨by decide, by decide, by decide +kernel⟩ ⟨Nat.le_of_ble_eq_true rfl, Nat.le_of_ble_eq_true rfl⟩) ⟨tq_Pl.blind, tq_preL C hN hK hP hD hS hA hE [0, 1, 2, 3, 4, 5, 6, 7, 8, 9, 10, 11, 12, 13, 14, 15, 16, 17, 25] (by decide) rfl⟩ rfl rfl hl.1 rfl (lv_room (Nat.le_of_ble_eq_true rfl)) dL_law_1421 ⟨hcells, hslots⟩) hP hD hS hA [0, 1, 2, 3, 4, 5, 6, 7, 8, 9, 10, 11, 12, 13, 14, 15, 16, 17, 25] [18, 19, 20, 21, 22, 23, 24] [7, 8, 9, 10, 11, 12, 13, 14, 15, 16, 17, 18, 19, 20, 21, 22, 23, 24, 0, 1, 2, 3, 4, 5, 6, 25] rfl rfl (by decide) (by decide) (by decide) (fun _ => rfl) (fun k u H locs hw hP hD hS => ?_)
  have hP : va_P D vwCl (wZ cy a key val ord tk cp efi ela eco ene ldp dp dbl hlv spl mrg lfi lla lco lne lev ptr llo lhi lsp bb sto vas tk cp llo lhi dpt dp ext dbl hlv spl mrg lin lev ptr lsp mov thr cq oo u) H := hP
  have hD : va_D (fun q : Nat => s.heap.size ≤ q) (wZ cy a key val ord tk cp efi ela eco ene ldp dp dbl hlv spl mrg lfi lla lco lne lev ptr llo lhi lsp bb sto vas tk cp llo lhi dpt dp ext dbl hlv spl mrg lin lev ptr lsp mov thr cq oo u) := hD
  refine lv_istore (lv' := [(5, .int k), (0, .ref b), (1, .ref (a 0)), (2, .ref (bb 0)), (3, .ref oo), (4, .int (nI i))]) hx hb dL_law_1424 hl (by decide) rfl (fun ls hl => ?_)
  refine lv_aload_n hx hb dL_law_1426 rfl (lv_at hl 3 rfl) ?_
  refine lv_aload_n hx hb dL_law_1427 rfl (lv_at hl 1 rfl) ?_
  refine lv_iload hx hb dL_law_1428 (lv_at hl 5 rfl) ?_
  refine lv_iconst (v := nI 1) hx hb dL_law_1430 (by decide) ?_
  refine tq_iadd C dL_law_1431 ?_
  refine va_sld hx hb hX hbl hbA hS (vp_inN (by omega) hL) dL_law_1432 ?_
  rw [← hp1]
  refine tq_callI (W3 := fun v => (wZ cy a key val ord tk cp efi ela eco ene ldp dp dbl hlv spl mrg lfi lla lco lne lev ptr llo lhi lsp bb sto vas tk cp llo lhi dpt dp ext dbl hlv spl mrg lin lev ptr lsp mov v cq oo u)) (wr := [0, 1, 2, 3, 4, 5, 6, 7, 8, 9, 10, 11, 12, 13, 14, 15, 16, 17, 25].filterMap (fun i => (wZ cy a key val ord tk cp efi ela eco ene ldp dp dbl hlv spl mrg lfi lla lco lne lev ptr llo lhi lsp bb sto vas tk cp llo lhi dpt dp ext dbl hlv spl mrg lin lev ptr lsp mov thr cq oo u)[i]?)) (va_runV C.fix (As := [.int p1]) (rest := []) (c_X5_linearProbes l D cy bb sto vas tk cp llo lhi dpt dp ext dbl hlv spl mrg lin lev ptr lsp mov thr p1 (stl key val ord tk) dep E L9 hMR hMC H.size) (tq_cV (n := 1) C ml_L_194 im_X5_linearProbes se_X5_linearProbes ini_X5 cd_X5_linearProbes ⟨by decide, by decide, by decide +kernel⟩ ⟨Nat.le_of_ble_eq_true rfl, Nat.le_of_ble_eq_true rfl⟩) ⟨tq_Pc.blind, va_recv hK hP (ci := 5) (q0 := 18) rfl rfl, tq_preC C hK1 (hP.sub [18, 19, 20, 21, 22, 23, 24] rfl) (hD.sub [18, 19, 20, 21, 22, 23, 24] (by decide) rfl)⟩ rfl rfl hl.1 rfl (lv_room (Nat.le_of_ble_eq_true rfl)) dL_law_1433 ⟨hcells, hslots⟩) hP hD hS hA [18, 19, 20, 21, 22, 23, 24] [0, 1, 2, 3, 4, 5, 6, 7, 8, 9, 10, 11, 12, 13, 14, 15, 16, 17, 25] [0, 1, 2, 3, 4, 5, 6, 7, 8, 9, 10, 11, 12, 13, 14, 15, 16, 17, 19, 20, 21, 22, 23, 24, 25, 18] rfl rfl (by decide) (by decide) (by decide) (fun _ => rfl) (fun r2 v H locs hm hP hD hS => ?_)
  have hP : va_P D vwCl (wZ cy a key val ord tk cp efi ela eco ene ldp dp dbl hlv spl mrg lfi lla lco lne lev ptr llo lhi lsp bb sto vas tk cp llo lhi dpt dp ext dbl hlv spl mrg lin lev ptr lsp mov v cq oo u) H := hP
  have hD : va_D (fun q : Nat => s.heap.size ≤ q) (wZ cy a key val ord tk cp efi ela eco ene ldp dp dbl hlv spl mrg lfi lla lco lne lev ptr llo lhi lsp bb sto vas tk cp llo lhi dpt dp ext dbl hlv spl mrg lin lev ptr lsp mov v cq oo u) := hD
  refine lv_istore (lv' := [(6, .int r2), (5, .int k), (0, .ref b), (1, .ref (a 0)), (2, .ref (bb 0)), (3, .ref oo), (4, .int (nI i))]) hx hb dL_law_1436 hl (by decide) rfl (fun ls hl => ?_)
  refine lv_aload_n hx hb dL_law_1438 rfl (lv_at hl 4 rfl) ?_
  have hq : nI v = k ∧ (k = nI 0 → u 0 = r2.toInt64) := meet_read (X := tqIAE) (by decide) hw hm meet_key (ex_uniq (by decide) (fun _ _ => prP_uniq))
  have hq2 : INV cy cq a bb oo (wZ cy a key val ord tk cp efi ela eco ene ldp dp dbl hlv spl mrg lfi lla lco lne lev ptr llo lhi lsp bb sto vas tk cp llo lhi dpt dp ext dbl hlv spl mrg lin lev ptr lsp mov v cq oo u) := ⟨key, val, ord, tk, cp, efi, ela, eco, ene, ldp, dp, dbl, hlv, spl, mrg, lfi, lla, lco, lne, lev, ptr, llo, lhi, lsp, dep, E, L9, sto, vas, dpt, ext, lin, mov, v, u, rfl, hCR, hMR, hMC⟩
  refine tq_callF (va_runV C.fix (As := []) (rest := []) (c_X5_thrown l D cy bb sto vas tk cp llo lhi dpt dp ext dbl hlv spl mrg lin lev ptr lsp mov v  ) (tq_cV (n := 0) C ml_L_84 im_X5_thrown se_X5_thrown ini_X5 cd_X5_thrown ⟨by decide, by decide, by decide +kernel⟩ ⟨Nat.le_of_ble_eq_true rfl, Nat.le_of_ble_eq_true rfl⟩) ⟨tq_Pf.blind, va_recv hK hP (ci := 5) (q0 := 18) rfl rfl, tq_preF C hK1 (hP.sub [18, 19, 20, 21, 22, 23, 24] rfl)⟩ rfl rfl hl.1 rfl (lv_room (Nat.le_of_ble_eq_true rfl)) dL_law_1439 ⟨hcells, hslots⟩) (fun r9 hr9 => ?_)
  obtain rfl := hr9
  refine lv_iload hx hb dL_law_1442 (lv_at hl 1 rfl) ?_
  refine lv_icmp_eq (tgt := 1449) hx hb dL_law_1444 (by decide) (fun _ => ?_) (fun h9 => absurd hq.1 h9)
  refine lv_iload hx hb dL_law_1449 (lv_at hl 1 rfl) ?_
  refine lv_if_ne (tgt := 1466) hx hb dL_law_1451 (by decide) (fun _ => ?_) (fun h9 => ?_)
  · refine lv_goto (tgt := 1495) hx hb dL_law_1466 (by decide) ?_
    exact kk _ _ _ _ hq2 hP hD hS (lv_sub hl [2, 3, 4, 5, 6] rfl)
  · have h8 : k = nI 0 := by first | exact h9 | exact Classical.not_not.mp h9
    refine lv_aload_n hx hb dL_law_1454 rfl (lv_at hl 5 rfl) ?_
    refine lv_iconst (v := nI 0) hx hb dL_law_1455 (by decide) ?_
    refine va_lald hx hb hK hP 25 1 rfl rfl tq_in0 dL_law_1456 ?_
    rw [show u (nI 0).toNatClampNeg = r2.toInt64 from hq.2 h8]
    refine lv_iload hx hb dL_law_1457 (lv_at hl 0 rfl) ?_
    refine lv_i2l (v := r2.toInt64) hx hb dL_law_1459 rfl ?_
    refine lv_lcmp0 hx hb dL_law_1460 ?_
    refine lv_if_eq (tgt := 1466) hx hb dL_law_1461 (by decide) (fun _ => ?_) (fun h7 => absurd rfl h7)
    refine lv_goto (tgt := 1495) hx hb dL_law_1466 (by decide) ?_
    exact kk _ _ _ _ hq2 hP hD hS (lv_sub hl [2, 3, 4, 5, 6] rfl)
