set_option maxHeartbeats 4000000 in
set_option maxRecDepth 100000 in
theorem law_loop {p : Program} {l : Launch} (hl9 : l.stackTraces = false) {e : Env} {s : State} {m : MethodId} {below : List Frame} {meth : Method} {c : Code} {D : va_G} {cy cq : ClassId} {b N9 : Nat} {xs : Nat → Int32} {a bb : Nat → Nat} {oo : Nat} (C : tq_C p s m meth c "TwinHashTablesLaw" cL_law 7 (some .boolean)) (hrt9 : meth.sig.returnType = ret) (hN : va_Nc tqISE tqIAE s) (hK : va_K D vwCl (tq_ty2 cy cq) s) (hE : tq_E (fun q : Nat => s.heap.size ≤ q) s s.heap) (hX : va_X b N9 xs s s.heap) (hbl : b < s.heap.size) (hL : N9 ≤ 1536) : ∀ (n t : Nat), N9 - 3 * t < n → 3 * t ≤ N9 + 2 → ∀ (ws : va_W) (H : Heap) (locs : List Loc) (ls : Array Slot), INV cy cq a bb oo ws → va_P D vwCl ws H → va_D (fun q : Nat => s.heap.size ≤ q) ws → va_S (fun q : Nat => s.heap.size ≤ q) s.heap H locs → lv_has ls 7 [(0, .ref b), (1, .ref (a 0)), (2, .ref (bb 0)), (3, .ref oo), (4, .int (nI (3 * t)))] → W p l e room_1 s m #[Value.ref b] below meth c H locs (26 + t) (3400 + 6 * t) (lw_Z below #[Value.ref b] s) (F0 m 23 ls []) := by
  intro n
  induction n with
  | zero => intro t hf; exact absurd hf (Nat.not_lt_zero _)
  | succ n ih =>
    intro t hf ht ws H locs ls hI hP hD hS hl
    obtain ⟨hx, hb, hml, hown, hrt, hlk, hT⟩ := id C
    have hbA : ¬ (fun q : Nat => s.heap.size ≤ q) b := Nat.not_le.mpr hbl
    refine lv_iload hx hb dL_law_23 (lv_at hl 4 rfl) ?_
    refine lv_aload_n hx hb dL_law_25 rfl (lv_at hl 0 rfl) ?_
    refine va_slen hx hb hX hbl hbA hS dL_law_26 ?_
    refine lv_iconst (v := nI 3) hx hb dL_law_27 (by decide) ?_
    refine lv_isub hx hb dL_law_28 ?_
    refine lv_icmp_gt (tgt := 1501) hx hb dL_law_29 (by decide) (fun _ => ?_) (fun h29 => ?_)
    · refine lv_iconst (v := 1) hx hb dL_law_1501 (by decide) ?_
      refine va_forget hS.2.2 ?_
      refine W.widen (k := 1053) (n := 11515) (by omega) (by omega) ?_
      exact lw_ret hx hb hrt9 hlk dL_law_1502
    · have hi : 3 * t + 2 < N9 := tq_more hL (by omega) h29
      have kk : ∀ (ws : va_W) (H : Heap) (locs : List Loc) (ls : Array Slot), INV cy cq a bb oo ws → va_P D vwCl ws H → va_D (fun q : Nat => s.heap.size ≤ q) ws → va_S (fun q : Nat => s.heap.size ≤ q) s.heap H locs → lv_has ls 7 [(0, .ref b), (1, .ref (a 0)), (2, .ref (bb 0)), (3, .ref oo), (4, .int (nI (3 * t)))] → W p l e room_1 s m #[Value.ref b] below meth c H locs (26 + t + 1) (3400 + 6 * t + 6) (lw_Z below #[Value.ref b] s) (F0 m 1495 ls []) := by
        intro ws H locs ls hI hP hD hS hl
        refine lv_iinc (v := nI (3 * t + 3)) (lv' := [(4, .int (nI (3 * t + 3))), (0, .ref b), (1, .ref (a 0)), (2, .ref (bb 0)), (3, .ref oo)]) hx hb dL_law_1495 hl (k := 4) rfl (tq_inc3 _) (by decide) rfl (fun ls hl => ?_)
        refine lv_goto (tgt := 23) hx hb dL_law_1498 (by decide) ?_
        have h9 := ih (t + 1) (by omega) (by omega) ws H locs ls hI hP hD hS (lv_sub hl [1, 2, 3, 4, 0] rfl)
        rw [show 26 + t + 1 = 26 + (t + 1) from rfl, show 3400 + 6 * t + 6 = 3400 + 6 * (t + 1) from by omega]
        exact h9
      refine lv_aload_n hx hb dL_law_32 rfl (lv_at hl 0 rfl) ?_
      refine lv_iload hx hb dL_law_33 (lv_at hl 4 rfl) ?_
      refine va_sld hx hb hX hbl hbA hS (vp_inN (by omega) hL) dL_law_35 ?_
      refine lv_bipush (v := nI 63) hx hb dL_law_36 (by decide) ?_
      refine lv_iand hx hb dL_law_38 ?_
      obtain ⟨j, hj, ej⟩ := and63 (xs (nI (3 * t)).toNatClampNeg)
      first | rw [ej] | (rw [show nI 63 &&& xs (nI (3 * t)).toNatClampNeg = xs (nI (3 * t)).toNatClampNeg &&& nI 63 from Int32.and_comm _ _]; rw [ej])
      rcases (show j = 0 ∨ j = 1 ∨ j = 2 ∨ j = 3 ∨ j = 4 ∨ j = 5 ∨ j = 6 ∨ j = 7 ∨ j = 8 ∨ j = 9 ∨ j = 10 ∨ j = 11 ∨ j = 12 ∨ j = 13 ∨ j = 14 ∨ j = 15 ∨ j = 16 ∨ j = 17 ∨ j = 18 ∨ j = 19 ∨ j = 20 ∨ j = 21 ∨ j = 22 ∨ j = 23 ∨ j = 24 ∨ j = 25 ∨ j = 26 ∨ j = 27 ∨ j = 28 ∨ j = 29 ∨ j = 30 ∨ j = 31 ∨ j = 32 ∨ j = 33 ∨ 34 ≤ j by omega) with rfl | rfl | rfl | rfl | rfl | rfl | rfl | rfl | rfl | rfl | rfl | rfl | rfl | rfl | rfl | rfl | rfl | rfl | rfl | rfl | rfl | rfl | rfl | rfl | rfl | rfl | rfl | rfl | rfl | rfl | rfl | rfl | rfl | rfl | hj9
      · exact lv_tableIn (tgt := 188) hx hb dL_law_39 (by decide) (by decide) rfl (by decide) (law_put hl9 C hN hK hE hX hbl hL hi (by omega) (by omega) hI hP hD hS hl kk)
      · exact lv_tableIn (tgt := 256) hx hb dL_law_39 (by decide) (by decide) rfl (by decide) (law_remove hl9 C hN hK hE hX hbl hL hi (by omega) (by omega) hI hP hD hS hl kk)
      · exact lv_tableIn (tgt := 312) hx hb dL_law_39 (by decide) (by decide) rfl (by decide) (law_get hl9 C hN hK hE hX hbl hL hi (by omega) (by omega) hI hP hD hS hl kk)
      · exact lv_tableIn (tgt := 368) hx hb dL_law_39 (by decide) (by decide) rfl (by decide) (law_getByLinear hl9 C hN hK hE hX hbl hL hi (by omega) (by omega) hI hP hD hS hl kk)
      · exact lv_tableIn (tgt := 424) hx hb dL_law_39 (by decide) (by decide) rfl (by decide) (law_size hl9 C hN hK hE hX hbl hL hi (by omega) (by omega) hI hP hD hS hl kk)
      · exact lv_tableIn (tgt := 437) hx hb dL_law_39 (by decide) (by decide) rfl (by decide) (law_clear hl9 C hN hK hE hX hbl hL hi (by omega) (by omega) hI hP hD hS hl kk)
      · exact lv_tableIn (tgt := 450) hx hb dL_law_39 (by decide) (by decide) rfl (by decide) (law_rebuild hl9 C hN hK hE hX hbl hL hi (by omega) (by omega) hI hP hD hS hl kk)
      · exact lv_tableIn (tgt := 506) hx hb dL_law_39 (by decide) (by decide) rfl (by decide) (law_setLoads hl9 C hN hK hE hX hbl hL hi (by omega) (by omega) hI hP hD hS hl kk)
      · exact lv_tableIn (tgt := 574) hx hb dL_law_39 (by decide) (by decide) rfl (by decide) (law_hashOf hl9 C hN hK hE hX hbl hL hi (by omega) (by omega) hI hP hD hS hl kk)
      · exact lv_tableIn (tgt := 630) hx hb dL_law_39 (by decide) (by decide) rfl (by decide) (law_globalDepth hl9 C hN hK hE hX hbl hL hi (by omega) (by omega) hI hP hD hS hl kk)
      · exact lv_tableIn (tgt := 643) hx hb dL_law_39 (by decide) (by decide) rfl (by decide) (law_buckets hl9 C hN hK hE hX hbl hL hi (by omega) (by omega) hI hP hD hS hl kk)
      · exact lv_tableIn (tgt := 656) hx hb dL_law_39 (by decide) (by decide) rfl (by decide) (law_localDepth hl9 C hN hK hE hX hbl hL hi (by omega) (by omega) hI hP hD hS hl kk)
      · exact lv_tableIn (tgt := 712) hx hb dL_law_39 (by decide) (by decide) rfl (by decide) (law_bucketSize hl9 C hN hK hE hX hbl hL hi (by omega) (by omega) hI hP hD hS hl kk)
      · exact lv_tableIn (tgt := 768) hx hb dL_law_39 (by decide) (by decide) rfl (by decide) (law_keyAt hl9 C hN hK hE hX hbl hL hi (by omega) (by omega) hI hP hD hS hl kk)
      · exact lv_tableIn (tgt := 836) hx hb dL_law_39 (by decide) (by decide) rfl (by decide) (law_slotOf hl9 C hN hK hE hX hbl hL hi (by omega) (by omega) hI hP hD hS hl kk)
      · exact lv_tableIn (tgt := 892) hx hb dL_law_39 (by decide) (by decide) rfl (by decide) (law_buddyOf hl9 C hN hK hE hX hbl hL hi (by omega) (by omega) hI hP hD hS hl kk)
      · exact lv_tableIn (tgt := 948) hx hb dL_law_39 (by decide) (by decide) rfl (by decide) (law_overflowPages hl9 C hN hK hE hX hbl hL hi (by omega) (by omega) hI hP hD hS hl kk)
      · exact lv_tableIn (tgt := 961) hx hb dL_law_39 (by decide) (by decide) rfl (by decide) (law_probes hl9 C hN hK hE hX hbl hL hi (by omega) (by omega) hI hP hD hS hl kk)
      · exact lv_tableIn (tgt := 1017) hx hb dL_law_39 (by decide) (by decide) rfl (by decide) (law_doublings hl9 C hN hK hE hX hbl hL hi (by omega) (by omega) hI hP hD hS hl kk)
      · exact lv_tableIn (tgt := 1030) hx hb dL_law_39 (by decide) (by decide) rfl (by decide) (law_halvings hl9 C hN hK hE hX hbl hL hi (by omega) (by omega) hI hP hD hS hl kk)
      · exact lv_tableIn (tgt := 1043) hx hb dL_law_39 (by decide) (by decide) rfl (by decide) (law_splits hl9 C hN hK hE hX hbl hL hi (by omega) (by omega) hI hP hD hS hl kk)
      · exact lv_tableIn (tgt := 1056) hx hb dL_law_39 (by decide) (by decide) rfl (by decide) (law_merges hl9 C hN hK hE hX hbl hL hi (by omega) (by omega) hI hP hD hS hl kk)
      · exact lv_tableIn (tgt := 1069) hx hb dL_law_39 (by decide) (by decide) rfl (by decide) (law_slotAt hl9 C hN hK hE hX hbl hL hi (by omega) (by omega) hI hP hD hS hl kk)
      · exact lv_tableIn (tgt := 1125) hx hb dL_law_39 (by decide) (by decide) rfl (by decide) (law_nextCursor hl9 C hN hK hE hX hbl hL hi (by omega) (by omega) hI hP hD hS hl kk)
      · exact lv_tableIn (tgt := 1181) hx hb dL_law_39 (by decide) (by decide) rfl (by decide) (law_linearBuckets hl9 C hN hK hE hX hbl hL hi (by omega) (by omega) hI hP hD hS hl kk)
      · exact lv_tableIn (tgt := 1194) hx hb dL_law_39 (by decide) (by decide) rfl (by decide) (law_level hl9 C hN hK hE hX hbl hL hi (by omega) (by omega) hI hP hD hS hl kk)
      · exact lv_tableIn (tgt := 1207) hx hb dL_law_39 (by decide) (by decide) rfl (by decide) (law_pointer hl9 C hN hK hE hX hbl hL hi (by omega) (by omega) hI hP hD hS hl kk)
      · exact lv_tableIn (tgt := 1220) hx hb dL_law_39 (by decide) (by decide) rfl (by decide) (law_linearSize hl9 C hN hK hE hX hbl hL hi (by omega) (by omega) hI hP hD hS hl kk)
      · exact lv_tableIn (tgt := 1276) hx hb dL_law_39 (by decide) (by decide) rfl (by decide) (law_linearKeyAt hl9 C hN hK hE hX hbl hL hi (by omega) (by omega) hI hP hD hS hl kk)
      · exact lv_tableIn (tgt := 1344) hx hb dL_law_39 (by decide) (by decide) rfl (by decide) (law_linearBucketOf hl9 C hN hK hE hX hbl hL hi (by omega) (by omega) hI hP hD hS hl kk)
      · exact lv_tableIn (tgt := 1400) hx hb dL_law_39 (by decide) (by decide) rfl (by decide) (law_linearOverflowPages hl9 C hN hK hE hX hbl hL hi (by omega) (by omega) hI hP hD hS hl kk)
      · exact lv_tableIn (tgt := 1413) hx hb dL_law_39 (by decide) (by decide) rfl (by decide) (law_linearProbes hl9 C hN hK hE hX hbl hL hi (by omega) (by omega) hI hP hD hS hl kk)
      · exact lv_tableIn (tgt := 1469) hx hb dL_law_39 (by decide) (by decide) rfl (by decide) (law_load hl9 C hN hK hE hX hbl hL hi (by omega) (by omega) hI hP hD hS hl kk)
      · exact lv_tableIn (tgt := 1482) hx hb dL_law_39 (by decide) (by decide) rfl (by decide) (law_linearSplits hl9 C hN hK hE hX hbl hL hi (by omega) (by omega) hI hP hD hS hl kk)
      · refine lv_tableOut (tgt := 1495) hx hb dL_law_39 (Or.inr (by rw [nI_toInt (by omega)]; omega)) (by decide) ?_
        refine W.widen (k := 26 + t + 1) (n := 3400 + 6 * t + 6) (by omega) (by omega) ?_
        exact kk ws H locs ls hI hP hD hS hl
