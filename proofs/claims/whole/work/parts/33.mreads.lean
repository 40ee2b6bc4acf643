
theorem idx_of {E : List Nat} {p : Nat → Bool} {j k : Nat} (hn : E.Nodup) (hj : j < E.length) (he : E.getD j 0 = k) (hp : p k = true) : ((E.take j).filter p).length < (E.filter p).length ∧ (E.filter p).getD ((E.take j).filter p).length 0 = k ∧ ∀ i, i < ((E.take j).filter p).length → (E.filter p).getD i 0 ≠ k := by
  have e1 : E = E.take j ++ k :: E.drop (j + 1) := by
    have := drop_succD hj
    rw [he] at this
    rw [← this, List.take_append_drop]
  have e2 : E.filter p = (E.take j).filter p ++ (k :: (E.drop (j + 1)).filter p) := by
    have := congrArg (List.filter p) e1
    rw [List.filter_append, List.filter_cons_of_pos hp] at this
    exact this
  have hnd : k ∉ E.take j := by
    rw [e1, List.nodup_append] at hn
    exact fun q => hn.2.2 k q k List.mem_cons_self rfl
  rw [e2]
  refine ⟨by rw [List.length_append, List.length_cons]; omega, by rw [List.getD_eq_getElem?_getD, List.getElem?_append_right (Nat.le_refl _)]; simp, fun i hi q => ?_⟩
  rw [getD_left hi] at q
  have := getD_mem hi
  rw [q] at this
  exact hnd (List.mem_filter.mp this).1
theorem nth_of {E : List Nat} {p : Nat → Bool} {i : Nat} (hi : i < E.length) (hp : p (E.getD i 0) = true) : (E.filter p).getD ((E.take i).filter p).length 0 = E.getD i 0 := by
  have e1 : E = E.take i ++ E.getD i 0 :: E.drop (i + 1) := by rw [← drop_succD hi, List.take_append_drop]
  have e2 : E.filter p = (E.take i).filter p ++ (E.getD i 0 :: (E.drop (i + 1)).filter p) := by
    have := congrArg (List.filter p) e1
    rw [List.filter_append, List.filter_cons_of_pos hp] at this
    exact this
  rw [e2, List.getD_eq_getElem?_getD, List.getElem?_append_right (Nat.le_refl _)]
  simp
theorem not_in {E : List Nat} {p : Nat → Bool} {k : Nat} (h : ∀ j, j < E.length → E.getD j 0 ≠ k) : ∀ j, j < (E.filter p).length → (E.filter p).getD j 0 ≠ k := fun j hj q => by
  have := (List.mem_filter.mp (getD_mem hj)).1
  obtain ⟨i, hi, e⟩ := mem_getD this
  exact h i hi (e.trans q)
def lcnt (L : List Nat) (v p r : Nat) : Nat := (lnB L v p r).length
theorem lcnt_take {L : List Nat} {v p r i : Nat} (h : i < L.length) : lcnt (L.take (i + 1)) v p r = lcnt (L.take i) v p r + if linOf v p (L.getD i 0) = r then 1 else 0 := by
  unfold lcnt lnB
  rw [filter_take h]
  by_cases z : linOf v p (L.getD i 0) = r
  · rw [if_pos z, if_pos (by simpa using z)]; simp
  · rw [if_neg z, if_neg (by simpa using z)]; rfl

theorem dX5_isSlot_0 : decode cX5_isSlot 0 = .ok (.aload_n 0, 1) := by decide +kernel
theorem dX5_isSlot_1 : decode cX5_isSlot 1 = .ok (.iload_n 1, 1) := by decide +kernel
theorem dX5_isSlot_2 : decode cX5_isSlot 2 = .ok (.iconst 0, 1) := by decide +kernel
theorem dX5_isSlot_3 : decode cX5_isSlot 3 = .ok (.iconst 1, 1) := by decide +kernel
theorem dX5_isSlot_4 : decode cX5_isSlot 4 = .ok (.aload_n 0, 1) := by decide +kernel
theorem dX5_isSlot_5 : decode cX5_isSlot 5 = .ok (.getfield 68, 3) := by decide +kernel
theorem dX5_isSlot_8 : decode cX5_isSlot 8 = .ok (.ishl, 1) := by decide +kernel
theorem dX5_isSlot_9 : decode cX5_isSlot 9 = .ok (.iconst 1, 1) := by decide +kernel
theorem dX5_isSlot_10 : decode cX5_isSlot 10 = .ok (.isub, 1) := by decide +kernel
theorem dX5_isSlot_11 : decode cX5_isSlot 11 = .ok (.invokestatic 42, 3) := by decide +kernel
theorem dX5_isSlot_14 : decode cX5_isSlot 14 = .ok (.invokevirtual 46, 3) := by decide +kernel
theorem dX5_isSlot_17 : decode cX5_isSlot 17 = .ok (.ireturn, 1) := by decide +kernel
theorem dX5_isLowest_0 : decode cX5_isLowest 0 = .ok (.iload_n 1, 1) := by decide +kernel
theorem dX5_isLowest_1 : decode cX5_isLowest 1 = .ok (.iconst 1, 1) := by decide +kernel
theorem dX5_isLowest_2 : decode cX5_isLowest 2 = .ok (.aload_n 0, 1) := by decide +kernel
theorem dX5_isLowest_3 : decode cX5_isLowest 3 = .ok (.getfield 26, 3) := by decide +kernel
theorem dX5_isLowest_6 : decode cX5_isLowest 6 = .ok (.iload_n 1, 1) := by decide +kernel
theorem dX5_isLowest_7 : decode cX5_isLowest 7 = .ok (.iaload, 1) := by decide +kernel
theorem dX5_isLowest_8 : decode cX5_isLowest 8 = .ok (.ishl, 1) := by decide +kernel
theorem dX5_isLowest_9 : decode cX5_isLowest 9 = .ok (.if_icmp .ge 7, 3) := by decide +kernel
theorem dX5_isLowest_12 : decode cX5_isLowest 12 = .ok (.iconst 1, 1) := by decide +kernel
theorem dX5_isLowest_13 : decode cX5_isLowest 13 = .ok (.goto 4, 3) := by decide +kernel
theorem dX5_isLowest_16 : decode cX5_isLowest 16 = .ok (.iconst 0, 1) := by decide +kernel
theorem dX5_isLowest_17 : decode cX5_isLowest 17 = .ok (.ireturn, 1) := by decide +kernel
theorem dX5_overflow_0 : decode cX5_overflow 0 = .ok (.iload_n 1, 1) := by decide +kernel
theorem dX5_overflow_1 : decode cX5_overflow 1 = .ok (.aload_n 0, 1) := by decide +kernel
theorem dX5_overflow_2 : decode cX5_overflow 2 = .ok (.getfield 16, 3) := by decide +kernel
theorem dX5_overflow_5 : decode cX5_overflow 5 = .ok (.if_icmp .le 14, 3) := by decide +kernel
theorem dX5_overflow_8 : decode cX5_overflow 8 = .ok (.iload_n 1, 1) := by decide +kernel
theorem dX5_overflow_9 : decode cX5_overflow 9 = .ok (.iconst 1, 1) := by decide +kernel
theorem dX5_overflow_10 : decode cX5_overflow 10 = .ok (.isub, 1) := by decide +kernel
theorem dX5_overflow_11 : decode cX5_overflow 11 = .ok (.aload_n 0, 1) := by decide +kernel
theorem dX5_overflow_12 : decode cX5_overflow 12 = .ok (.getfield 16, 3) := by decide +kernel
theorem dX5_overflow_15 : decode cX5_overflow 15 = .ok (.idiv, 1) := by decide +kernel
theorem dX5_overflow_16 : decode cX5_overflow 16 = .ok (.goto 4, 3) := by decide +kernel
theorem dX5_overflow_19 : decode cX5_overflow 19 = .ok (.iconst 0, 1) := by decide +kernel
theorem dX5_overflow_20 : decode cX5_overflow 20 = .ok (.ireturn, 1) := by decide +kernel
theorem dX5_size_0 : decode cX5_size 0 = .ok (.aload_n 0, 1) := by decide +kernel
theorem dX5_size_1 : decode cX5_size 1 = .ok (.aload_n 0, 1) := by decide +kernel
theorem dX5_size_2 : decode cX5_size 2 = .ok (.getfield 51, 3) := by decide +kernel
theorem dX5_size_5 : decode cX5_size 5 = .ok (.invokevirtual 148, 3) := by decide +kernel
theorem dX5_size_8 : decode cX5_size 8 = .ok (.ireturn, 1) := by decide +kernel
theorem dX5_globalDepth_0 : decode cX5_globalDepth 0 = .ok (.aload_n 0, 1) := by decide +kernel
theorem dX5_globalDepth_1 : decode cX5_globalDepth 1 = .ok (.aload_n 0, 1) := by decide +kernel
theorem dX5_globalDepth_2 : decode cX5_globalDepth 2 = .ok (.getfield 68, 3) := by decide +kernel
theorem dX5_globalDepth_5 : decode cX5_globalDepth 5 = .ok (.invokevirtual 148, 3) := by decide +kernel
theorem dX5_globalDepth_8 : decode cX5_globalDepth 8 = .ok (.ireturn, 1) := by decide +kernel
theorem dX5_level_0 : decode cX5_level 0 = .ok (.aload_n 0, 1) := by decide +kernel
theorem dX5_level_1 : decode cX5_level 1 = .ok (.aload_n 0, 1) := by decide +kernel
theorem dX5_level_2 : decode cX5_level 2 = .ok (.getfield 102, 3) := by decide +kernel
theorem dX5_level_5 : decode cX5_level 5 = .ok (.invokevirtual 148, 3) := by decide +kernel
theorem dX5_level_8 : decode cX5_level 8 = .ok (.ireturn, 1) := by decide +kernel
theorem dX5_pointer_0 : decode cX5_pointer 0 = .ok (.aload_n 0, 1) := by decide +kernel
theorem dX5_pointer_1 : decode cX5_pointer 1 = .ok (.aload_n 0, 1) := by decide +kernel
theorem dX5_pointer_2 : decode cX5_pointer 2 = .ok (.getfield 105, 3) := by decide +kernel
theorem dX5_pointer_5 : decode cX5_pointer 5 = .ok (.invokevirtual 148, 3) := by decide +kernel
theorem dX5_pointer_8 : decode cX5_pointer 8 = .ok (.ireturn, 1) := by decide +kernel
theorem dX5_doublings_0 : decode cX5_doublings 0 = .ok (.aload_n 0, 1) := by decide +kernel
theorem dX5_doublings_1 : decode cX5_doublings 1 = .ok (.aload_n 0, 1) := by decide +kernel
theorem dX5_doublings_2 : decode cX5_doublings 2 = .ok (.getfield 71, 3) := by decide +kernel
theorem dX5_doublings_5 : decode cX5_doublings 5 = .ok (.invokevirtual 148, 3) := by decide +kernel
theorem dX5_doublings_8 : decode cX5_doublings 8 = .ok (.ireturn, 1) := by decide +kernel
theorem dX5_halvings_0 : decode cX5_halvings 0 = .ok (.aload_n 0, 1) := by decide +kernel
theorem dX5_halvings_1 : decode cX5_halvings 1 = .ok (.aload_n 0, 1) := by decide +kernel
theorem dX5_halvings_2 : decode cX5_halvings 2 = .ok (.getfield 99, 3) := by decide +kernel
theorem dX5_halvings_5 : decode cX5_halvings 5 = .ok (.invokevirtual 148, 3) := by decide +kernel
theorem dX5_halvings_8 : decode cX5_halvings 8 = .ok (.ireturn, 1) := by decide +kernel
theorem dX5_splits_0 : decode cX5_splits 0 = .ok (.aload_n 0, 1) := by decide +kernel
theorem dX5_splits_1 : decode cX5_splits 1 = .ok (.aload_n 0, 1) := by decide +kernel
theorem dX5_splits_2 : decode cX5_splits 2 = .ok (.getfield 78, 3) := by decide +kernel
theorem dX5_splits_5 : decode cX5_splits 5 = .ok (.invokevirtual 148, 3) := by decide +kernel
theorem dX5_splits_8 : decode cX5_splits 8 = .ok (.ireturn, 1) := by decide +kernel
theorem dX5_merges_0 : decode cX5_merges 0 = .ok (.aload_n 0, 1) := by decide +kernel
theorem dX5_merges_1 : decode cX5_merges 1 = .ok (.aload_n 0, 1) := by decide +kernel
theorem dX5_merges_2 : decode cX5_merges 2 = .ok (.getfield 92, 3) := by decide +kernel
theorem dX5_merges_5 : decode cX5_merges 5 = .ok (.invokevirtual 148, 3) := by decide +kernel
theorem dX5_merges_8 : decode cX5_merges 8 = .ok (.ireturn, 1) := by decide +kernel
theorem dX5_linearSplits_0 : decode cX5_linearSplits 0 = .ok (.aload_n 0, 1) := by decide +kernel
theorem dX5_linearSplits_1 : decode cX5_linearSplits 1 = .ok (.aload_n 0, 1) := by decide +kernel
theorem dX5_linearSplits_2 : decode cX5_linearSplits 2 = .ok (.getfield 112, 3) := by decide +kernel
theorem dX5_linearSplits_5 : decode cX5_linearSplits 5 = .ok (.invokevirtual 148, 3) := by decide +kernel
theorem dX5_linearSplits_8 : decode cX5_linearSplits 8 = .ok (.ireturn, 1) := by decide +kernel
theorem dX5_thrown_0 : decode cX5_thrown 0 = .ok (.aload_n 0, 1) := by decide +kernel
theorem dX5_thrown_1 : decode cX5_thrown 1 = .ok (.getfield 38, 3) := by decide +kernel
theorem dX5_thrown_4 : decode cX5_thrown 4 = .ok (.ireturn, 1) := by decide +kernel
theorem dX5_linearBuckets_0 : decode cX5_linearBuckets 0 = .ok (.aload_n 0, 1) := by decide +kernel
theorem dX5_linearBuckets_1 : decode cX5_linearBuckets 1 = .ok (.aload_n 0, 1) := by decide +kernel
theorem dX5_linearBuckets_2 : decode cX5_linearBuckets 2 = .ok (.invokevirtual 108, 3) := by decide +kernel
theorem dX5_linearBuckets_5 : decode cX5_linearBuckets 5 = .ok (.invokevirtual 148, 3) := by decide +kernel
theorem dX5_linearBuckets_8 : decode cX5_linearBuckets 8 = .ok (.ireturn, 1) := by decide +kernel
theorem dX5_load_0 : decode cX5_load 0 = .ok (.aload_n 0, 1) := by decide +kernel
theorem dX5_load_1 : decode cX5_load 1 = .ok (.bipush 100, 2) := by decide +kernel
theorem dX5_load_3 : decode cX5_load 3 = .ok (.aload_n 0, 1) := by decide +kernel
theorem dX5_load_4 : decode cX5_load 4 = .ok (.getfield 51, 3) := by decide +kernel
theorem dX5_load_7 : decode cX5_load 7 = .ok (.imul, 1) := by decide +kernel
theorem dX5_load_8 : decode cX5_load 8 = .ok (.aload_n 0, 1) := by decide +kernel
theorem dX5_load_9 : decode cX5_load 9 = .ok (.invokevirtual 108, 3) := by decide +kernel
theorem dX5_load_12 : decode cX5_load 12 = .ok (.aload_n 0, 1) := by decide +kernel
theorem dX5_load_13 : decode cX5_load 13 = .ok (.getfield 16, 3) := by decide +kernel
theorem dX5_load_16 : decode cX5_load 16 = .ok (.imul, 1) := by decide +kernel
theorem dX5_load_17 : decode cX5_load 17 = .ok (.idiv, 1) := by decide +kernel
theorem dX5_load_18 : decode cX5_load 18 = .ok (.invokevirtual 148, 3) := by decide +kernel
theorem dX5_load_21 : decode cX5_load 21 = .ok (.ireturn, 1) := by decide +kernel
theorem dX5_buckets_0 : decode cX5_buckets 0 = .ok (.iconst 0, 1) := by decide +kernel
theorem dX5_buckets_1 : decode cX5_buckets 1 = .ok (.istore_n 1, 1) := by decide +kernel
theorem dX5_buckets_2 : decode cX5_buckets 2 = .ok (.iconst 0, 1) := by decide +kernel
theorem dX5_buckets_3 : decode cX5_buckets 3 = .ok (.istore_n 2, 1) := by decide +kernel
theorem dX5_buckets_4 : decode cX5_buckets 4 = .ok (.iload_n 2, 1) := by decide +kernel
theorem dX5_buckets_5 : decode cX5_buckets 5 = .ok (.sipush 256, 3) := by decide +kernel
theorem dX5_buckets_8 : decode cX5_buckets 8 = .ok (.if_icmp .ge 25, 3) := by decide +kernel
theorem dX5_buckets_11 : decode cX5_buckets 11 = .ok (.iload_n 1, 1) := by decide +kernel
theorem dX5_buckets_12 : decode cX5_buckets 12 = .ok (.aload_n 0, 1) := by decide +kernel
theorem dX5_buckets_13 : decode cX5_buckets 13 = .ok (.iload_n 2, 1) := by decide +kernel
theorem dX5_buckets_14 : decode cX5_buckets 14 = .ok (.invokevirtual 154, 3) := by decide +kernel
theorem dX5_buckets_17 : decode cX5_buckets 17 = .ok (.ifCond .eq 7, 3) := by decide +kernel
theorem dX5_buckets_20 : decode cX5_buckets 20 = .ok (.iconst 1, 1) := by decide +kernel
theorem dX5_buckets_21 : decode cX5_buckets 21 = .ok (.goto 4, 3) := by decide +kernel
theorem dX5_buckets_24 : decode cX5_buckets 24 = .ok (.iconst 0, 1) := by decide +kernel
theorem dX5_buckets_25 : decode cX5_buckets 25 = .ok (.iadd, 1) := by decide +kernel
theorem dX5_buckets_26 : decode cX5_buckets 26 = .ok (.istore_n 1, 1) := by decide +kernel
theorem dX5_buckets_27 : decode cX5_buckets 27 = .ok (.iinc 2 1, 3) := by decide +kernel
theorem dX5_buckets_30 : decode cX5_buckets 30 = .ok (.goto (-26), 3) := by decide +kernel
theorem dX5_buckets_33 : decode cX5_buckets 33 = .ok (.aload_n 0, 1) := by decide +kernel
theorem dX5_buckets_34 : decode cX5_buckets 34 = .ok (.iload_n 1, 1) := by decide +kernel
theorem dX5_buckets_35 : decode cX5_buckets 35 = .ok (.invokevirtual 148, 3) := by decide +kernel
theorem dX5_buckets_38 : decode cX5_buckets 38 = .ok (.ireturn, 1) := by decide +kernel
theorem dX5_overflowPages_0 : decode cX5_overflowPages 0 = .ok (.iconst 0, 1) := by decide +kernel
theorem dX5_overflowPages_1 : decode cX5_overflowPages 1 = .ok (.istore_n 1, 1) := by decide +kernel
theorem dX5_overflowPages_2 : decode cX5_overflowPages 2 = .ok (.iconst 0, 1) := by decide +kernel
theorem dX5_overflowPages_3 : decode cX5_overflowPages 3 = .ok (.istore_n 2, 1) := by decide +kernel
theorem dX5_overflowPages_4 : decode cX5_overflowPages 4 = .ok (.iload_n 2, 1) := by decide +kernel
theorem dX5_overflowPages_5 : decode cX5_overflowPages 5 = .ok (.sipush 256, 3) := by decide +kernel
theorem dX5_overflowPages_8 : decode cX5_overflowPages 8 = .ok (.if_icmp .ge 39, 3) := by decide +kernel
theorem dX5_overflowPages_11 : decode cX5_overflowPages 11 = .ok (.iload_n 1, 1) := by decide +kernel
theorem dX5_overflowPages_12 : decode cX5_overflowPages 12 = .ok (.aload_n 0, 1) := by decide +kernel
theorem dX5_overflowPages_13 : decode cX5_overflowPages 13 = .ok (.iload_n 2, 1) := by decide +kernel
theorem dX5_overflowPages_14 : decode cX5_overflowPages 14 = .ok (.invokevirtual 154, 3) := by decide +kernel
theorem dX5_overflowPages_17 : decode cX5_overflowPages 17 = .ok (.ifCond .eq 21, 3) := by decide +kernel
theorem dX5_overflowPages_20 : decode cX5_overflowPages 20 = .ok (.aload_n 0, 1) := by decide +kernel
theorem dX5_overflowPages_21 : decode cX5_overflowPages 21 = .ok (.aload_n 0, 1) := by decide +kernel
theorem dX5_overflowPages_22 : decode cX5_overflowPages 22 = .ok (.iload_n 2, 1) := by decide +kernel
theorem dX5_overflowPages_23 : decode cX5_overflowPages 23 = .ok (.aload_n 0, 1) := by decide +kernel
theorem dX5_overflowPages_24 : decode cX5_overflowPages 24 = .ok (.getfield 26, 3) := by decide +kernel
theorem dX5_overflowPages_27 : decode cX5_overflowPages 27 = .ok (.iload_n 2, 1) := by decide +kernel
theorem dX5_overflowPages_28 : decode cX5_overflowPages 28 = .ok (.iaload, 1) := by decide +kernel
theorem dX5_overflowPages_29 : decode cX5_overflowPages 29 = .ok (.invokevirtual 65, 3) := by decide +kernel
theorem dX5_overflowPages_32 : decode cX5_overflowPages 32 = .ok (.invokevirtual 160, 3) := by decide +kernel
theorem dX5_overflowPages_35 : decode cX5_overflowPages 35 = .ok (.goto 4, 3) := by decide +kernel
theorem dX5_overflowPages_38 : decode cX5_overflowPages 38 = .ok (.iconst 0, 1) := by decide +kernel
theorem dX5_overflowPages_39 : decode cX5_overflowPages 39 = .ok (.iadd, 1) := by decide +kernel
theorem dX5_overflowPages_40 : decode cX5_overflowPages 40 = .ok (.istore_n 1, 1) := by decide +kernel
theorem dX5_overflowPages_41 : decode cX5_overflowPages 41 = .ok (.iinc 2 1, 3) := by decide +kernel
theorem dX5_overflowPages_44 : decode cX5_overflowPages 44 = .ok (.goto (-40), 3) := by decide +kernel
theorem dX5_overflowPages_47 : decode cX5_overflowPages 47 = .ok (.aload_n 0, 1) := by decide +kernel
theorem dX5_overflowPages_48 : decode cX5_overflowPages 48 = .ok (.iload_n 1, 1) := by decide +kernel
theorem dX5_overflowPages_49 : decode cX5_overflowPages 49 = .ok (.invokevirtual 148, 3) := by decide +kernel
theorem dX5_overflowPages_52 : decode cX5_overflowPages 52 = .ok (.ireturn, 1) := by decide +kernel
theorem dX5_inLinear_0 : decode cX5_inLinear 0 = .ok (.iconst 0, 1) := by decide +kernel
theorem dX5_inLinear_1 : decode cX5_inLinear 1 = .ok (.istore_n 2, 1) := by decide +kernel
theorem dX5_inLinear_2 : decode cX5_inLinear 2 = .ok (.iconst 0, 1) := by decide +kernel
theorem dX5_inLinear_3 : decode cX5_inLinear 3 = .ok (.istore_n 3, 1) := by decide +kernel
theorem dX5_inLinear_4 : decode cX5_inLinear 4 = .ok (.iload_n 3, 1) := by decide +kernel
theorem dX5_inLinear_5 : decode cX5_inLinear 5 = .ok (.aload_n 0, 1) := by decide +kernel
theorem dX5_inLinear_6 : decode cX5_inLinear 6 = .ok (.getfield 51, 3) := by decide +kernel
theorem dX5_inLinear_9 : decode cX5_inLinear 9 = .ok (.if_icmp .ge 31, 3) := by decide +kernel
theorem dX5_inLinear_12 : decode cX5_inLinear 12 = .ok (.iload_n 2, 1) := by decide +kernel
theorem dX5_inLinear_13 : decode cX5_inLinear 13 = .ok (.aload_n 0, 1) := by decide +kernel
theorem dX5_inLinear_14 : decode cX5_inLinear 14 = .ok (.aload_n 0, 1) := by decide +kernel
theorem dX5_inLinear_15 : decode cX5_inLinear 15 = .ok (.getfield 32, 3) := by decide +kernel
theorem dX5_inLinear_18 : decode cX5_inLinear 18 = .ok (.iload_n 3, 1) := by decide +kernel
theorem dX5_inLinear_19 : decode cX5_inLinear 19 = .ok (.iaload, 1) := by decide +kernel
theorem dX5_inLinear_20 : decode cX5_inLinear 20 = .ok (.invokevirtual 115, 3) := by decide +kernel
theorem dX5_inLinear_23 : decode cX5_inLinear 23 = .ok (.iload_n 1, 1) := by decide +kernel
theorem dX5_inLinear_24 : decode cX5_inLinear 24 = .ok (.if_icmp .ne 7, 3) := by decide +kernel
theorem dX5_inLinear_27 : decode cX5_inLinear 27 = .ok (.iconst 1, 1) := by decide +kernel
theorem dX5_inLinear_28 : decode cX5_inLinear 28 = .ok (.goto 4, 3) := by decide +kernel
theorem dX5_inLinear_31 : decode cX5_inLinear 31 = .ok (.iconst 0, 1) := by decide +kernel
theorem dX5_inLinear_32 : decode cX5_inLinear 32 = .ok (.iadd, 1) := by decide +kernel
theorem dX5_inLinear_33 : decode cX5_inLinear 33 = .ok (.istore_n 2, 1) := by decide +kernel
theorem dX5_inLinear_34 : decode cX5_inLinear 34 = .ok (.iinc 3 1, 3) := by decide +kernel
theorem dX5_inLinear_37 : decode cX5_inLinear 37 = .ok (.goto (-33), 3) := by decide +kernel
theorem dX5_inLinear_40 : decode cX5_inLinear 40 = .ok (.iload_n 2, 1) := by decide +kernel
theorem dX5_inLinear_41 : decode cX5_inLinear 41 = .ok (.ireturn, 1) := by decide +kernel
theorem dX5_linearOverflowPages_0 : decode cX5_linearOverflowPages 0 = .ok (.iconst 0, 1) := by decide +kernel
theorem dX5_linearOverflowPages_1 : decode cX5_linearOverflowPages 1 = .ok (.istore_n 1, 1) := by decide +kernel
theorem dX5_linearOverflowPages_2 : decode cX5_linearOverflowPages 2 = .ok (.iconst 0, 1) := by decide +kernel
theorem dX5_linearOverflowPages_3 : decode cX5_linearOverflowPages 3 = .ok (.istore_n 2, 1) := by decide +kernel
theorem dX5_linearOverflowPages_4 : decode cX5_linearOverflowPages 4 = .ok (.iload_n 2, 1) := by decide +kernel
theorem dX5_linearOverflowPages_5 : decode cX5_linearOverflowPages 5 = .ok (.aload_n 0, 1) := by decide +kernel
theorem dX5_linearOverflowPages_6 : decode cX5_linearOverflowPages 6 = .ok (.invokevirtual 108, 3) := by decide +kernel
theorem dX5_linearOverflowPages_9 : decode cX5_linearOverflowPages 9 = .ok (.if_icmp .ge 21, 3) := by decide +kernel
theorem dX5_linearOverflowPages_12 : decode cX5_linearOverflowPages 12 = .ok (.iload_n 1, 1) := by decide +kernel
theorem dX5_linearOverflowPages_13 : decode cX5_linearOverflowPages 13 = .ok (.aload_n 0, 1) := by decide +kernel
theorem dX5_linearOverflowPages_14 : decode cX5_linearOverflowPages 14 = .ok (.aload_n 0, 1) := by decide +kernel
theorem dX5_linearOverflowPages_15 : decode cX5_linearOverflowPages 15 = .ok (.iload_n 2, 1) := by decide +kernel
theorem dX5_linearOverflowPages_16 : decode cX5_linearOverflowPages 16 = .ok (.invokevirtual 166, 3) := by decide +kernel
theorem dX5_linearOverflowPages_19 : decode cX5_linearOverflowPages 19 = .ok (.invokevirtual 160, 3) := by decide +kernel
theorem dX5_linearOverflowPages_22 : decode cX5_linearOverflowPages 22 = .ok (.iadd, 1) := by decide +kernel
theorem dX5_linearOverflowPages_23 : decode cX5_linearOverflowPages 23 = .ok (.istore_n 1, 1) := by decide +kernel
theorem dX5_linearOverflowPages_24 : decode cX5_linearOverflowPages 24 = .ok (.iinc 2 1, 3) := by decide +kernel
theorem dX5_linearOverflowPages_27 : decode cX5_linearOverflowPages 27 = .ok (.goto (-23), 3) := by decide +kernel
theorem dX5_linearOverflowPages_30 : decode cX5_linearOverflowPages 30 = .ok (.aload_n 0, 1) := by decide +kernel
theorem dX5_linearOverflowPages_31 : decode cX5_linearOverflowPages 31 = .ok (.iload_n 1, 1) := by decide +kernel
theorem dX5_linearOverflowPages_32 : decode cX5_linearOverflowPages 32 = .ok (.invokevirtual 148, 3) := by decide +kernel
theorem dX5_linearOverflowPages_35 : decode cX5_linearOverflowPages 35 = .ok (.ireturn, 1) := by decide +kernel
theorem dX5_hashOf_0 : decode cX5_hashOf 0 = .ok (.aload_n 0, 1) := by decide +kernel
theorem dX5_hashOf_1 : decode cX5_hashOf 1 = .ok (.iload_n 1, 1) := by decide +kernel
theorem dX5_hashOf_2 : decode cX5_hashOf 2 = .ok (.invokevirtual 132, 3) := by decide +kernel
theorem dX5_hashOf_5 : decode cX5_hashOf 5 = .ok (.ifCond .eq 10, 3) := by decide +kernel
theorem dX5_hashOf_8 : decode cX5_hashOf 8 = .ok (.iload_n 1, 1) := by decide +kernel
theorem dX5_hashOf_9 : decode cX5_hashOf 9 = .ok (.invokestatic 54, 3) := by decide +kernel
theorem dX5_hashOf_12 : decode cX5_hashOf 12 = .ok (.goto 4, 3) := by decide +kernel
theorem dX5_hashOf_15 : decode cX5_hashOf 15 = .ok (.iconst 0, 1) := by decide +kernel
theorem dX5_hashOf_16 : decode cX5_hashOf 16 = .ok (.ireturn, 1) := by decide +kernel
theorem dX5_localDepth_0 : decode cX5_localDepth 0 = .ok (.aload_n 0, 1) := by decide +kernel
theorem dX5_localDepth_1 : decode cX5_localDepth 1 = .ok (.iload_n 1, 1) := by decide +kernel
theorem dX5_localDepth_2 : decode cX5_localDepth 2 = .ok (.invokevirtual 157, 3) := by decide +kernel
theorem dX5_localDepth_5 : decode cX5_localDepth 5 = .ok (.ifCond .eq 12, 3) := by decide +kernel
theorem dX5_localDepth_8 : decode cX5_localDepth 8 = .ok (.aload_n 0, 1) := by decide +kernel
theorem dX5_localDepth_9 : decode cX5_localDepth 9 = .ok (.getfield 26, 3) := by decide +kernel
theorem dX5_localDepth_12 : decode cX5_localDepth 12 = .ok (.iload_n 1, 1) := by decide +kernel
theorem dX5_localDepth_13 : decode cX5_localDepth 13 = .ok (.iaload, 1) := by decide +kernel
theorem dX5_localDepth_14 : decode cX5_localDepth 14 = .ok (.goto 4, 3) := by decide +kernel
theorem dX5_localDepth_17 : decode cX5_localDepth 17 = .ok (.iconst 0, 1) := by decide +kernel
theorem dX5_localDepth_18 : decode cX5_localDepth 18 = .ok (.ireturn, 1) := by decide +kernel
theorem dX5_bucketSize_0 : decode cX5_bucketSize 0 = .ok (.aload_n 0, 1) := by decide +kernel
theorem dX5_bucketSize_1 : decode cX5_bucketSize 1 = .ok (.iload_n 1, 1) := by decide +kernel
theorem dX5_bucketSize_2 : decode cX5_bucketSize 2 = .ok (.invokevirtual 157, 3) := by decide +kernel
theorem dX5_bucketSize_5 : decode cX5_bucketSize 5 = .ok (.ifCond .eq 17, 3) := by decide +kernel
theorem dX5_bucketSize_8 : decode cX5_bucketSize 8 = .ok (.aload_n 0, 1) := by decide +kernel
theorem dX5_bucketSize_9 : decode cX5_bucketSize 9 = .ok (.iload_n 1, 1) := by decide +kernel
theorem dX5_bucketSize_10 : decode cX5_bucketSize 10 = .ok (.aload_n 0, 1) := by decide +kernel
theorem dX5_bucketSize_11 : decode cX5_bucketSize 11 = .ok (.getfield 26, 3) := by decide +kernel
theorem dX5_bucketSize_14 : decode cX5_bucketSize 14 = .ok (.iload_n 1, 1) := by decide +kernel
theorem dX5_bucketSize_15 : decode cX5_bucketSize 15 = .ok (.iaload, 1) := by decide +kernel
theorem dX5_bucketSize_16 : decode cX5_bucketSize 16 = .ok (.invokevirtual 65, 3) := by decide +kernel
theorem dX5_bucketSize_19 : decode cX5_bucketSize 19 = .ok (.goto 4, 3) := by decide +kernel
theorem dX5_bucketSize_22 : decode cX5_bucketSize 22 = .ok (.iconst 0, 1) := by decide +kernel
theorem dX5_bucketSize_23 : decode cX5_bucketSize 23 = .ok (.ireturn, 1) := by decide +kernel
theorem dX5_slotOf_0 : decode cX5_slotOf 0 = .ok (.aload_n 0, 1) := by decide +kernel
theorem dX5_slotOf_1 : decode cX5_slotOf 1 = .ok (.iload_n 1, 1) := by decide +kernel
theorem dX5_slotOf_2 : decode cX5_slotOf 2 = .ok (.invokevirtual 132, 3) := by decide +kernel
theorem dX5_slotOf_5 : decode cX5_slotOf 5 = .ok (.ifCond .eq 17, 3) := by decide +kernel
theorem dX5_slotOf_8 : decode cX5_slotOf 8 = .ok (.iload_n 1, 1) := by decide +kernel
theorem dX5_slotOf_9 : decode cX5_slotOf 9 = .ok (.invokestatic 54, 3) := by decide +kernel
theorem dX5_slotOf_12 : decode cX5_slotOf 12 = .ok (.aload_n 0, 1) := by decide +kernel
theorem dX5_slotOf_13 : decode cX5_slotOf 13 = .ok (.getfield 68, 3) := by decide +kernel
theorem dX5_slotOf_16 : decode cX5_slotOf 16 = .ok (.invokestatic 58, 3) := by decide +kernel
theorem dX5_slotOf_19 : decode cX5_slotOf 19 = .ok (.goto 4, 3) := by decide +kernel
theorem dX5_slotOf_22 : decode cX5_slotOf 22 = .ok (.iconst 0, 1) := by decide +kernel
theorem dX5_slotOf_23 : decode cX5_slotOf 23 = .ok (.ireturn, 1) := by decide +kernel
theorem dX5_linearBucketOf_0 : decode cX5_linearBucketOf 0 = .ok (.aload_n 0, 1) := by decide +kernel
theorem dX5_linearBucketOf_1 : decode cX5_linearBucketOf 1 = .ok (.iload_n 1, 1) := by decide +kernel
theorem dX5_linearBucketOf_2 : decode cX5_linearBucketOf 2 = .ok (.invokevirtual 132, 3) := by decide +kernel
theorem dX5_linearBucketOf_5 : decode cX5_linearBucketOf 5 = .ok (.ifCond .eq 11, 3) := by decide +kernel
theorem dX5_linearBucketOf_8 : decode cX5_linearBucketOf 8 = .ok (.aload_n 0, 1) := by decide +kernel
theorem dX5_linearBucketOf_9 : decode cX5_linearBucketOf 9 = .ok (.iload_n 1, 1) := by decide +kernel
theorem dX5_linearBucketOf_10 : decode cX5_linearBucketOf 10 = .ok (.invokevirtual 115, 3) := by decide +kernel
theorem dX5_linearBucketOf_13 : decode cX5_linearBucketOf 13 = .ok (.goto 4, 3) := by decide +kernel
theorem dX5_linearBucketOf_16 : decode cX5_linearBucketOf 16 = .ok (.iconst 0, 1) := by decide +kernel
theorem dX5_linearBucketOf_17 : decode cX5_linearBucketOf 17 = .ok (.ireturn, 1) := by decide +kernel
theorem dX5_buddyOf_0 : decode cX5_buddyOf 0 = .ok (.aload_n 0, 1) := by decide +kernel
theorem dX5_buddyOf_1 : decode cX5_buddyOf 1 = .ok (.iload_n 1, 1) := by decide +kernel
theorem dX5_buddyOf_2 : decode cX5_buddyOf 2 = .ok (.invokevirtual 157, 3) := by decide +kernel
theorem dX5_buddyOf_5 : decode cX5_buddyOf 5 = .ok (.ifCond .ne 5, 3) := by decide +kernel
theorem dX5_buddyOf_8 : decode cX5_buddyOf 8 = .ok (.iconst 0, 1) := by decide +kernel
theorem dX5_buddyOf_9 : decode cX5_buddyOf 9 = .ok (.ireturn, 1) := by decide +kernel
theorem dX5_buddyOf_10 : decode cX5_buddyOf 10 = .ok (.aload_n 0, 1) := by decide +kernel
theorem dX5_buddyOf_11 : decode cX5_buddyOf 11 = .ok (.getfield 26, 3) := by decide +kernel
theorem dX5_buddyOf_14 : decode cX5_buddyOf 14 = .ok (.iload_n 1, 1) := by decide +kernel
theorem dX5_buddyOf_15 : decode cX5_buddyOf 15 = .ok (.iaload, 1) := by decide +kernel
theorem dX5_buddyOf_16 : decode cX5_buddyOf 16 = .ok (.istore_n 2, 1) := by decide +kernel
theorem dX5_buddyOf_17 : decode cX5_buddyOf 17 = .ok (.iload_n 2, 1) := by decide +kernel
theorem dX5_buddyOf_18 : decode cX5_buddyOf 18 = .ok (.ifCond .le 29, 3) := by decide +kernel
theorem dX5_buddyOf_21 : decode cX5_buddyOf 21 = .ok (.aload_n 0, 1) := by decide +kernel
theorem dX5_buddyOf_22 : decode cX5_buddyOf 22 = .ok (.getfield 26, 3) := by decide +kernel
theorem dX5_buddyOf_25 : decode cX5_buddyOf 25 = .ok (.aload_n 0, 1) := by decide +kernel
theorem dX5_buddyOf_26 : decode cX5_buddyOf 26 = .ok (.iload_n 1, 1) := by decide +kernel
theorem dX5_buddyOf_27 : decode cX5_buddyOf 27 = .ok (.invokevirtual 81, 3) := by decide +kernel
theorem dX5_buddyOf_30 : decode cX5_buddyOf 30 = .ok (.iaload, 1) := by decide +kernel
theorem dX5_buddyOf_31 : decode cX5_buddyOf 31 = .ok (.iload_n 2, 1) := by decide +kernel
theorem dX5_buddyOf_32 : decode cX5_buddyOf 32 = .ok (.if_icmp .ne 15, 3) := by decide +kernel
theorem dX5_buddyOf_35 : decode cX5_buddyOf 35 = .ok (.aload_n 0, 1) := by decide +kernel
theorem dX5_buddyOf_36 : decode cX5_buddyOf 36 = .ok (.iload_n 1, 1) := by decide +kernel
theorem dX5_buddyOf_37 : decode cX5_buddyOf 37 = .ok (.invokevirtual 81, 3) := by decide +kernel
theorem dX5_buddyOf_40 : decode cX5_buddyOf 40 = .ok (.iload_n 2, 1) := by decide +kernel
theorem dX5_buddyOf_41 : decode cX5_buddyOf 41 = .ok (.invokestatic 58, 3) := by decide +kernel
theorem dX5_buddyOf_44 : decode cX5_buddyOf 44 = .ok (.goto 4, 3) := by decide +kernel
theorem dX5_buddyOf_47 : decode cX5_buddyOf 47 = .ok (.iconst (-1), 1) := by decide +kernel
theorem dX5_buddyOf_48 : decode cX5_buddyOf 48 = .ok (.ireturn, 1) := by decide +kernel
theorem dX5_slotAt_0 : decode cX5_slotAt 0 = .ok (.aload_n 0, 1) := by decide +kernel
theorem dX5_slotAt_1 : decode cX5_slotAt 1 = .ok (.iload_n 1, 1) := by decide +kernel
theorem dX5_slotAt_2 : decode cX5_slotAt 2 = .ok (.iconst 0, 1) := by decide +kernel
theorem dX5_slotAt_3 : decode cX5_slotAt 3 = .ok (.sipush 255, 3) := by decide +kernel
theorem dX5_slotAt_6 : decode cX5_slotAt 6 = .ok (.invokestatic 42, 3) := by decide +kernel
theorem dX5_slotAt_9 : decode cX5_slotAt 9 = .ok (.invokevirtual 46, 3) := by decide +kernel
theorem dX5_slotAt_12 : decode cX5_slotAt 12 = .ok (.ifCond .eq 14, 3) := by decide +kernel
theorem dX5_slotAt_15 : decode cX5_slotAt 15 = .ok (.iload_n 1, 1) := by decide +kernel
theorem dX5_slotAt_16 : decode cX5_slotAt 16 = .ok (.aload_n 0, 1) := by decide +kernel
theorem dX5_slotAt_17 : decode cX5_slotAt 17 = .ok (.getfield 68, 3) := by decide +kernel
theorem dX5_slotAt_20 : decode cX5_slotAt 20 = .ok (.invokestatic 58, 3) := by decide +kernel
theorem dX5_slotAt_23 : decode cX5_slotAt 23 = .ok (.goto 4, 3) := by decide +kernel
theorem dX5_slotAt_26 : decode cX5_slotAt 26 = .ok (.iconst 0, 1) := by decide +kernel
theorem dX5_slotAt_27 : decode cX5_slotAt 27 = .ok (.ireturn, 1) := by decide +kernel
theorem dX5_reversed_0 : decode cX5_reversed 0 = .ok (.iconst 0, 1) := by decide +kernel
theorem dX5_reversed_1 : decode cX5_reversed 1 = .ok (.istore_n 2, 1) := by decide +kernel
theorem dX5_reversed_2 : decode cX5_reversed 2 = .ok (.iconst 0, 1) := by decide +kernel
theorem dX5_reversed_3 : decode cX5_reversed 3 = .ok (.istore_n 3, 1) := by decide +kernel
theorem dX5_reversed_4 : decode cX5_reversed 4 = .ok (.iload_n 3, 1) := by decide +kernel
theorem dX5_reversed_5 : decode cX5_reversed 5 = .ok (.iload_n 1, 1) := by decide +kernel
theorem dX5_reversed_6 : decode cX5_reversed 6 = .ok (.if_icmp .ge 19, 3) := by decide +kernel
theorem dX5_reversed_9 : decode cX5_reversed 9 = .ok (.iconst 2, 1) := by decide +kernel
theorem dX5_reversed_10 : decode cX5_reversed 10 = .ok (.iload_n 2, 1) := by decide +kernel
theorem dX5_reversed_11 : decode cX5_reversed 11 = .ok (.imul, 1) := by decide +kernel
theorem dX5_reversed_12 : decode cX5_reversed 12 = .ok (.iload_n 0, 1) := by decide +kernel
theorem dX5_reversed_13 : decode cX5_reversed 13 = .ok (.iload_n 3, 1) := by decide +kernel
theorem dX5_reversed_14 : decode cX5_reversed 14 = .ok (.ishr, 1) := by decide +kernel
theorem dX5_reversed_15 : decode cX5_reversed 15 = .ok (.iconst 1, 1) := by decide +kernel
theorem dX5_reversed_16 : decode cX5_reversed 16 = .ok (.iand, 1) := by decide +kernel
theorem dX5_reversed_17 : decode cX5_reversed 17 = .ok (.iadd, 1) := by decide +kernel
theorem dX5_reversed_18 : decode cX5_reversed 18 = .ok (.istore_n 2, 1) := by decide +kernel
theorem dX5_reversed_19 : decode cX5_reversed 19 = .ok (.iinc 3 1, 3) := by decide +kernel
theorem dX5_reversed_22 : decode cX5_reversed 22 = .ok (.goto (-18), 3) := by decide +kernel
theorem dX5_reversed_25 : decode cX5_reversed 25 = .ok (.iload_n 2, 1) := by decide +kernel
theorem dX5_reversed_26 : decode cX5_reversed 26 = .ok (.ireturn, 1) := by decide +kernel
theorem dX5_nextCursor_0 : decode cX5_nextCursor 0 = .ok (.aload_n 0, 1) := by decide +kernel
theorem dX5_nextCursor_1 : decode cX5_nextCursor 1 = .ok (.iload_n 1, 1) := by decide +kernel
theorem dX5_nextCursor_2 : decode cX5_nextCursor 2 = .ok (.iconst 0, 1) := by decide +kernel
theorem dX5_nextCursor_3 : decode cX5_nextCursor 3 = .ok (.sipush 255, 3) := by decide +kernel
theorem dX5_nextCursor_6 : decode cX5_nextCursor 6 = .ok (.invokestatic 42, 3) := by decide +kernel
theorem dX5_nextCursor_9 : decode cX5_nextCursor 9 = .ok (.invokevirtual 46, 3) := by decide +kernel
theorem dX5_nextCursor_12 : decode cX5_nextCursor 12 = .ok (.ifCond .ne 5, 3) := by decide +kernel
theorem dX5_nextCursor_15 : decode cX5_nextCursor 15 = .ok (.iconst 0, 1) := by decide +kernel
theorem dX5_nextCursor_16 : decode cX5_nextCursor 16 = .ok (.ireturn, 1) := by decide +kernel
theorem dX5_nextCursor_17 : decode cX5_nextCursor 17 = .ok (.aload_n 0, 1) := by decide +kernel
theorem dX5_nextCursor_18 : decode cX5_nextCursor 18 = .ok (.getfield 26, 3) := by decide +kernel
theorem dX5_nextCursor_21 : decode cX5_nextCursor 21 = .ok (.iload_n 1, 1) := by decide +kernel
theorem dX5_nextCursor_22 : decode cX5_nextCursor 22 = .ok (.aload_n 0, 1) := by decide +kernel
theorem dX5_nextCursor_23 : decode cX5_nextCursor 23 = .ok (.getfield 68, 3) := by decide +kernel
theorem dX5_nextCursor_26 : decode cX5_nextCursor 26 = .ok (.invokestatic 58, 3) := by decide +kernel
theorem dX5_nextCursor_29 : decode cX5_nextCursor 29 = .ok (.iaload, 1) := by decide +kernel
theorem dX5_nextCursor_30 : decode cX5_nextCursor 30 = .ok (.istore_n 2, 1) := by decide +kernel
theorem dX5_nextCursor_31 : decode cX5_nextCursor 31 = .ok (.iload_n 1, 1) := by decide +kernel
theorem dX5_nextCursor_32 : decode cX5_nextCursor 32 = .ok (.iload_n 2, 1) := by decide +kernel
theorem dX5_nextCursor_33 : decode cX5_nextCursor 33 = .ok (.invokestatic 163, 3) := by decide +kernel
theorem dX5_nextCursor_36 : decode cX5_nextCursor 36 = .ok (.iconst 1, 1) := by decide +kernel
theorem dX5_nextCursor_37 : decode cX5_nextCursor 37 = .ok (.iadd, 1) := by decide +kernel
theorem dX5_nextCursor_38 : decode cX5_nextCursor 38 = .ok (.istore_n 3, 1) := by decide +kernel
theorem dX5_nextCursor_39 : decode cX5_nextCursor 39 = .ok (.iload_n 3, 1) := by decide +kernel
theorem dX5_nextCursor_40 : decode cX5_nextCursor 40 = .ok (.iconst 1, 1) := by decide +kernel
theorem dX5_nextCursor_41 : decode cX5_nextCursor 41 = .ok (.iload_n 2, 1) := by decide +kernel
theorem dX5_nextCursor_42 : decode cX5_nextCursor 42 = .ok (.ishl, 1) := by decide +kernel
theorem dX5_nextCursor_43 : decode cX5_nextCursor 43 = .ok (.if_icmp .ne 7, 3) := by decide +kernel
theorem dX5_nextCursor_46 : decode cX5_nextCursor 46 = .ok (.iconst 0, 1) := by decide +kernel
theorem dX5_nextCursor_47 : decode cX5_nextCursor 47 = .ok (.goto 8, 3) := by decide +kernel
theorem dX5_nextCursor_50 : decode cX5_nextCursor 50 = .ok (.iload_n 3, 1) := by decide +kernel
theorem dX5_nextCursor_51 : decode cX5_nextCursor 51 = .ok (.iload_n 2, 1) := by decide +kernel
theorem dX5_nextCursor_52 : decode cX5_nextCursor 52 = .ok (.invokestatic 163, 3) := by decide +kernel
theorem dX5_nextCursor_55 : decode cX5_nextCursor 55 = .ok (.ireturn, 1) := by decide +kernel
theorem dX5_linearSize_0 : decode cX5_linearSize 0 = .ok (.aload_n 0, 1) := by decide +kernel
theorem dX5_linearSize_1 : decode cX5_linearSize 1 = .ok (.iload_n 1, 1) := by decide +kernel
theorem dX5_linearSize_2 : decode cX5_linearSize 2 = .ok (.iconst 0, 1) := by decide +kernel
theorem dX5_linearSize_3 : decode cX5_linearSize 3 = .ok (.aload_n 0, 1) := by decide +kernel
theorem dX5_linearSize_4 : decode cX5_linearSize 4 = .ok (.invokevirtual 108, 3) := by decide +kernel
theorem dX5_linearSize_7 : decode cX5_linearSize 7 = .ok (.iconst 1, 1) := by decide +kernel
theorem dX5_linearSize_8 : decode cX5_linearSize 8 = .ok (.isub, 1) := by decide +kernel
theorem dX5_linearSize_9 : decode cX5_linearSize 9 = .ok (.invokestatic 42, 3) := by decide +kernel
theorem dX5_linearSize_12 : decode cX5_linearSize 12 = .ok (.invokevirtual 46, 3) := by decide +kernel
theorem dX5_linearSize_15 : decode cX5_linearSize 15 = .ok (.ifCond .eq 11, 3) := by decide +kernel
theorem dX5_linearSize_18 : decode cX5_linearSize 18 = .ok (.aload_n 0, 1) := by decide +kernel
theorem dX5_linearSize_19 : decode cX5_linearSize 19 = .ok (.iload_n 1, 1) := by decide +kernel
theorem dX5_linearSize_20 : decode cX5_linearSize 20 = .ok (.invokevirtual 166, 3) := by decide +kernel
theorem dX5_linearSize_23 : decode cX5_linearSize 23 = .ok (.goto 4, 3) := by decide +kernel
theorem dX5_linearSize_26 : decode cX5_linearSize 26 = .ok (.iconst 0, 1) := by decide +kernel
theorem dX5_linearSize_27 : decode cX5_linearSize 27 = .ok (.ireturn, 1) := by decide +kernel
set_option maxHeartbeats 4000000 in
set_option maxRecDepth 100000 in
theorem c_X5_isSlot (l : Launch) (D : va_G) (cy : ClassId) (bb : Nat → Nat) (sto : Nat → Nat) (vas : Nat → Nat) (sz : Nat) (cap : Nat) (low : Nat) (hig : Nat) (dpt : Nat → Nat) (glo : Nat) (ext : Nat → Nat) (mdb : Int32) (mhl : Int32) (msp : Int32) (mmg : Int32) (lin : Nat → Nat) (mlv : Nat) (mpt : Nat) (mls : Int32) (mov : Nat → Nat) (thr : Nat) (sl : Int32) (S : List (Nat × Nat)) (dep : Nat → Nat) (E L : List Nat) (hMR : MR sto vas sz dpt ext lin mov S dep E L) (hMC : MC cap low hig glo mlv mpt dep)  : tq_I (S := Nat) l yX5_isSlot cX5_isSlot 2 (some .boolean) 1 22 0 0 D cy (wM cy bb sto vas sz cap low hig dpt glo ext mdb mhl msp mmg lin mlv mpt mls mov thr) [.ref (bb 0), .int (sl)] (fun r u => ((∃ k : Nat, k < 2 ^ glo ∧ sl = nI k) ∧ r = nI 1 ∧ u = 0) ∨ (¬ (∃ k : Nat, k < 2 ^ glo ∧ sl = nI k) ∧ r = nI 0 ∧ u = 1)) (fun u => (wM cy bb sto vas sz cap low hig dpt glo ext mdb mhl msp mmg lin mlv mpt mls mov u)) := by
  refine tq_I.mk (by decide) (Nat.le_of_ble_eq_true rfl) ?_
  intro p e s m args below meth c A C hP hK hD hS hA ls hl
  obtain ⟨hx, hb, hml, hown, hrt, hlk, hT⟩ := id C
  have hl : lv_has ls 2 [(0, .ref (bb 0)), (1, .int (sl))] := hl
  obtain ⟨hzS, hzE, hzL, hz120, hd, hAE, hAL, hPM, hKE, hKL, hSS, hbd⟩ := id hMR
  obtain ⟨hXo, hY, ⟨hcp1, hcp2⟩, ⟨hlo, hh1, hh2⟩⟩ := id hMC
  have hg8 := hXo.1
  have hp8 := p8 hg8
  have hp9 := p2_pos glo
  refine lv_aload_n hx hb dX5_isSlot_0 rfl (lv_at hl 0 rfl) ?_
  refine lv_iload_n hx hb dX5_isSlot_1 rfl (lv_at hl 1 rfl) ?_
  refine lv_iconst (v := nI 0) hx hb dX5_isSlot_2 (by decide) ?_
  refine lv_iconst (v := nI 1) hx hb dX5_isSlot_3 (by decide) ?_
  refine lv_aload_n hx hb dX5_isSlot_4 rfl (lv_at hl 0 rfl) ?_
  refine tq_get (C0 := RX5) (T := TX5) (N := 19) (ci := 5) (k := 7) C gX5 inX5 rfl (by decide) rfl fl_X5_68 hK hP 0 rfl rfl dX5_isSlot_5 ?_
  refine tq_ishl C (by omega) (by omega) dX5_isSlot_8 ?_
  refine tq_top (y := nI (2 ^ glo)) (by rw [Nat.one_mul]) ?_
  refine lv_iconst (v := nI 1) hx hb dX5_isSlot_9 (by decide) ?_
  refine tq_isub C hp9 dX5_isSlot_10 ?_
  refine tq_callF (va_runS C.fix (As := [.int (sl), .int (nI 0), .int (nI ((2 ^ glo) - 1))]) (rest := [.ref (bb 0)]) (c_X5_in l D cy sl (nI 0) (nI ((2 ^ glo) - 1))) (tq_cS (n := 3) C ml_X5_42 sm_X5_in ini_X5 cd_X5_in ⟨by decide, by decide, by decide +kernel⟩ ⟨Nat.le_of_ble_eq_true rfl, Nat.le_of_ble_eq_true rfl⟩) ⟨tq_Pf.blind, tq_preF C hK (hP.sub [] rfl)⟩ rfl rfl hl.1 rfl (lv_room (Nat.le_of_ble_eq_true rfl)) dX5_isSlot_11 ⟨Nat.le_of_ble_eq_true rfl, Nat.le_of_ble_eq_true rfl⟩) (fun r11 hr11 => ?_)
  rcases hr11 with ⟨hr11, rfl⟩ | ⟨hr11, rfl⟩
  · refine tq_callI (W3 := fun u => (wM cy bb sto vas sz cap low hig dpt glo ext mdb mhl msp mmg lin mlv mpt mls mov 0)) (wr := []) (va_runV C.fix (As := [.int (nI (1))]) (rest := []) ((c_X5_asked_1 l D cy bb sto vas sz cap low hig dpt glo ext mdb mhl msp mmg lin mlv mpt mls mov thr 1 rfl) s.heap.size) (tq_cV (n := 1) C ml_X5_46 im_X5_asked se_X5_asked ini_X5 cd_X5_asked ⟨by decide, by decide, by decide +kernel⟩ ⟨Nat.le_of_ble_eq_true rfl, Nat.le_of_ble_eq_true rfl⟩) ⟨tq_Pc.blind, va_recv hK hP (ci := 5) (q0 := 0) rfl rfl, tq_preC C hK hP hD⟩ rfl rfl hl.1 rfl (lv_room (Nat.le_of_ble_eq_true rfl)) dX5_isSlot_14 ⟨Nat.le_of_ble_eq_true rfl, Nat.le_of_ble_eq_true rfl⟩) hP hD hS hA [0, 1, 2, 3, 4, 5, 6] [] [0, 1, 2, 3, 4, 5, 6] rfl rfl (by decide) (by decide) (by decide) (fun _ => rfl) (fun r14 u14 H locs hr14 hP hD hS => ?_)
    have hP : va_P D vwCl (wM cy bb sto vas sz cap low hig dpt glo ext mdb mhl msp mmg lin mlv mpt mls mov 0) H := hP
    have hD : va_D A (wM cy bb sto vas sz cap low hig dpt glo ext mdb mhl msp mmg lin mlv mpt mls mov 0) := hD
    obtain rfl := hr14.symm
    exact tq_iret (v := (nI (1))) C (by decide) (0) hP hD hS (Or.inl ⟨(tq_rng (x := sl) (M := 2 ^ glo - 1) (by omega) (Int32.not_lt.mpr hr11.1) hr11.2).elim fun k hk => ⟨k, by omega, hk.2⟩, rfl, rfl⟩) (Nat.le_of_ble_eq_true rfl) (Nat.le_of_ble_eq_true rfl) dX5_isSlot_17
  · refine tq_callI (W3 := fun u => (wM cy bb sto vas sz cap low hig dpt glo ext mdb mhl msp mmg lin mlv mpt mls mov 1)) (wr := []) (va_runV C.fix (As := [.int (nI (0))]) (rest := []) ((c_X5_asked_0 l D cy bb sto vas sz cap low hig dpt glo ext mdb mhl msp mmg lin mlv mpt mls mov thr 0 rfl) s.heap.size) (tq_cV (n := 1) C ml_X5_46 im_X5_asked se_X5_asked ini_X5 cd_X5_asked ⟨by decide, by decide, by decide +kernel⟩ ⟨Nat.le_of_ble_eq_true rfl, Nat.le_of_ble_eq_true rfl⟩) ⟨tq_Pc.blind, va_recv hK hP (ci := 5) (q0 := 0) rfl rfl, tq_preC C hK hP hD⟩ rfl rfl hl.1 rfl (lv_room (Nat.le_of_ble_eq_true rfl)) dX5_isSlot_14 ⟨Nat.le_of_ble_eq_true rfl, Nat.le_of_ble_eq_true rfl⟩) hP hD hS hA [0, 1, 2, 3, 4, 5, 6] [] [0, 1, 2, 3, 4, 5, 6] rfl rfl (by decide) (by decide) (by decide) (fun _ => rfl) (fun r14 u14 H locs hr14 hP hD hS => ?_)
    have hP : va_P D vwCl (wM cy bb sto vas sz cap low hig dpt glo ext mdb mhl msp mmg lin mlv mpt mls mov 1) H := hP
    have hD : va_D A (wM cy bb sto vas sz cap low hig dpt glo ext mdb mhl msp mmg lin mlv mpt mls mov 1) := hD
    obtain rfl := hr14.symm
    exact tq_iret (v := (nI (0))) C (by decide) (1) hP hD hS (Or.inr ⟨fun ⟨k, hk, e9⟩ => hr11 (by subst e9; exact ⟨nI_le (Nat.zero_le k) (by omega), nI_le (by omega) (by omega)⟩), rfl, rfl⟩) (Nat.le_of_ble_eq_true rfl) (Nat.le_of_ble_eq_true rfl) dX5_isSlot_17
set_option maxHeartbeats 4000000 in
set_option maxRecDepth 100000 in
theorem c_X5_isLowest (l : Launch) (D : va_G) (cy : ClassId) (bb : Nat → Nat) (sto : Nat → Nat) (vas : Nat → Nat) (sz : Nat) (cap : Nat) (low : Nat) (hig : Nat) (dpt : Nat → Nat) (glo : Nat) (ext : Nat → Nat) (mdb : Int32) (mhl : Int32) (msp : Int32) (mmg : Int32) (lin : Nat → Nat) (mlv : Nat) (mpt : Nat) (mls : Int32) (mov : Nat → Nat) (thr : Nat) (pt : Nat) (hpt : pt < 256) (h8 : dpt pt ≤ 8) : tq_F l yX5_isLowest cX5_isLowest 2 (some .boolean) 0 0 D cy (wM cy bb sto vas sz cap low hig dpt glo ext mdb mhl msp mmg lin mlv mpt mls mov thr) [.ref (bb 0), .int (nI (pt))] (fun r => ((pt < 2 ^ dpt pt) ∧ r = nI 1) ∨ (¬ (pt < 2 ^ dpt pt) ∧ r = nI 0)) := by
  refine tq_F.mk (by decide) (Nat.le_of_ble_eq_true rfl) ?_
  intro p e s m args below meth c C hP hK ls hl
  obtain ⟨hx, hb, hml, hown, hrt, hlk, hT⟩ := id C
  have hl : lv_has ls 2 [(0, .ref (bb 0)), (1, .int (nI (pt)))] := hl
  refine lv_iload_n hx hb dX5_isLowest_0 rfl (lv_at hl 1 rfl) ?_
  refine lv_iconst (v := nI 1) hx hb dX5_isLowest_1 (by decide) ?_
  refine lv_aload_n hx hb dX5_isLowest_2 rfl (lv_at hl 0 rfl) ?_
  refine tq_get (C0 := RX5) (T := TX5) (N := 19) (ci := 5) (k := 6) C gX5 inX5 rfl (by decide) rfl fl_X5_26 hK hP 0 rfl rfl dX5_isLowest_3 ?_
  refine lv_iload_n hx hb dX5_isLowest_6 rfl (lv_at hl 1 rfl) ?_
  refine tq_iald (n := 256) (i := pt) (f := dpt) C hK hP 3 0 rfl rfl (by omega) (Nat.le_of_ble_eq_true rfl) dX5_isLowest_7 ?_
  refine tq_ishl C (by omega) (by have := p8 h8; omega) dX5_isLowest_8 ?_
  refine tq_top (y := nI (2 ^ (dpt pt))) (by rw [Nat.one_mul]) ?_
  refine tq_icmp_ge (tgt := 16) C (by omega) (by have := p8 h8; omega) dX5_isLowest_9 (by decide) (fun h9 => ?_) (fun h9 => ?_)
  · refine lv_iconst (v := nI 0) hx hb dX5_isLowest_16 (by decide) ?_
    exact tq_fret (v := (nI (0))) C (by decide) (Or.inr ⟨by omega, rfl⟩) dX5_isLowest_17
  · refine lv_iconst (v := nI 1) hx hb dX5_isLowest_12 (by decide) ?_
    refine lv_goto (tgt := 17) hx hb dX5_isLowest_13 (by decide) ?_
    exact tq_fret (v := (nI (1))) C (by decide) (Or.inl ⟨by omega, rfl⟩) dX5_isLowest_17
set_option maxHeartbeats 4000000 in
set_option maxRecDepth 100000 in
theorem c_X5_overflow (l : Launch) (D : va_G) (cy : ClassId) (bb : Nat → Nat) (sto : Nat → Nat) (vas : Nat → Nat) (sz : Nat) (cap : Nat) (low : Nat) (hig : Nat) (dpt : Nat → Nat) (glo : Nat) (ext : Nat → Nat) (mdb : Int32) (mhl : Int32) (msp : Int32) (mmg : Int32) (lin : Nat → Nat) (mlv : Nat) (mpt : Nat) (mls : Int32) (mov : Nat → Nat) (thr : Nat) (mn : Nat) (hmn : mn ≤ 120) (hcp1 : 1 ≤ cap) (hcp2 : cap ≤ 5) : tq_F l yX5_overflow cX5_overflow 2 (some .int) 0 0 D cy (wM cy bb sto vas sz cap low hig dpt glo ext mdb mhl msp mmg lin mlv mpt mls mov thr) [.ref (bb 0), .int (nI (mn))] (fun r => r = (nI ((mn - 1) / cap))) := by
  refine tq_F.mk (by decide) (Nat.le_of_ble_eq_true rfl) ?_
  intro p e s m args below meth c C hP hK ls hl
  obtain ⟨hx, hb, hml, hown, hrt, hlk, hT⟩ := id C
  have hl : lv_has ls 2 [(0, .ref (bb 0)), (1, .int (nI (mn)))] := hl
  refine lv_iload_n hx hb dX5_overflow_0 rfl (lv_at hl 1 rfl) ?_
  refine lv_aload_n hx hb dX5_overflow_1 rfl (lv_at hl 0 rfl) ?_
  refine tq_get (C0 := RX5) (T := TX5) (N := 19) (ci := 5) (k := 3) C gX5 inX5 rfl (by decide) rfl fl_X5_16 hK hP 0 rfl rfl dX5_overflow_2 ?_
  refine tq_icmp_le (tgt := 19) C (by omega) (by omega) dX5_overflow_5 (by decide) (fun h5 => ?_) (fun h5 => ?_)
  · refine lv_iconst (v := nI 0) hx hb dX5_overflow_19 (by decide) ?_
    exact tq_fret (v := (nI (0))) C rfl (by rw [Nat.div_eq_of_lt (by omega)]) dX5_overflow_20
  · refine lv_iload_n hx hb dX5_overflow_8 rfl (lv_at hl 1 rfl) ?_
    refine lv_iconst (v := nI 1) hx hb dX5_overflow_9 (by decide) ?_
    refine tq_isub C (by omega) dX5_overflow_10 ?_
    refine lv_aload_n hx hb dX5_overflow_11 rfl (lv_at hl 0 rfl) ?_
    refine tq_get (C0 := RX5) (T := TX5) (N := 19) (ci := 5) (k := 3) C gX5 inX5 rfl (by decide) rfl fl_X5_16 hK hP 0 rfl rfl dX5_overflow_12 ?_
    refine tq_idiv C hcp1 (by omega) (by omega) dX5_overflow_15 ?_
    refine lv_goto (tgt := 20) hx hb dX5_overflow_16 (by decide) ?_
    exact tq_fret (v := (nI ((mn - 1) / cap))) C rfl (rfl) dX5_overflow_20
set_option maxHeartbeats 4000000 in
set_option maxRecDepth 100000 in
theorem c_X5_size (l : Launch) (D : va_G) (cy : ClassId) (bb : Nat → Nat) (sto : Nat → Nat) (vas : Nat → Nat) (sz : Nat) (cap : Nat) (low : Nat) (hig : Nat) (dpt : Nat → Nat) (glo : Nat) (ext : Nat → Nat) (mdb : Int32) (mhl : Int32) (msp : Int32) (mmg : Int32) (lin : Nat → Nat) (mlv : Nat) (mpt : Nat) (mls : Int32) (mov : Nat → Nat) (thr : Nat)   : tq_I (S := Unit) l yX5_size cX5_size 1 (some .int) 1 21 0 0 D cy (wM cy bb sto vas sz cap low hig dpt glo ext mdb mhl msp mmg lin mlv mpt mls mov thr) [.ref (bb 0)] (fun r _ => r = (nI (sz))) (fun u => (wM cy bb sto vas sz cap low hig dpt glo ext mdb mhl msp mmg lin mlv mpt mls mov 0)) := by
  refine tq_I.mk (by decide) (Nat.le_of_ble_eq_true rfl) ?_
  intro p e s m args below meth c A C hP hK hD hS hA ls hl
  obtain ⟨hx, hb, hml, hown, hrt, hlk, hT⟩ := id C
  have hl : lv_has ls 1 [(0, .ref (bb 0))] := hl
  refine lv_aload_n hx hb dX5_size_0 rfl (lv_at hl 0 rfl) ?_
  refine lv_aload_n hx hb dX5_size_1 rfl (lv_at hl 0 rfl) ?_
  refine tq_get (C0 := RX5) (T := TX5) (N := 19) (ci := 5) (k := 2) C gX5 inX5 rfl (by decide) rfl fl_X5_51 hK hP 0 rfl rfl dX5_size_2 ?_
  refine tq_callI (W3 := fun u => (wM cy bb sto vas sz cap low hig dpt glo ext mdb mhl msp mmg lin mlv mpt mls mov 0)) (wr := []) (va_runV C.fix (As := [.int (nI (sz))]) (rest := []) ((c_X5_told l D cy bb sto vas sz cap low hig dpt glo ext mdb mhl msp mmg lin mlv mpt mls mov thr sz) s.heap.size) (tq_cV (n := 1) C ml_X5_148 im_X5_told se_X5_told ini_X5 cd_X5_told ⟨by decide, by decide, by decide +kernel⟩ ⟨Nat.le_of_ble_eq_true rfl, Nat.le_of_ble_eq_true rfl⟩) ⟨tq_Pc.blind, va_recv hK hP (ci := 5) (q0 := 0) rfl rfl, tq_preC C hK hP hD⟩ rfl rfl hl.1 rfl (lv_room (Nat.le_of_ble_eq_true rfl)) dX5_size_5 ⟨Nat.le_of_ble_eq_true rfl, Nat.le_of_ble_eq_true rfl⟩) hP hD hS hA [0, 1, 2, 3, 4, 5, 6] [] [0, 1, 2, 3, 4, 5, 6] rfl rfl (by decide) (by decide) (by decide) (fun _ => rfl) (fun r5 u5 H locs hr5 hP hD hS => ?_)
  have hP : va_P D vwCl (wM cy bb sto vas sz cap low hig dpt glo ext mdb mhl msp mmg lin mlv mpt mls mov 0) H := hP
  have hD : va_D A (wM cy bb sto vas sz cap low hig dpt glo ext mdb mhl msp mmg lin mlv mpt mls mov 0) := hD
  obtain rfl := hr5.symm
  exact tq_iret (v := (nI (sz))) C rfl () hP hD hS (rfl) (Nat.le_of_ble_eq_true rfl) (Nat.le_of_ble_eq_true rfl) dX5_size_8
set_option maxHeartbeats 4000000 in
set_option maxRecDepth 100000 in
theorem c_X5_globalDepth (l : Launch) (D : va_G) (cy : ClassId) (bb : Nat → Nat) (sto : Nat → Nat) (vas : Nat → Nat) (sz : Nat) (cap : Nat) (low : Nat) (hig : Nat) (dpt : Nat → Nat) (glo : Nat) (ext : Nat → Nat) (mdb : Int32) (mhl : Int32) (msp : Int32) (mmg : Int32) (lin : Nat → Nat) (mlv : Nat) (mpt : Nat) (mls : Int32) (mov : Nat → Nat) (thr : Nat)   : tq_I (S := Unit) l yX5_globalDepth cX5_globalDepth 1 (some .int) 1 21 0 0 D cy (wM cy bb sto vas sz cap low hig dpt glo ext mdb mhl msp mmg lin mlv mpt mls mov thr) [.ref (bb 0)] (fun r _ => r = (nI (glo))) (fun u => (wM cy bb sto vas sz cap low hig dpt glo ext mdb mhl msp mmg lin mlv mpt mls mov 0)) := by
  refine tq_I.mk (by decide) (Nat.le_of_ble_eq_true rfl) ?_
  intro p e s m args below meth c A C hP hK hD hS hA ls hl
  obtain ⟨hx, hb, hml, hown, hrt, hlk, hT⟩ := id C
  have hl : lv_has ls 1 [(0, .ref (bb 0))] := hl
  refine lv_aload_n hx hb dX5_globalDepth_0 rfl (lv_at hl 0 rfl) ?_
  refine lv_aload_n hx hb dX5_globalDepth_1 rfl (lv_at hl 0 rfl) ?_
  refine tq_get (C0 := RX5) (T := TX5) (N := 19) (ci := 5) (k := 7) C gX5 inX5 rfl (by decide) rfl fl_X5_68 hK hP 0 rfl rfl dX5_globalDepth_2 ?_
  refine tq_callI (W3 := fun u => (wM cy bb sto vas sz cap low hig dpt glo ext mdb mhl msp mmg lin mlv mpt mls mov 0)) (wr := []) (va_runV C.fix (As := [.int (nI (glo))]) (rest := []) ((c_X5_told l D cy bb sto vas sz cap low hig dpt glo ext mdb mhl msp mmg lin mlv mpt mls mov thr glo) s.heap.size) (tq_cV (n := 1) C ml_X5_148 im_X5_told se_X5_told ini_X5 cd_X5_told ⟨by decide, by decide, by decide +kernel⟩ ⟨Nat.le_of_ble_eq_true rfl, Nat.le_of_ble_eq_true rfl⟩) ⟨tq_Pc.blind, va_recv hK hP (ci := 5) (q0 := 0) rfl rfl, tq_preC C hK hP hD⟩ rfl rfl hl.1 rfl (lv_room (Nat.le_of_ble_eq_true rfl)) dX5_globalDepth_5 ⟨Nat.le_of_ble_eq_true rfl, Nat.le_of_ble_eq_true rfl⟩) hP hD hS hA [0, 1, 2, 3, 4, 5, 6] [] [0, 1, 2, 3, 4, 5, 6] rfl rfl (by decide) (by decide) (by decide) (fun _ => rfl) (fun r5 u5 H locs hr5 hP hD hS => ?_)
  have hP : va_P D vwCl (wM cy bb sto vas sz cap low hig dpt glo ext mdb mhl msp mmg lin mlv mpt mls mov 0) H := hP
  have hD : va_D A (wM cy bb sto vas sz cap low hig dpt glo ext mdb mhl msp mmg lin mlv mpt mls mov 0) := hD
  obtain rfl := hr5.symm
  exact tq_iret (v := (nI (glo))) C rfl () hP hD hS (rfl) (Nat.le_of_ble_eq_true rfl) (Nat.le_of_ble_eq_true rfl) dX5_globalDepth_8
set_option maxHeartbeats 4000000 in
set_option maxRecDepth 100000 in
theorem c_X5_level (l : Launch) (D : va_G) (cy : ClassId) (bb : Nat → Nat) (sto : Nat → Nat) (vas : Nat → Nat) (sz : Nat) (cap : Nat) (low : Nat) (hig : Nat) (dpt : Nat → Nat) (glo : Nat) (ext : Nat → Nat) (mdb : Int32) (mhl : Int32) (msp : Int32) (mmg : Int32) (lin : Nat → Nat) (mlv : Nat) (mpt : Nat) (mls : Int32) (mov : Nat → Nat) (thr : Nat)   : tq_I (S := Unit) l yX5_level cX5_level 1 (some .int) 1 21 0 0 D cy (wM cy bb sto vas sz cap low hig dpt glo ext mdb mhl msp mmg lin mlv mpt mls mov thr) [.ref (bb 0)] (fun r _ => r = (nI (mlv))) (fun u => (wM cy bb sto vas sz cap low hig dpt glo ext mdb mhl msp mmg lin mlv mpt mls mov 0)) := by
  refine tq_I.mk (by decide) (Nat.le_of_ble_eq_true rfl) ?_
  intro p e s m args below meth c A C hP hK hD hS hA ls hl
  obtain ⟨hx, hb, hml, hown, hrt, hlk, hT⟩ := id C
  have hl : lv_has ls 1 [(0, .ref (bb 0))] := hl
  refine lv_aload_n hx hb dX5_level_0 rfl (lv_at hl 0 rfl) ?_
  refine lv_aload_n hx hb dX5_level_1 rfl (lv_at hl 0 rfl) ?_
  refine tq_get (C0 := RX5) (T := TX5) (N := 19) (ci := 5) (k := 14) C gX5 inX5 rfl (by decide) rfl fl_X5_102 hK hP 0 rfl rfl dX5_level_2 ?_
  refine tq_callI (W3 := fun u => (wM cy bb sto vas sz cap low hig dpt glo ext mdb mhl msp mmg lin mlv mpt mls mov 0)) (wr := []) (va_runV C.fix (As := [.int (nI (mlv))]) (rest := []) ((c_X5_told l D cy bb sto vas sz cap low hig dpt glo ext mdb mhl msp mmg lin mlv mpt mls mov thr mlv) s.heap.size) (tq_cV (n := 1) C ml_X5_148 im_X5_told se_X5_told ini_X5 cd_X5_told ⟨by decide, by decide, by decide +kernel⟩ ⟨Nat.le_of_ble_eq_true rfl, Nat.le_of_ble_eq_true rfl⟩) ⟨tq_Pc.blind, va_recv hK hP (ci := 5) (q0 := 0) rfl rfl, tq_preC C hK hP hD⟩ rfl rfl hl.1 rfl (lv_room (Nat.le_of_ble_eq_true rfl)) dX5_level_5 ⟨Nat.le_of_ble_eq_true rfl, Nat.le_of_ble_eq_true rfl⟩) hP hD hS hA [0, 1, 2, 3, 4, 5, 6] [] [0, 1, 2, 3, 4, 5, 6] rfl rfl (by decide) (by decide) (by decide) (fun _ => rfl) (fun r5 u5 H locs hr5 hP hD hS => ?_)
  have hP : va_P D vwCl (wM cy bb sto vas sz cap low hig dpt glo ext mdb mhl msp mmg lin mlv mpt mls mov 0) H := hP
  have hD : va_D A (wM cy bb sto vas sz cap low hig dpt glo ext mdb mhl msp mmg lin mlv mpt mls mov 0) := hD
  obtain rfl := hr5.symm
  exact tq_iret (v := (nI (mlv))) C rfl () hP hD hS (rfl) (Nat.le_of_ble_eq_true rfl) (Nat.le_of_ble_eq_true rfl) dX5_level_8
set_option maxHeartbeats 4000000 in
set_option maxRecDepth 100000 in
theorem c_X5_pointer (l : Launch) (D : va_G) (cy : ClassId) (bb : Nat → Nat) (sto : Nat → Nat) (vas : Nat → Nat) (sz : Nat) (cap : Nat) (low : Nat) (hig : Nat) (dpt : Nat → Nat) (glo : Nat) (ext : Nat → Nat) (mdb : Int32) (mhl : Int32) (msp : Int32) (mmg : Int32) (lin : Nat → Nat) (mlv : Nat) (mpt : Nat) (mls : Int32) (mov : Nat → Nat) (thr : Nat)   : tq_I (S := Unit) l yX5_pointer cX5_pointer 1 (some .int) 1 21 0 0 D cy (wM cy bb sto vas sz cap low hig dpt glo ext mdb mhl msp mmg lin mlv mpt mls mov thr) [.ref (bb 0)] (fun r _ => r = (nI (mpt))) (fun u => (wM cy bb sto vas sz cap low hig dpt glo ext mdb mhl msp mmg lin mlv mpt mls mov 0)) := by
  refine tq_I.mk (by decide) (Nat.le_of_ble_eq_true rfl) ?_
  intro p e s m args below meth c A C hP hK hD hS hA ls hl
  obtain ⟨hx, hb, hml, hown, hrt, hlk, hT⟩ := id C
  have hl : lv_has ls 1 [(0, .ref (bb 0))] := hl
  refine lv_aload_n hx hb dX5_pointer_0 rfl (lv_at hl 0 rfl) ?_
  refine lv_aload_n hx hb dX5_pointer_1 rfl (lv_at hl 0 rfl) ?_
  refine tq_get (C0 := RX5) (T := TX5) (N := 19) (ci := 5) (k := 15) C gX5 inX5 rfl (by decide) rfl fl_X5_105 hK hP 0 rfl rfl dX5_pointer_2 ?_
  refine tq_callI (W3 := fun u => (wM cy bb sto vas sz cap low hig dpt glo ext mdb mhl msp mmg lin mlv mpt mls mov 0)) (wr := []) (va_runV C.fix (As := [.int (nI (mpt))]) (rest := []) ((c_X5_told l D cy bb sto vas sz cap low hig dpt glo ext mdb mhl msp mmg lin mlv mpt mls mov thr mpt) s.heap.size) (tq_cV (n := 1) C ml_X5_148 im_X5_told se_X5_told ini_X5 cd_X5_told ⟨by decide, by decide, by decide +kernel⟩ ⟨Nat.le_of_ble_eq_true rfl, Nat.le_of_ble_eq_true rfl⟩) ⟨tq_Pc.blind, va_recv hK hP (ci := 5) (q0 := 0) rfl rfl, tq_preC C hK hP hD⟩ rfl rfl hl.1 rfl (lv_room (Nat.le_of_ble_eq_true rfl)) dX5_pointer_5 ⟨Nat.le_of_ble_eq_true rfl, Nat.le_of_ble_eq_true rfl⟩) hP hD hS hA [0, 1, 2, 3, 4, 5, 6] [] [0, 1, 2, 3, 4, 5, 6] rfl rfl (by decide) (by decide) (by decide) (fun _ => rfl) (fun r5 u5 H locs hr5 hP hD hS => ?_)
  have hP : va_P D vwCl (wM cy bb sto vas sz cap low hig dpt glo ext mdb mhl msp mmg lin mlv mpt mls mov 0) H := hP
  have hD : va_D A (wM cy bb sto vas sz cap low hig dpt glo ext mdb mhl msp mmg lin mlv mpt mls mov 0) := hD
  obtain rfl := hr5.symm
  exact tq_iret (v := (nI (mpt))) C rfl () hP hD hS (rfl) (Nat.le_of_ble_eq_true rfl) (Nat.le_of_ble_eq_true rfl) dX5_pointer_8
set_option maxHeartbeats 4000000 in
set_option maxRecDepth 100000 in
theorem c_X5_doublings (l : Launch) (D : va_G) (cy : ClassId) (bb : Nat → Nat) (sto : Nat → Nat) (vas : Nat → Nat) (sz : Nat) (cap : Nat) (low : Nat) (hig : Nat) (dpt : Nat → Nat) (glo : Nat) (ext : Nat → Nat) (mdb : Int32) (mhl : Int32) (msp : Int32) (mmg : Int32) (lin : Nat → Nat) (mlv : Nat) (mpt : Nat) (mls : Int32) (mov : Nat → Nat) (thr : Nat)   : tq_I (S := Unit) l yX5_doublings cX5_doublings 1 (some .int) 1 21 0 0 D cy (wM cy bb sto vas sz cap low hig dpt glo ext mdb mhl msp mmg lin mlv mpt mls mov thr) [.ref (bb 0)] (fun r _ => r = (mdb)) (fun u => (wM cy bb sto vas sz cap low hig dpt glo ext mdb mhl msp mmg lin mlv mpt mls mov 0)) := by
  refine tq_I.mk (by decide) (Nat.le_of_ble_eq_true rfl) ?_
  intro p e s m args below meth c A C hP hK hD hS hA ls hl
  obtain ⟨hx, hb, hml, hown, hrt, hlk, hT⟩ := id C
  have hl : lv_has ls 1 [(0, .ref (bb 0))] := hl
  refine lv_aload_n hx hb dX5_doublings_0 rfl (lv_at hl 0 rfl) ?_
  refine lv_aload_n hx hb dX5_doublings_1 rfl (lv_at hl 0 rfl) ?_
  refine tq_get (C0 := RX5) (T := TX5) (N := 19) (ci := 5) (k := 9) C gX5 inX5 rfl (by decide) rfl fl_X5_71 hK hP 0 rfl rfl dX5_doublings_2 ?_
  refine tq_callI (W3 := fun u => (wM cy bb sto vas sz cap low hig dpt glo ext mdb mhl msp mmg lin mlv mpt mls mov 0)) (wr := []) (va_runV C.fix (As := [.int (mdb)]) (rest := []) ((c_X5_told_i l D cy bb sto vas sz cap low hig dpt glo ext mdb mhl msp mmg lin mlv mpt mls mov thr mdb) s.heap.size) (tq_cV (n := 1) C ml_X5_148 im_X5_told se_X5_told ini_X5 cd_X5_told ⟨by decide, by decide, by decide +kernel⟩ ⟨Nat.le_of_ble_eq_true rfl, Nat.le_of_ble_eq_true rfl⟩) ⟨tq_Pc.blind, va_recv hK hP (ci := 5) (q0 := 0) rfl rfl, tq_preC C hK hP hD⟩ rfl rfl hl.1 rfl (lv_room (Nat.le_of_ble_eq_true rfl)) dX5_doublings_5 ⟨Nat.le_of_ble_eq_true rfl, Nat.le_of_ble_eq_true rfl⟩) hP hD hS hA [0, 1, 2, 3, 4, 5, 6] [] [0, 1, 2, 3, 4, 5, 6] rfl rfl (by decide) (by decide) (by decide) (fun _ => rfl) (fun r5 u5 H locs hr5 hP hD hS => ?_)
  have hP : va_P D vwCl (wM cy bb sto vas sz cap low hig dpt glo ext mdb mhl msp mmg lin mlv mpt mls mov 0) H := hP
  have hD : va_D A (wM cy bb sto vas sz cap low hig dpt glo ext mdb mhl msp mmg lin mlv mpt mls mov 0) := hD
  obtain rfl := hr5.symm
  exact tq_iret (v := (mdb)) C rfl () hP hD hS (rfl) (Nat.le_of_ble_eq_true rfl) (Nat.le_of_ble_eq_true rfl) dX5_doublings_8
set_option maxHeartbeats 4000000 in
set_option maxRecDepth 100000 in
theorem c_X5_halvings (l : Launch) (D : va_G) (cy : ClassId) (bb : Nat → Nat) (sto : Nat → Nat) (vas : Nat → Nat) (sz : Nat) (cap : Nat) (low : Nat) (hig : Nat) (dpt : Nat → Nat) (glo : Nat) (ext : Nat → Nat) (mdb : Int32) (mhl : Int32) (msp : Int32) (mmg : Int32) (lin : Nat → Nat) (mlv : Nat) (mpt : Nat) (mls : Int32) (mov : Nat → Nat) (thr : Nat)   : tq_I (S := Unit) l yX5_halvings cX5_halvings 1 (some .int) 1 21 0 0 D cy (wM cy bb sto vas sz cap low hig dpt glo ext mdb mhl msp mmg lin mlv mpt mls mov thr) [.ref (bb 0)] (fun r _ => r = (mhl)) (fun u => (wM cy bb sto vas sz cap low hig dpt glo ext mdb mhl msp mmg lin mlv mpt mls mov 0)) := by
  refine tq_I.mk (by decide) (Nat.le_of_ble_eq_true rfl) ?_
  intro p e s m args below meth c A C hP hK hD hS hA ls hl
  obtain ⟨hx, hb, hml, hown, hrt, hlk, hT⟩ := id C
  have hl : lv_has ls 1 [(0, .ref (bb 0))] := hl
  refine lv_aload_n hx hb dX5_halvings_0 rfl (lv_at hl 0 rfl) ?_
  refine lv_aload_n hx hb dX5_halvings_1 rfl (lv_at hl 0 rfl) ?_
  refine tq_get (C0 := RX5) (T := TX5) (N := 19) (ci := 5) (k := 10) C gX5 inX5 rfl (by decide) rfl fl_X5_99 hK hP 0 rfl rfl dX5_halvings_2 ?_
  refine tq_callI (W3 := fun u => (wM cy bb sto vas sz cap low hig dpt glo ext mdb mhl msp mmg lin mlv mpt mls mov 0)) (wr := []) (va_runV C.fix (As := [.int (mhl)]) (rest := []) ((c_X5_told_i l D cy bb sto vas sz cap low hig dpt glo ext mdb mhl msp mmg lin mlv mpt mls mov thr mhl) s.heap.size) (tq_cV (n := 1) C ml_X5_148 im_X5_told se_X5_told ini_X5 cd_X5_told ⟨by decide, by decide, by decide +kernel⟩ ⟨Nat.le_of_ble_eq_true rfl, Nat.le_of_ble_eq_true rfl⟩) ⟨tq_Pc.blind, va_recv hK hP (ci := 5) (q0 := 0) rfl rfl, tq_preC C hK hP hD⟩ rfl rfl hl.1 rfl (lv_room (Nat.le_of_ble_eq_true rfl)) dX5_halvings_5 ⟨Nat.le_of_ble_eq_true rfl, Nat.le_of_ble_eq_true rfl⟩) hP hD hS hA [0, 1, 2, 3, 4, 5, 6] [] [0, 1, 2, 3, 4, 5, 6] rfl rfl (by decide) (by decide) (by decide) (fun _ => rfl) (fun r5 u5 H locs hr5 hP hD hS => ?_)
  have hP : va_P D vwCl (wM cy bb sto vas sz cap low hig dpt glo ext mdb mhl msp mmg lin mlv mpt mls mov 0) H := hP
  have hD : va_D A (wM cy bb sto vas sz cap low hig dpt glo ext mdb mhl msp mmg lin mlv mpt mls mov 0) := hD
  obtain rfl := hr5.symm
  exact tq_iret (v := (mhl)) C rfl () hP hD hS (rfl) (Nat.le_of_ble_eq_true rfl) (Nat.le_of_ble_eq_true rfl) dX5_halvings_8
set_option maxHeartbeats 4000000 in
set_option maxRecDepth 100000 in
theorem c_X5_splits (l : Launch) (D : va_G) (cy : ClassId) (bb : Nat → Nat) (sto : Nat → Nat) (vas : Nat → Nat) (sz : Nat) (cap : Nat) (low : Nat) (hig : Nat) (dpt : Nat → Nat) (glo : Nat) (ext : Nat → Nat) (mdb : Int32) (mhl : Int32) (msp : Int32) (mmg : Int32) (lin : Nat → Nat) (mlv : Nat) (mpt : Nat) (mls : Int32) (mov : Nat → Nat) (thr : Nat)   : tq_I (S := Unit) l yX5_splits cX5_splits 1 (some .int) 1 21 0 0 D cy (wM cy bb sto vas sz cap low hig dpt glo ext mdb mhl msp mmg lin mlv mpt mls mov thr) [.ref (bb 0)] (fun r _ => r = (msp)) (fun u => (wM cy bb sto vas sz cap low hig dpt glo ext mdb mhl msp mmg lin mlv mpt mls mov 0)) := by
  refine tq_I.mk (by decide) (Nat.le_of_ble_eq_true rfl) ?_
  intro p e s m args below meth c A C hP hK hD hS hA ls hl
  obtain ⟨hx, hb, hml, hown, hrt, hlk, hT⟩ := id C
  have hl : lv_has ls 1 [(0, .ref (bb 0))] := hl
  refine lv_aload_n hx hb dX5_splits_0 rfl (lv_at hl 0 rfl) ?_
  refine lv_aload_n hx hb dX5_splits_1 rfl (lv_at hl 0 rfl) ?_
  refine tq_get (C0 := RX5) (T := TX5) (N := 19) (ci := 5) (k := 11) C gX5 inX5 rfl (by decide) rfl fl_X5_78 hK hP 0 rfl rfl dX5_splits_2 ?_
  refine tq_callI (W3 := fun u => (wM cy bb sto vas sz cap low hig dpt glo ext mdb mhl msp mmg lin mlv mpt mls mov 0)) (wr := []) (va_runV C.fix (As := [.int (msp)]) (rest := []) ((c_X5_told_i l D cy bb sto vas sz cap low hig dpt glo ext mdb mhl msp mmg lin mlv mpt mls mov thr msp) s.heap.size) (tq_cV (n := 1) C ml_X5_148 im_X5_told se_X5_told ini_X5 cd_X5_told ⟨by decide, by decide, by decide +kernel⟩ ⟨Nat.le_of_ble_eq_true rfl, Nat.le_of_ble_eq_true rfl⟩) ⟨tq_Pc.blind, va_recv hK hP (ci := 5) (q0 := 0) rfl rfl, tq_preC C hK hP hD⟩ rfl rfl hl.1 rfl (lv_room (Nat.le_of_ble_eq_true rfl)) dX5_splits_5 ⟨Nat.le_of_ble_eq_true rfl, Nat.le_of_ble_eq_true rfl⟩) hP hD hS hA [0, 1, 2, 3, 4, 5, 6] [] [0, 1, 2, 3, 4, 5, 6] rfl rfl (by decide) (by decide) (by decide) (fun _ => rfl) (fun r5 u5 H locs hr5 hP hD hS => ?_)
  have hP : va_P D vwCl (wM cy bb sto vas sz cap low hig dpt glo ext mdb mhl msp mmg lin mlv mpt mls mov 0) H := hP
  have hD : va_D A (wM cy bb sto vas sz cap low hig dpt glo ext mdb mhl msp mmg lin mlv mpt mls mov 0) := hD
  obtain rfl := hr5.symm
  exact tq_iret (v := (msp)) C rfl () hP hD hS (rfl) (Nat.le_of_ble_eq_true rfl) (Nat.le_of_ble_eq_true rfl) dX5_splits_8
set_option maxHeartbeats 4000000 in
set_option maxRecDepth 100000 in
theorem c_X5_merges (l : Launch) (D : va_G) (cy : ClassId) (bb : Nat → Nat) (sto : Nat → Nat) (vas : Nat → Nat) (sz : Nat) (cap : Nat) (low : Nat) (hig : Nat) (dpt : Nat → Nat) (glo : Nat) (ext : Nat → Nat) (mdb : Int32) (mhl : Int32) (msp : Int32) (mmg : Int32) (lin : Nat → Nat) (mlv : Nat) (mpt : Nat) (mls : Int32) (mov : Nat → Nat) (thr : Nat)   : tq_I (S := Unit) l yX5_merges cX5_merges 1 (some .int) 1 21 0 0 D cy (wM cy bb sto vas sz cap low hig dpt glo ext mdb mhl msp mmg lin mlv mpt mls mov thr) [.ref (bb 0)] (fun r _ => r = (mmg)) (fun u => (wM cy bb sto vas sz cap low hig dpt glo ext mdb mhl msp mmg lin mlv mpt mls mov 0)) := by
  refine tq_I.mk (by decide) (Nat.le_of_ble_eq_true rfl) ?_
  intro p e s m args below meth c A C hP hK hD hS hA ls hl
  obtain ⟨hx, hb, hml, hown, hrt, hlk, hT⟩ := id C
  have hl : lv_has ls 1 [(0, .ref (bb 0))] := hl
  refine lv_aload_n hx hb dX5_merges_0 rfl (lv_at hl 0 rfl) ?_
  refine lv_aload_n hx hb dX5_merges_1 rfl (lv_at hl 0 rfl) ?_
  refine tq_get (C0 := RX5) (T := TX5) (N := 19) (ci := 5) (k := 12) C gX5 inX5 rfl (by decide) rfl fl_X5_92 hK hP 0 rfl rfl dX5_merges_2 ?_
  refine tq_callI (W3 := fun u => (wM cy bb sto vas sz cap low hig dpt glo ext mdb mhl msp mmg lin mlv mpt mls mov 0)) (wr := []) (va_runV C.fix (As := [.int (mmg)]) (rest := []) ((c_X5_told_i l D cy bb sto vas sz cap low hig dpt glo ext mdb mhl msp mmg lin mlv mpt mls mov thr mmg) s.heap.size) (tq_cV (n := 1) C ml_X5_148 im_X5_told se_X5_told ini_X5 cd_X5_told ⟨by decide, by decide, by decide +kernel⟩ ⟨Nat.le_of_ble_eq_true rfl, Nat.le_of_ble_eq_true rfl⟩) ⟨tq_Pc.blind, va_recv hK hP (ci := 5) (q0 := 0) rfl rfl, tq_preC C hK hP hD⟩ rfl rfl hl.1 rfl (lv_room (Nat.le_of_ble_eq_true rfl)) dX5_merges_5 ⟨Nat.le_of_ble_eq_true rfl, Nat.le_of_ble_eq_true rfl⟩) hP hD hS hA [0, 1, 2, 3, 4, 5, 6] [] [0, 1, 2, 3, 4, 5, 6] rfl rfl (by decide) (by decide) (by decide) (fun _ => rfl) (fun r5 u5 H locs hr5 hP hD hS => ?_)
  have hP : va_P D vwCl (wM cy bb sto vas sz cap low hig dpt glo ext mdb mhl msp mmg lin mlv mpt mls mov 0) H := hP
  have hD : va_D A (wM cy bb sto vas sz cap low hig dpt glo ext mdb mhl msp mmg lin mlv mpt mls mov 0) := hD
  obtain rfl := hr5.symm
  exact tq_iret (v := (mmg)) C rfl () hP hD hS (rfl) (Nat.le_of_ble_eq_true rfl) (Nat.le_of_ble_eq_true rfl) dX5_merges_8
set_option maxHeartbeats 4000000 in
set_option maxRecDepth 100000 in
theorem c_X5_linearSplits (l : Launch) (D : va_G) (cy : ClassId) (bb : Nat → Nat) (sto : Nat → Nat) (vas : Nat → Nat) (sz : Nat) (cap : Nat) (low : Nat) (hig : Nat) (dpt : Nat → Nat) (glo : Nat) (ext : Nat → Nat) (mdb : Int32) (mhl : Int32) (msp : Int32) (mmg : Int32) (lin : Nat → Nat) (mlv : Nat) (mpt : Nat) (mls : Int32) (mov : Nat → Nat) (thr : Nat)   : tq_I (S := Unit) l yX5_linearSplits cX5_linearSplits 1 (some .int) 1 21 0 0 D cy (wM cy bb sto vas sz cap low hig dpt glo ext mdb mhl msp mmg lin mlv mpt mls mov thr) [.ref (bb 0)] (fun r _ => r = (mls)) (fun u => (wM cy bb sto vas sz cap low hig dpt glo ext mdb mhl msp mmg lin mlv mpt mls mov 0)) := by
  refine tq_I.mk (by decide) (Nat.le_of_ble_eq_true rfl) ?_
  intro p e s m args below meth c A C hP hK hD hS hA ls hl
  obtain ⟨hx, hb, hml, hown, hrt, hlk, hT⟩ := id C
  have hl : lv_has ls 1 [(0, .ref (bb 0))] := hl
  refine lv_aload_n hx hb dX5_linearSplits_0 rfl (lv_at hl 0 rfl) ?_
  refine lv_aload_n hx hb dX5_linearSplits_1 rfl (lv_at hl 0 rfl) ?_
  refine tq_get (C0 := RX5) (T := TX5) (N := 19) (ci := 5) (k := 16) C gX5 inX5 rfl (by decide) rfl fl_X5_112 hK hP 0 rfl rfl dX5_linearSplits_2 ?_
  refine tq_callI (W3 := fun u => (wM cy bb sto vas sz cap low hig dpt glo ext mdb mhl msp mmg lin mlv mpt mls mov 0)) (wr := []) (va_runV C.fix (As := [.int (mls)]) (rest := []) ((c_X5_told_i l D cy bb sto vas sz cap low hig dpt glo ext mdb mhl msp mmg lin mlv mpt mls mov thr mls) s.heap.size) (tq_cV (n := 1) C ml_X5_148 im_X5_told se_X5_told ini_X5 cd_X5_told ⟨by decide, by decide, by decide +kernel⟩ ⟨Nat.le_of_ble_eq_true rfl, Nat.le_of_ble_eq_true rfl⟩) ⟨tq_Pc.blind, va_recv hK hP (ci := 5) (q0 := 0) rfl rfl, tq_preC C hK hP hD⟩ rfl rfl hl.1 rfl (lv_room (Nat.le_of_ble_eq_true rfl)) dX5_linearSplits_5 ⟨Nat.le_of_ble_eq_true rfl, Nat.le_of_ble_eq_true rfl⟩) hP hD hS hA [0, 1, 2, 3, 4, 5, 6] [] [0, 1, 2, 3, 4, 5, 6] rfl rfl (by decide) (by decide) (by decide) (fun _ => rfl) (fun r5 u5 H locs hr5 hP hD hS => ?_)
  have hP : va_P D vwCl (wM cy bb sto vas sz cap low hig dpt glo ext mdb mhl msp mmg lin mlv mpt mls mov 0) H := hP
  have hD : va_D A (wM cy bb sto vas sz cap low hig dpt glo ext mdb mhl msp mmg lin mlv mpt mls mov 0) := hD
  obtain rfl := hr5.symm
  exact tq_iret (v := (mls)) C rfl () hP hD hS (rfl) (Nat.le_of_ble_eq_true rfl) (Nat.le_of_ble_eq_true rfl) dX5_linearSplits_8
set_option maxHeartbeats 4000000 in
set_option maxRecDepth 100000 in
theorem c_X5_thrown (l : Launch) (D : va_G) (cy : ClassId) (bb : Nat → Nat) (sto : Nat → Nat) (vas : Nat → Nat) (sz : Nat) (cap : Nat) (low : Nat) (hig : Nat) (dpt : Nat → Nat) (glo : Nat) (ext : Nat → Nat) (mdb : Int32) (mhl : Int32) (msp : Int32) (mmg : Int32) (lin : Nat → Nat) (mlv : Nat) (mpt : Nat) (mls : Int32) (mov : Nat → Nat) (thr : Nat)   : tq_F l yX5_thrown cX5_thrown 1 (some .int) 0 0 D cy (wM cy bb sto vas sz cap low hig dpt glo ext mdb mhl msp mmg lin mlv mpt mls mov thr) [.ref (bb 0)] (fun r => r = (nI (thr))) := by
  refine tq_F.mk (by decide) (Nat.le_of_ble_eq_true rfl) ?_
  intro p e s m args below meth c C hP hK ls hl
  obtain ⟨hx, hb, hml, hown, hrt, hlk, hT⟩ := id C
  have hl : lv_has ls 1 [(0, .ref (bb 0))] := hl
  refine lv_aload_n hx hb dX5_thrown_0 rfl (lv_at hl 0 rfl) ?_
  refine tq_get (C0 := RX5) (T := TX5) (N := 19) (ci := 5) (k := 18) C gX5 inX5 rfl (by decide) rfl fl_X5_38 hK hP 0 rfl rfl dX5_thrown_1 ?_
  exact tq_fret (v := (nI (thr))) C rfl (rfl) dX5_thrown_4
set_option maxHeartbeats 4000000 in
set_option maxRecDepth 100000 in
theorem c_X5_linearBuckets (l : Launch) (D : va_G) (cy : ClassId) (bb : Nat → Nat) (sto : Nat → Nat) (vas : Nat → Nat) (sz : Nat) (cap : Nat) (low : Nat) (hig : Nat) (dpt : Nat → Nat) (glo : Nat) (ext : Nat → Nat) (mdb : Int32) (mhl : Int32) (msp : Int32) (mmg : Int32) (lin : Nat → Nat) (mlv : Nat) (mpt : Nat) (mls : Int32) (mov : Nat → Nat) (thr : Nat)  (hY : YOK mlv mpt)  : tq_I (S := Unit) l yX5_linearBuckets cX5_linearBuckets 1 (some .int) 1 21 0 0 D cy (wM cy bb sto vas sz cap low hig dpt glo ext mdb mhl msp mmg lin mlv mpt mls mov thr) [.ref (bb 0)] (fun r _ => r = (nI (2 ^ mlv + mpt))) (fun u => (wM cy bb sto vas sz cap low hig dpt glo ext mdb mhl msp mmg lin mlv mpt mls mov 0)) := by
  refine tq_I.mk (by decide) (Nat.le_of_ble_eq_true rfl) ?_
  intro p e s m args below meth c A C hP hK hD hS hA ls hl
  obtain ⟨hx, hb, hml, hown, hrt, hlk, hT⟩ := id C
  have hl : lv_has ls 1 [(0, .ref (bb 0))] := hl
  refine lv_aload_n hx hb dX5_linearBuckets_0 rfl (lv_at hl 0 rfl) ?_
  refine lv_aload_n hx hb dX5_linearBuckets_1 rfl (lv_at hl 0 rfl) ?_
  refine tq_callF (va_runV C.fix (As := []) (rest := [.ref (bb 0)]) (c_X5_linearMany l D cy bb sto vas sz cap low hig dpt glo ext mdb mhl msp mmg lin mlv mpt mls mov thr hY) (tq_cV (n := 0) C ml_X5_108 im_X5_linearMany se_X5_linearMany ini_X5 cd_X5_linearMany ⟨by decide, by decide, by decide +kernel⟩ ⟨Nat.le_of_ble_eq_true rfl, Nat.le_of_ble_eq_true rfl⟩) ⟨tq_Pf.blind, va_recv hK hP (ci := 5) (q0 := 0) rfl rfl, tq_preF C hK hP⟩ rfl rfl hl.1 rfl (lv_room (Nat.le_of_ble_eq_true rfl)) dX5_linearBuckets_2 ⟨Nat.le_of_ble_eq_true rfl, Nat.le_of_ble_eq_true rfl⟩) (fun r2 hr2 => ?_)
  obtain rfl := hr2
  refine tq_callI (W3 := fun u => (wM cy bb sto vas sz cap low hig dpt glo ext mdb mhl msp mmg lin mlv mpt mls mov 0)) (wr := []) (va_runV C.fix (As := [.int (nI (2 ^ mlv + mpt))]) (rest := []) ((c_X5_told l D cy bb sto vas sz cap low hig dpt glo ext mdb mhl msp mmg lin mlv mpt mls mov thr (2 ^ mlv + mpt)) s.heap.size) (tq_cV (n := 1) C ml_X5_148 im_X5_told se_X5_told ini_X5 cd_X5_told ⟨by decide, by decide, by decide +kernel⟩ ⟨Nat.le_of_ble_eq_true rfl, Nat.le_of_ble_eq_true rfl⟩) ⟨tq_Pc.blind, va_recv hK hP (ci := 5) (q0 := 0) rfl rfl, tq_preC C hK hP hD⟩ rfl rfl hl.1 rfl (lv_room (Nat.le_of_ble_eq_true rfl)) dX5_linearBuckets_5 ⟨Nat.le_of_ble_eq_true rfl, Nat.le_of_ble_eq_true rfl⟩) hP hD hS hA [0, 1, 2, 3, 4, 5, 6] [] [0, 1, 2, 3, 4, 5, 6] rfl rfl (by decide) (by decide) (by decide) (fun _ => rfl) (fun r5 u5 H locs hr5 hP hD hS => ?_)
  have hP : va_P D vwCl (wM cy bb sto vas sz cap low hig dpt glo ext mdb mhl msp mmg lin mlv mpt mls mov 0) H := hP
  have hD : va_D A (wM cy bb sto vas sz cap low hig dpt glo ext mdb mhl msp mmg lin mlv mpt mls mov 0) := hD
  obtain rfl := hr5.symm
  exact tq_iret (v := (nI ((2 ^ mlv + mpt)))) C rfl () hP hD hS (rfl) (Nat.le_of_ble_eq_true rfl) (Nat.le_of_ble_eq_true rfl) dX5_linearBuckets_8
set_option maxHeartbeats 4000000 in
set_option maxRecDepth 100000 in
theorem c_X5_load (l : Launch) (D : va_G) (cy : ClassId) (bb : Nat → Nat) (sto : Nat → Nat) (vas : Nat → Nat) (sz : Nat) (cap : Nat) (low : Nat) (hig : Nat) (dpt : Nat → Nat) (glo : Nat) (ext : Nat → Nat) (mdb : Int32) (mhl : Int32) (msp : Int32) (mmg : Int32) (lin : Nat → Nat) (mlv : Nat) (mpt : Nat) (mls : Int32) (mov : Nat → Nat) (thr : Nat)  (S : List (Nat × Nat)) (dep : Nat → Nat) (E L : List Nat) (hMR : MR sto vas sz dpt ext lin mov S dep E L) (hMC : MC cap low hig glo mlv mpt dep)  : tq_I (S := Unit) l yX5_load cX5_load 1 (some .int) 1 21 0 0 D cy (wM cy bb sto vas sz cap low hig dpt glo ext mdb mhl msp mmg lin mlv mpt mls mov thr) [.ref (bb 0)] (fun r _ => r = (nI (100 * sz / ((2 ^ mlv + mpt) * cap)))) (fun u => (wM cy bb sto vas sz cap low hig dpt glo ext mdb mhl msp mmg lin mlv mpt mls mov 0)) := by
  refine tq_I.mk (by decide) (Nat.le_of_ble_eq_true rfl) ?_
  intro p e s m args below meth c A C hP hK hD hS hA ls hl
  obtain ⟨hx, hb, hml, hown, hrt, hlk, hT⟩ := id C
  have hl : lv_has ls 1 [(0, .ref (bb 0))] := hl
  obtain ⟨hzS, hzE, hzL, hz120, hd, hAE, hAL, hPM, hKE, hKL, hSS, hbd⟩ := id hMR
  obtain ⟨hXo, hY, ⟨hcp1, hcp2⟩, ⟨hlo, hh1, hh2⟩⟩ := id hMC
  have hlv9 := hY.lev
  have hp7 := p2_le (c := 7) hlv9
  have hpt := hY.1
  have hmn := hY.2
  have hm9 := Nat.mul_le_mul hmn hcp2
  have hm8 : 1 * 1 ≤ (2 ^ mlv + mpt) * cap := Nat.mul_le_mul (by have := p2_pos mlv; omega) hcp1
  refine lv_aload_n hx hb dX5_load_0 rfl (lv_at hl 0 rfl) ?_
  refine lv_bipush (v := nI 100) hx hb dX5_load_1 (by decide) ?_
  refine lv_aload_n hx hb dX5_load_3 rfl (lv_at hl 0 rfl) ?_
  refine tq_get (C0 := RX5) (T := TX5) (N := 19) (ci := 5) (k := 2) C gX5 inX5 rfl (by decide) rfl fl_X5_51 hK hP 0 rfl rfl dX5_load_4 ?_
  refine tq_imul C dX5_load_7 ?_
  refine lv_aload_n hx hb dX5_load_8 rfl (lv_at hl 0 rfl) ?_
  refine tq_callF (va_runV C.fix (As := []) (rest := [.int (nI (100 * sz)), .ref (bb 0)]) (c_X5_linearMany l D cy bb sto vas sz cap low hig dpt glo ext mdb mhl msp mmg lin mlv mpt mls mov thr hY) (tq_cV (n := 0) C ml_X5_108 im_X5_linearMany se_X5_linearMany ini_X5 cd_X5_linearMany ⟨by decide, by decide, by decide +kernel⟩ ⟨Nat.le_of_ble_eq_true rfl, Nat.le_of_ble_eq_true rfl⟩) ⟨tq_Pf.blind, va_recv hK hP (ci := 5) (q0 := 0) rfl rfl, tq_preF C hK hP⟩ rfl rfl hl.1 rfl (lv_room (Nat.le_of_ble_eq_true rfl)) dX5_load_9 ⟨Nat.le_of_ble_eq_true rfl, Nat.le_of_ble_eq_true rfl⟩) (fun r9 hr9 => ?_)
  obtain rfl := hr9
  refine lv_aload_n hx hb dX5_load_12 rfl (lv_at hl 0 rfl) ?_
  refine tq_get (C0 := RX5) (T := TX5) (N := 19) (ci := 5) (k := 3) C gX5 inX5 rfl (by decide) rfl fl_X5_16 hK hP 0 rfl rfl dX5_load_13 ?_
  refine tq_imul C dX5_load_16 ?_
  refine tq_idiv C (by omega) (by omega) (by omega) dX5_load_17 ?_
  refine tq_callI (W3 := fun u => (wM cy bb sto vas sz cap low hig dpt glo ext mdb mhl msp mmg lin mlv mpt mls mov 0)) (wr := []) (va_runV C.fix (As := [.int (nI ((100 * sz) / ((2 ^ mlv + mpt) * cap)))]) (rest := []) ((c_X5_told l D cy bb sto vas sz cap low hig dpt glo ext mdb mhl msp mmg lin mlv mpt mls mov thr ((100 * sz) / ((2 ^ mlv + mpt) * cap))) s.heap.size) (tq_cV (n := 1) C ml_X5_148 im_X5_told se_X5_told ini_X5 cd_X5_told ⟨by decide, by decide, by decide +kernel⟩ ⟨Nat.le_of_ble_eq_true rfl, Nat.le_of_ble_eq_true rfl⟩) ⟨tq_Pc.blind, va_recv hK hP (ci := 5) (q0 := 0) rfl rfl, tq_preC C hK hP hD⟩ rfl rfl hl.1 rfl (lv_room (Nat.le_of_ble_eq_true rfl)) dX5_load_18 ⟨Nat.le_of_ble_eq_true rfl, Nat.le_of_ble_eq_true rfl⟩) hP hD hS hA [0, 1, 2, 3, 4, 5, 6] [] [0, 1, 2, 3, 4, 5, 6] rfl rfl (by decide) (by decide) (by decide) (fun _ => rfl) (fun r18 u18 H locs hr18 hP hD hS => ?_)
  have hP : va_P D vwCl (wM cy bb sto vas sz cap low hig dpt glo ext mdb mhl msp mmg lin mlv mpt mls mov 0) H := hP
  have hD : va_D A (wM cy bb sto vas sz cap low hig dpt glo ext mdb mhl msp mmg lin mlv mpt mls mov 0) := hD
  obtain rfl := hr18.symm
  exact tq_iret (v := (nI (((100 * sz) / ((2 ^ mlv + mpt) * cap))))) C rfl () hP hD hS (rfl) (Nat.le_of_ble_eq_true rfl) (Nat.le_of_ble_eq_true rfl) dX5_load_21
set_option maxHeartbeats 4000000 in
set_option maxRecDepth 100000 in
theorem c_X5_buckets (l : Launch) (D : va_G) (cy : ClassId) (bb : Nat → Nat) (sto : Nat → Nat) (vas : Nat → Nat) (sz : Nat) (cap : Nat) (low : Nat) (hig : Nat) (dpt : Nat → Nat) (glo : Nat) (ext : Nat → Nat) (mdb : Int32) (mhl : Int32) (msp : Int32) (mmg : Int32) (lin : Nat → Nat) (mlv : Nat) (mpt : Nat) (mls : Int32) (mov : Nat → Nat) (thr : Nat)  (S : List (Nat × Nat)) (dep : Nat → Nat) (E L : List Nat) (hMR : MR sto vas sz dpt ext lin mov S dep E L) (hMC : MC cap low hig glo mlv mpt dep)  : tq_I (S := Unit) l yX5_buckets cX5_buckets 3 (some .int) 1 21 0 0 D cy (wM cy bb sto vas sz cap low hig dpt glo ext mdb mhl msp mmg lin mlv mpt mls mov thr) [.ref (bb 0)] (fun r _ => r = (nI (so (fun q => if q < 2 ^ dep q then 1 else 0) 256))) (fun u => (wM cy bb sto vas sz cap low hig dpt glo ext mdb mhl msp mmg lin mlv mpt mls mov 0)) := by
  refine tq_I.mk (by decide) (Nat.le_of_ble_eq_true rfl) ?_
  intro p e s m args below meth c A C hP hK hD hS hA ls hl
  obtain ⟨hx, hb, hml, hown, hrt, hlk, hT⟩ := id C
  have hl : lv_has ls 3 [(0, .ref (bb 0))] := hl
  obtain ⟨hzS, hzE, hzL, hz120, hd, hAE, hAL, hPM, hKE, hKL, hSS, hbd⟩ := id hMR
  obtain ⟨hXo, hY, ⟨hcp1, hcp2⟩, ⟨hlo, hh1, hh2⟩⟩ := id hMC
  have hd8 : ∀ q, q < 256 → dpt q ≤ 8 := fun q hq => by have := hd q hq; have := hXo.2.1 q hq; have := hXo.1; omega
  refine lv_iconst (v := nI 0) hx hb dX5_buckets_0 (by decide) ?_
  refine lv_istore_n (lv' := [(1, .int (nI (0))), (0, .ref (bb 0))]) hx hb dX5_buckets_1 rfl hl (by decide) rfl (fun ls hl => ?_)
  refine lv_iconst (v := nI 0) hx hb dX5_buckets_2 (by decide) ?_
  refine lv_istore_n (lv' := [(2, .int (nI (0))), (1, .int (nI (0))), (0, .ref (bb 0))]) hx hb dX5_buckets_3 rfl hl (by decide) rfl (fun ls hl => ?_)
  suffices hlp4 : ∀ (n4 : Nat) (i : Nat), 256 - i < n4 → (i ≤ 256) → ∀ (H : Heap) (locs : List Loc), va_P D vwCl (wM cy bb sto vas sz cap low hig dpt glo ext mdb mhl msp mmg lin mlv mpt mls mov thr) H → va_D A (wM cy bb sto vas sz cap low hig dpt glo ext mdb mhl msp mmg lin mlv mpt mls mov thr) → va_S A s.heap H locs → ∀ ls : Array Slot, lv_has ls 3 [(0, .ref (bb 0)), (1, .int (nI (so (fun q => if q < 2 ^ dep q then 1 else 0) i))), (2, .int (nI (i)))] → W p l e ({ frames := 1, cells := 0, slots := 0, locals := 21 } : Room) s m args below meth c H locs 0 0 (MQ below (va_Qi (S := Unit) (fun r _ => r = (nI (so (fun q => if q < 2 ^ dep q then 1 else 0) 256))) (tq_B D A (fun u => (wM cy bb sto vas sz cap low hig dpt glo ext mdb mhl msp mmg lin mlv mpt mls mov 0))) A) args s 0 0 A) (F0 m 4 ls []) from
    hlp4 257 0 (by omega) (by omega) _ _ hP hD hS _ (lv_sub hl [2, 1, 0] rfl)
  intro n4
  induction n4 with
  | zero => intro i hf; exact absurd hf (Nat.not_lt_zero _)
  | succ n4 ih4 =>
    intro i hf4 hi H locs hP hD hS ls hl
    refine lv_iload_n hx hb dX5_buckets_4 rfl (lv_at hl 2 rfl) ?_
    refine lv_sipush (v := nI 256) hx hb dX5_buckets_5 (by decide) ?_
    refine tq_icmp_ge (tgt := 33) C (by omega) (by omega) dX5_buckets_8 (by decide) (fun h8 => ?_) (fun h8 => ?_)
    · refine lv_aload_n hx hb dX5_buckets_33 rfl (lv_at hl 0 rfl) ?_
      refine lv_iload_n hx hb dX5_buckets_34 rfl (lv_at hl 1 rfl) ?_
      refine tq_callI (W3 := fun u => (wM cy bb sto vas sz cap low hig dpt glo ext mdb mhl msp mmg lin mlv mpt mls mov 0)) (wr := []) (va_runV C.fix (As := [.int (nI (so (fun q => if q < 2 ^ dep q then 1 else 0) i))]) (rest := []) ((c_X5_told l D cy bb sto vas sz cap low hig dpt glo ext mdb mhl msp mmg lin mlv mpt mls mov thr (so (fun q => if q < 2 ^ dep q then 1 else 0) i)) H.size) (tq_cV (n := 1) C ml_X5_148 im_X5_told se_X5_told ini_X5 cd_X5_told ⟨by decide, by decide, by decide +kernel⟩ ⟨Nat.le_of_ble_eq_true rfl, Nat.le_of_ble_eq_true rfl⟩) ⟨tq_Pc.blind, va_recv hK hP (ci := 5) (q0 := 0) rfl rfl, tq_preC C hK hP hD⟩ rfl rfl hl.1 rfl (lv_room (Nat.le_of_ble_eq_true rfl)) dX5_buckets_35 ⟨Nat.le_of_ble_eq_true rfl, Nat.le_of_ble_eq_true rfl⟩) hP hD hS hA [0, 1, 2, 3, 4, 5, 6] [] [0, 1, 2, 3, 4, 5, 6] rfl rfl (by decide) (by decide) (by decide) (fun _ => rfl) (fun r35 u35 H locs hr35 hP hD hS => ?_)
      have hP : va_P D vwCl (wM cy bb sto vas sz cap low hig dpt glo ext mdb mhl msp mmg lin mlv mpt mls mov 0) H := hP
      have hD : va_D A (wM cy bb sto vas sz cap low hig dpt glo ext mdb mhl msp mmg lin mlv mpt mls mov 0) := hD
      obtain rfl := hr35.symm
      exact tq_iret (v := (nI ((so (fun q => if q < 2 ^ dep q then 1 else 0) i)))) C rfl () hP hD hS (by rw [show i = 256 from by omega]) (Nat.le_of_ble_eq_true rfl) (Nat.le_of_ble_eq_true rfl) dX5_buckets_38
    · have hdi := hd i h8
      refine lv_iload_n hx hb dX5_buckets_11 rfl (lv_at hl 1 rfl) ?_
      refine lv_aload_n hx hb dX5_buckets_12 rfl (lv_at hl 0 rfl) ?_
      refine lv_iload_n hx hb dX5_buckets_13 rfl (lv_at hl 2 rfl) ?_
      refine tq_callF (va_runV C.fix (As := [.int (nI (i))]) (rest := [.int (nI (so (fun q => if q < 2 ^ dep q then 1 else 0) i))]) (c_X5_isLowest l D cy bb sto vas sz cap low hig dpt glo ext mdb mhl msp mmg lin mlv mpt mls mov thr i h8 (hd8 i h8)) (tq_cV (n := 1) C ml_X5_154 im_X5_isLowest se_X5_isLowest ini_X5 cd_X5_isLowest ⟨by decide, by decide, by decide +kernel⟩ ⟨Nat.le_of_ble_eq_true rfl, Nat.le_of_ble_eq_true rfl⟩) ⟨tq_Pf.blind, va_recv hK hP (ci := 5) (q0 := 0) rfl rfl, tq_preF C hK hP⟩ rfl rfl hl.1 rfl (lv_room (Nat.le_of_ble_eq_true rfl)) dX5_buckets_14 ⟨Nat.le_of_ble_eq_true rfl, Nat.le_of_ble_eq_true rfl⟩) (fun r14 hr14 => ?_)
      rcases hr14 with ⟨hr14, rfl⟩ | ⟨hr14, rfl⟩
      · refine lv_if_eq (tgt := 24) hx hb dX5_buckets_17 (by decide) (fun h9 => absurd h9 (by decide)) (fun _ => ?_)
        refine lv_iconst (v := nI 1) hx hb dX5_buckets_20 (by decide) ?_
        refine lv_goto (tgt := 25) hx hb dX5_buckets_21 (by decide) ?_
        refine tq_iadd C dX5_buckets_25 ?_
        refine lv_istore_n (lv' := [(1, .int (nI ((so (fun q => if q < 2 ^ dep q then 1 else 0) i) + 1))), (0, .ref (bb 0)), (2, .int (nI (i)))]) hx hb dX5_buckets_26 rfl hl (by decide) rfl (fun ls hl => ?_)
        refine lv_iinc (v := (nI (i + 1))) (lv' := [(2, .int (nI (i + 1))), (1, .int (nI ((so (fun q => if q < 2 ^ dep q then 1 else 0) i) + 1))), (0, .ref (bb 0))]) hx hb dX5_buckets_27 hl (k := 2) rfl (tq_inc1 _) (by decide) rfl (fun ls hl => ?_)
        refine lv_goto (tgt := 4) hx hb dX5_buckets_30 (by decide) ?_
        rw [show so (fun q => if q < 2 ^ dep q then 1 else 0) i + 1 = so (fun q => if q < 2 ^ dep q then 1 else 0) (i + 1) from by rw [hdi] at hr14; simp [so, hr14]] at hl
        exact ih4 (i + 1) (by omega) (by omega) _ _ hP hD hS _ (lv_sub hl [2, 1, 0] rfl)
      · refine lv_if_eq (tgt := 24) hx hb dX5_buckets_17 (by decide) (fun _ => ?_) (fun h9 => absurd (by decide : nI 0 = 0) h9)
        refine lv_iconst (v := nI 0) hx hb dX5_buckets_24 (by decide) ?_
        refine tq_iadd C dX5_buckets_25 ?_
        refine lv_istore_n (lv' := [(1, .int (nI ((so (fun q => if q < 2 ^ dep q then 1 else 0) i) + 0))), (0, .ref (bb 0)), (2, .int (nI (i)))]) hx hb dX5_buckets_26 rfl hl (by decide) rfl (fun ls hl => ?_)
        refine lv_iinc (v := (nI (i + 1))) (lv' := [(2, .int (nI (i + 1))), (1, .int (nI ((so (fun q => if q < 2 ^ dep q then 1 else 0) i) + 0))), (0, .ref (bb 0))]) hx hb dX5_buckets_27 hl (k := 2) rfl (tq_inc1 _) (by decide) rfl (fun ls hl => ?_)
        refine lv_goto (tgt := 4) hx hb dX5_buckets_30 (by decide) ?_
        rw [show so (fun q => if q < 2 ^ dep q then 1 else 0) i + 0 = so (fun q => if q < 2 ^ dep q then 1 else 0) (i + 1) from by rw [hdi] at hr14; simp [so, hr14]] at hl
        exact ih4 (i + 1) (by omega) (by omega) _ _ hP hD hS _ (lv_sub hl [2, 1, 0] rfl)
set_option maxHeartbeats 4000000 in
set_option maxRecDepth 100000 in
theorem c_X5_overflowPages (l : Launch) (D : va_G) (cy : ClassId) (bb : Nat → Nat) (sto : Nat → Nat) (vas : Nat → Nat) (sz : Nat) (cap : Nat) (low : Nat) (hig : Nat) (dpt : Nat → Nat) (glo : Nat) (ext : Nat → Nat) (mdb : Int32) (mhl : Int32) (msp : Int32) (mmg : Int32) (lin : Nat → Nat) (mlv : Nat) (mpt : Nat) (mls : Int32) (mov : Nat → Nat) (thr : Nat)  (S : List (Nat × Nat)) (dep : Nat → Nat) (E L : List Nat) (hMR : MR sto vas sz dpt ext lin mov S dep E L) (hMC : MC cap low hig glo mlv mpt dep)  : tq_I (S := Unit) l yX5_overflowPages cX5_overflowPages 3 (some .int) 3 67 0 0 D cy (wM cy bb sto vas sz cap low hig dpt glo ext mdb mhl msp mmg lin mlv mpt mls mov thr) [.ref (bb 0)] (fun r _ => r = (nI (so (fun q => if q < 2 ^ dep q then ((clB E q (dep q)).length - 1) / cap else 0) 256))) (fun u => (wM cy bb sto vas sz cap low hig dpt glo ext mdb mhl msp mmg lin mlv mpt mls mov 0)) := by
  refine tq_I.mk (by decide) (Nat.le_of_ble_eq_true rfl) ?_
  intro p e s m args below meth c A C hP hK hD hS hA ls hl
  obtain ⟨hx, hb, hml, hown, hrt, hlk, hT⟩ := id C
  have hl : lv_has ls 3 [(0, .ref (bb 0))] := hl
  obtain ⟨hzS, hzE, hzL, hz120, hd, hAE, hAL, hPM, hKE, hKL, hSS, hbd⟩ := id hMR
  obtain ⟨hXo, hY, ⟨hcp1, hcp2⟩, ⟨hlo, hh1, hh2⟩⟩ := id hMC
  have hd8 : ∀ q, q < 256 → dpt q ≤ 8 := fun q hq => by have := hd q hq; have := hXo.2.1 q hq; have := hXo.1; omega
  refine lv_iconst (v := nI 0) hx hb dX5_overflowPages_0 (by decide) ?_
  refine lv_istore_n (lv' := [(1, .int (nI (0))), (0, .ref (bb 0))]) hx hb dX5_overflowPages_1 rfl hl (by decide) rfl (fun ls hl => ?_)
  refine lv_iconst (v := nI 0) hx hb dX5_overflowPages_2 (by decide) ?_
  refine lv_istore_n (lv' := [(2, .int (nI (0))), (1, .int (nI (0))), (0, .ref (bb 0))]) hx hb dX5_overflowPages_3 rfl hl (by decide) rfl (fun ls hl => ?_)
  suffices hlp4 : ∀ (n4 : Nat) (i : Nat), 256 - i < n4 → (i ≤ 256) → ∀ (H : Heap) (locs : List Loc), va_P D vwCl (wM cy bb sto vas sz cap low hig dpt glo ext mdb mhl msp mmg lin mlv mpt mls mov thr) H → va_D A (wM cy bb sto vas sz cap low hig dpt glo ext mdb mhl msp mmg lin mlv mpt mls mov thr) → va_S A s.heap H locs → ∀ ls : Array Slot, lv_has ls 3 [(0, .ref (bb 0)), (1, .int (nI (so (fun q => if q < 2 ^ dep q then ((clB E q (dep q)).length - 1) / cap else 0) i))), (2, .int (nI (i)))] → W p l e ({ frames := 3, cells := 0, slots := 0, locals := 67 } : Room) s m args below meth c H locs 0 0 (MQ below (va_Qi (S := Unit) (fun r _ => r = (nI (so (fun q => if q < 2 ^ dep q then ((clB E q (dep q)).length - 1) / cap else 0) 256))) (tq_B D A (fun u => (wM cy bb sto vas sz cap low hig dpt glo ext mdb mhl msp mmg lin mlv mpt mls mov 0))) A) args s 0 0 A) (F0 m 4 ls []) from
    hlp4 257 0 (by omega) (by omega) _ _ hP hD hS _ (lv_sub hl [2, 1, 0] rfl)
  intro n4
  induction n4 with
  | zero => intro i hf; exact absurd hf (Nat.not_lt_zero _)
  | succ n4 ih4 =>
    intro i hf4 hi H locs hP hD hS ls hl
    refine lv_iload_n hx hb dX5_overflowPages_4 rfl (lv_at hl 2 rfl) ?_
    refine lv_sipush (v := nI 256) hx hb dX5_overflowPages_5 (by decide) ?_
    refine tq_icmp_ge (tgt := 47) C (by omega) (by omega) dX5_overflowPages_8 (by decide) (fun h8 => ?_) (fun h8 => ?_)
    · refine lv_aload_n hx hb dX5_overflowPages_47 rfl (lv_at hl 0 rfl) ?_
      refine lv_iload_n hx hb dX5_overflowPages_48 rfl (lv_at hl 1 rfl) ?_
      refine tq_callI (W3 := fun u => (wM cy bb sto vas sz cap low hig dpt glo ext mdb mhl msp mmg lin mlv mpt mls mov 0)) (wr := []) (va_runV C.fix (As := [.int (nI (so (fun q => if q < 2 ^ dep q then ((clB E q (dep q)).length - 1) / cap else 0) i))]) (rest := []) ((c_X5_told l D cy bb sto vas sz cap low hig dpt glo ext mdb mhl msp mmg lin mlv mpt mls mov thr (so (fun q => if q < 2 ^ dep q then ((clB E q (dep q)).length - 1) / cap else 0) i)) H.size) (tq_cV (n := 1) C ml_X5_148 im_X5_told se_X5_told ini_X5 cd_X5_told ⟨by decide, by decide, by decide +kernel⟩ ⟨Nat.le_of_ble_eq_true rfl, Nat.le_of_ble_eq_true rfl⟩) ⟨tq_Pc.blind, va_recv hK hP (ci := 5) (q0 := 0) rfl rfl, tq_preC C hK hP hD⟩ rfl rfl hl.1 rfl (lv_room (Nat.le_of_ble_eq_true rfl)) dX5_overflowPages_49 ⟨Nat.le_of_ble_eq_true rfl, Nat.le_of_ble_eq_true rfl⟩) hP hD hS hA [0, 1, 2, 3, 4, 5, 6] [] [0, 1, 2, 3, 4, 5, 6] rfl rfl (by decide) (by decide) (by decide) (fun _ => rfl) (fun r49 u49 H locs hr49 hP hD hS => ?_)
      have hP : va_P D vwCl (wM cy bb sto vas sz cap low hig dpt glo ext mdb mhl msp mmg lin mlv mpt mls mov 0) H := hP
      have hD : va_D A (wM cy bb sto vas sz cap low hig dpt glo ext mdb mhl msp mmg lin mlv mpt mls mov 0) := hD
      obtain rfl := hr49.symm
      exact tq_iret (v := (nI ((so (fun q => if q < 2 ^ dep q then ((clB E q (dep q)).length - 1) / cap else 0) i)))) C rfl () hP hD hS (by rw [show i = 256 from by omega]) (Nat.le_of_ble_eq_true rfl) (Nat.le_of_ble_eq_true rfl) dX5_overflowPages_52
    · have hdi := hd i h8
      have hcl : cntB E i (dpt i) ≤ 120 := by unfold cntB; exact Nat.le_trans (List.length_filter_le _ _) (by omega)
      have hcc : cntB E i (dpt i) = (clB E i (dep i)).length := by rw [hdi]; rfl
      refine lv_iload_n hx hb dX5_overflowPages_11 rfl (lv_at hl 1 rfl) ?_
      refine lv_aload_n hx hb dX5_overflowPages_12 rfl (lv_at hl 0 rfl) ?_
      refine lv_iload_n hx hb dX5_overflowPages_13 rfl (lv_at hl 2 rfl) ?_
      refine tq_callF (va_runV C.fix (As := [.int (nI (i))]) (rest := [.int (nI (so (fun q => if q < 2 ^ dep q then ((clB E q (dep q)).length - 1) / cap else 0) i))]) (c_X5_isLowest l D cy bb sto vas sz cap low hig dpt glo ext mdb mhl msp mmg lin mlv mpt mls mov thr i h8 (hd8 i h8)) (tq_cV (n := 1) C ml_X5_154 im_X5_isLowest se_X5_isLowest ini_X5 cd_X5_isLowest ⟨by decide, by decide, by decide +kernel⟩ ⟨Nat.le_of_ble_eq_true rfl, Nat.le_of_ble_eq_true rfl⟩) ⟨tq_Pf.blind, va_recv hK hP (ci := 5) (q0 := 0) rfl rfl, tq_preF C hK hP⟩ rfl rfl hl.1 rfl (lv_room (Nat.le_of_ble_eq_true rfl)) dX5_overflowPages_14 ⟨Nat.le_of_ble_eq_true rfl, Nat.le_of_ble_eq_true rfl⟩) (fun r14 hr14 => ?_)
      rcases hr14 with ⟨hr14, rfl⟩ | ⟨hr14, rfl⟩
      · refine lv_if_eq (tgt := 38) hx hb dX5_overflowPages_17 (by decide) (fun h9 => absurd h9 (by decide)) (fun _ => ?_)
        refine lv_aload_n hx hb dX5_overflowPages_20 rfl (lv_at hl 0 rfl) ?_
        refine lv_aload_n hx hb dX5_overflowPages_21 rfl (lv_at hl 0 rfl) ?_
        refine lv_iload_n hx hb dX5_overflowPages_22 rfl (lv_at hl 2 rfl) ?_
        refine lv_aload_n hx hb dX5_overflowPages_23 rfl (lv_at hl 0 rfl) ?_
        refine tq_get (C0 := RX5) (T := TX5) (N := 19) (ci := 5) (k := 6) C gX5 inX5 rfl (by decide) rfl fl_X5_26 hK hP 0 rfl rfl dX5_overflowPages_24 ?_
        refine lv_iload_n hx hb dX5_overflowPages_27 rfl (lv_at hl 2 rfl) ?_
        refine tq_iald (n := 256) (i := i) (f := dpt) C hK hP 3 0 rfl rfl (by omega) (Nat.le_of_ble_eq_true rfl) dX5_overflowPages_28 ?_
        refine tq_callF (va_runV C.fix (As := [.int (nI (i)), .int (nI (dpt i))]) (rest := [.ref (bb 0), .int (nI (so (fun q => if q < 2 ^ dep q then ((clB E q (dep q)).length - 1) / cap else 0) i))]) (c_X5_inBucket l D cy bb sto vas sz cap low hig dpt glo ext mdb mhl msp mmg lin mlv mpt mls mov thr i (dpt i) E hAE hzE hz120 (fun j => (hbd j).2.2.1) (by omega) (by have := hd8 i h8; omega)) (tq_cV (n := 2) C ml_X5_65 im_X5_inBucket se_X5_inBucket ini_X5 cd_X5_inBucket ⟨by decide, by decide, by decide +kernel⟩ ⟨Nat.le_of_ble_eq_true rfl, Nat.le_of_ble_eq_true rfl⟩) ⟨tq_Pf.blind, va_recv hK hP (ci := 5) (q0 := 0) rfl rfl, tq_preF C hK hP⟩ rfl rfl hl.1 rfl (lv_room (Nat.le_of_ble_eq_true rfl)) dX5_overflowPages_29 ⟨Nat.le_of_ble_eq_true rfl, Nat.le_of_ble_eq_true rfl⟩) (fun r29 hr29 => ?_)
        obtain rfl := hr29
        refine tq_callF (va_runV C.fix (As := [.int (nI (cntB E i (dpt i)))]) (rest := [.int (nI (so (fun q => if q < 2 ^ dep q then ((clB E q (dep q)).length - 1) / cap else 0) i))]) (c_X5_overflow l D cy bb sto vas sz cap low hig dpt glo ext mdb mhl msp mmg lin mlv mpt mls mov thr (cntB E i (dpt i)) hcl hcp1 hcp2) (tq_cV (n := 1) C ml_X5_160 im_X5_overflow se_X5_overflow ini_X5 cd_X5_overflow ⟨by decide, by decide, by decide +kernel⟩ ⟨Nat.le_of_ble_eq_true rfl, Nat.le_of_ble_eq_true rfl⟩) ⟨tq_Pf.blind, va_recv hK hP (ci := 5) (q0 := 0) rfl rfl, tq_preF C hK hP⟩ rfl rfl hl.1 rfl (lv_room (Nat.le_of_ble_eq_true rfl)) dX5_overflowPages_32 ⟨Nat.le_of_ble_eq_true rfl, Nat.le_of_ble_eq_true rfl⟩) (fun r32 hr32 => ?_)
        obtain rfl := hr32
        refine lv_goto (tgt := 39) hx hb dX5_overflowPages_35 (by decide) ?_
        refine tq_iadd C dX5_overflowPages_39 ?_
        refine lv_istore_n (lv' := [(1, .int (nI ((so (fun q => if q < 2 ^ dep q then ((clB E q (dep q)).length - 1) / cap else 0) i) + (((cntB E i (dpt i)) - 1) / cap)))), (0, .ref (bb 0)), (2, .int (nI (i)))]) hx hb dX5_overflowPages_40 rfl hl (by decide) rfl (fun ls hl => ?_)
        refine lv_iinc (v := (nI (i + 1))) (lv' := [(2, .int (nI (i + 1))), (1, .int (nI ((so (fun q => if q < 2 ^ dep q then ((clB E q (dep q)).length - 1) / cap else 0) i) + (((cntB E i (dpt i)) - 1) / cap)))), (0, .ref (bb 0))]) hx hb dX5_overflowPages_41 hl (k := 2) rfl (tq_inc1 _) (by decide) rfl (fun ls hl => ?_)
        refine lv_goto (tgt := 4) hx hb dX5_overflowPages_44 (by decide) ?_
        rw [show so (fun q => if q < 2 ^ dep q then ((clB E q (dep q)).length - 1) / cap else 0) i + (cntB E i (dpt i) - 1) / cap = so (fun q => if q < 2 ^ dep q then ((clB E q (dep q)).length - 1) / cap else 0) (i + 1) from by rw [hdi] at hr14; show _ = so (fun q => if q < 2 ^ dep q then ((clB E q (dep q)).length - 1) / cap else 0) i + (if i < 2 ^ dep i then ((clB E i (dep i)).length - 1) / cap else 0); simp only [hcc, hr14, if_true, if_false]] at hl
        exact ih4 (i + 1) (by omega) (by omega) _ _ hP hD hS _ (lv_sub hl [2, 1, 0] rfl)
      · refine lv_if_eq (tgt := 38) hx hb dX5_overflowPages_17 (by decide) (fun _ => ?_) (fun h9 => absurd (by decide : nI 0 = 0) h9)
        refine lv_iconst (v := nI 0) hx hb dX5_overflowPages_38 (by decide) ?_
        refine tq_iadd C dX5_overflowPages_39 ?_
        refine lv_istore_n (lv' := [(1, .int (nI ((so (fun q => if q < 2 ^ dep q then ((clB E q (dep q)).length - 1) / cap else 0) i) + 0))), (0, .ref (bb 0)), (2, .int (nI (i)))]) hx hb dX5_overflowPages_40 rfl hl (by decide) rfl (fun ls hl => ?_)
        refine lv_iinc (v := (nI (i + 1))) (lv' := [(2, .int (nI (i + 1))), (1, .int (nI ((so (fun q => if q < 2 ^ dep q then ((clB E q (dep q)).length - 1) / cap else 0) i) + 0))), (0, .ref (bb 0))]) hx hb dX5_overflowPages_41 hl (k := 2) rfl (tq_inc1 _) (by decide) rfl (fun ls hl => ?_)
        refine lv_goto (tgt := 4) hx hb dX5_overflowPages_44 (by decide) ?_
        rw [show so (fun q => if q < 2 ^ dep q then ((clB E q (dep q)).length - 1) / cap else 0) i + 0 = so (fun q => if q < 2 ^ dep q then ((clB E q (dep q)).length - 1) / cap else 0) (i + 1) from by rw [hdi] at hr14; show _ = so (fun q => if q < 2 ^ dep q then ((clB E q (dep q)).length - 1) / cap else 0) i + (if i < 2 ^ dep i then ((clB E i (dep i)).length - 1) / cap else 0); simp only [hcc, hr14, if_true, if_false]] at hl
        exact ih4 (i + 1) (by omega) (by omega) _ _ hP hD hS _ (lv_sub hl [2, 1, 0] rfl)
set_option maxHeartbeats 4000000 in
set_option maxRecDepth 100000 in
theorem c_X5_inLinear (l : Launch) (D : va_G) (cy : ClassId) (bb : Nat → Nat) (sto : Nat → Nat) (vas : Nat → Nat) (sz : Nat) (cap : Nat) (low : Nat) (hig : Nat) (dpt : Nat → Nat) (glo : Nat) (ext : Nat → Nat) (mdb : Int32) (mhl : Int32) (msp : Int32) (mmg : Int32) (lin : Nat → Nat) (mlv : Nat) (mpt : Nat) (mls : Int32) (mov : Nat → Nat) (thr : Nat) (bk : Nat) (L : List Nat) (hL : AL lin L) (hsz : sz = L.length) (hsz2 : sz ≤ 120) (hbl : ∀ i, lin i < 65536) (hbk : bk < 65536) (hY : YOK mlv mpt)  : tq_F l yX5_inLinear cX5_inLinear 4 (some .int) 2 43 D cy (wM cy bb sto vas sz cap low hig dpt glo ext mdb mhl msp mmg lin mlv mpt mls mov thr) [.ref (bb 0), .int (nI (bk))] (fun r => r = (nI (lcnt L mlv mpt bk))) := by
  refine tq_F.mk (by decide) (Nat.le_of_ble_eq_true rfl) ?_
  intro p e s m args below meth c C hP hK ls hl
  obtain ⟨hx, hb, hml, hown, hrt, hlk, hT⟩ := id C
  have hl : lv_has ls 4 [(0, .ref (bb 0)), (1, .int (nI (bk)))] := hl
  have hlv9 := hY.lev
  have hp7 := p2_le (c := 7) hlv9
  have hpt := hY.1
  have hmn := hY.2
  refine lv_iconst (v := nI 0) hx hb dX5_inLinear_0 (by decide) ?_
  refine lv_istore_n (lv' := [(2, .int (nI (0))), (0, .ref (bb 0)), (1, .int (nI (bk)))]) hx hb dX5_inLinear_1 rfl hl (by decide) rfl (fun ls hl => ?_)
  refine lv_iconst (v := nI 0) hx hb dX5_inLinear_2 (by decide) ?_
  refine lv_istore_n (lv' := [(3, .int (nI (0))), (2, .int (nI (0))), (0, .ref (bb 0)), (1, .int (nI (bk)))]) hx hb dX5_inLinear_3 rfl hl (by decide) rfl (fun ls hl => ?_)
  suffices hlp4 : ∀ (n4 : Nat) (i : Nat), sz - i < n4 → (i ≤ sz) → ∀ ls : Array Slot, lv_has ls 4 [(0, .ref (bb 0)), (1, .int (nI (bk))), (2, .int (nI (lcnt (L.take i) mlv mpt bk))), (3, .int (nI (i)))] → W p l e ({ frames := 2, cells := 0, slots := 0, locals := 43 } : Room) s m args below meth c s.heap [] 0 0 (MQ below (tq_Qf (fun r => r = (nI (lcnt L mlv mpt bk)))) args s 0 0 (fun _ => False)) (F0 m 4 ls []) from
    hlp4 (sz + 1) 0 (by omega) (by omega) _ (lv_sub hl [2, 3, 1, 0] rfl)
  intro n4
  induction n4 with
  | zero => intro i hf; exact absurd hf (Nat.not_lt_zero _)
  | succ n4 ih4 =>
    intro i hf4 hi ls hl
    refine lv_iload_n hx hb dX5_inLinear_4 rfl (lv_at hl 3 rfl) ?_
    refine lv_aload_n hx hb dX5_inLinear_5 rfl (lv_at hl 0 rfl) ?_
    refine tq_get (C0 := RX5) (T := TX5) (N := 19) (ci := 5) (k := 2) C gX5 inX5 rfl (by decide) rfl fl_X5_51 hK hP 0 rfl rfl dX5_inLinear_6 ?_
    refine tq_icmp_ge (tgt := 40) C (by omega) (by omega) dX5_inLinear_9 (by decide) (fun h9 => ?_) (fun h9 => ?_)
    · refine lv_iload_n hx hb dX5_inLinear_40 rfl (lv_at hl 2 rfl) ?_
      exact tq_fret (v := (nI (lcnt (L.take i) mlv mpt bk))) C rfl (by rw [show i = L.length from by omega, List.take_length]) dX5_inLinear_41
    · have hi2 : i < L.length := by omega
      have hct := lcnt_take (v := mlv) (p := mpt) (r := bk) hi2
      rw [← hL i hi2] at hct
      have hlo9 := linOf_lt hpt (lin i)
      refine lv_iload_n hx hb dX5_inLinear_12 rfl (lv_at hl 2 rfl) ?_
      refine lv_aload_n hx hb dX5_inLinear_13 rfl (lv_at hl 0 rfl) ?_
      refine lv_aload_n hx hb dX5_inLinear_14 rfl (lv_at hl 0 rfl) ?_
      refine tq_get (C0 := RX5) (T := TX5) (N := 19) (ci := 5) (k := 13) C gX5 inX5 rfl (by decide) rfl fl_X5_32 hK hP 0 rfl rfl dX5_inLinear_15 ?_
      refine lv_iload_n hx hb dX5_inLinear_18 rfl (lv_at hl 3 rfl) ?_
      refine tq_iald (n := 120) (i := i) (f := lin) C hK hP 5 0 rfl rfl (by omega) (Nat.le_of_ble_eq_true rfl) dX5_inLinear_19 ?_
      refine tq_callF (va_runV C.fix (As := [.int (nI (lin i))]) (rest := [.int (nI (lcnt (L.take i) mlv mpt bk))]) (c_X5_linearOf l D cy bb sto vas sz cap low hig dpt glo ext mdb mhl msp mmg lin mlv mpt mls mov thr (lin i) hY (hbl i)) (tq_cV (n := 1) C ml_X5_115 im_X5_linearOf se_X5_linearOf ini_X5 cd_X5_linearOf ⟨by decide, by decide, by decide +kernel⟩ ⟨Nat.le_of_ble_eq_true rfl, Nat.le_of_ble_eq_true rfl⟩) ⟨tq_Pf.blind, va_recv hK hP (ci := 5) (q0 := 0) rfl rfl, tq_preF C hK hP⟩ rfl rfl hl.1 rfl (lv_room (Nat.le_of_ble_eq_true rfl)) dX5_inLinear_20 ⟨Nat.le_of_ble_eq_true rfl, Nat.le_of_ble_eq_true rfl⟩) (fun r20 hr20 => ?_)
      obtain rfl := hr20
      refine lv_iload_n hx hb dX5_inLinear_23 rfl (lv_at hl 1 rfl) ?_
      refine tq_icmp_ne (tgt := 31) C (by omega) (by omega) dX5_inLinear_24 (by decide) (fun h24 => ?_) (fun h24 => ?_)
      · rw [if_neg h24] at hct
        refine lv_iconst (v := nI 0) hx hb dX5_inLinear_31 (by decide) ?_
        refine tq_iadd C dX5_inLinear_32 ?_
        refine lv_istore_n (lv' := [(2, .int (nI ((lcnt (L.take i) mlv mpt bk) + 0))), (0, .ref (bb 0)), (1, .int (nI (bk))), (3, .int (nI (i)))]) hx hb dX5_inLinear_33 rfl hl (by decide) rfl (fun ls hl => ?_)
        refine lv_iinc (v := (nI (i + 1))) (lv' := [(3, .int (nI (i + 1))), (2, .int (nI ((lcnt (L.take i) mlv mpt bk) + 0))), (0, .ref (bb 0)), (1, .int (nI (bk)))]) hx hb dX5_inLinear_34 hl (k := 3) rfl (tq_inc1 _) (by decide) rfl (fun ls hl => ?_)
        refine lv_goto (tgt := 4) hx hb dX5_inLinear_37 (by decide) ?_
        rw [← hct] at hl
        exact ih4 (i + 1) (by omega) (by omega) _ (lv_sub hl [2, 3, 1, 0] rfl)
      · rw [if_pos h24] at hct
        refine lv_iconst (v := nI 1) hx hb dX5_inLinear_27 (by decide) ?_
        refine lv_goto (tgt := 32) hx hb dX5_inLinear_28 (by decide) ?_
        refine tq_iadd C dX5_inLinear_32 ?_
        refine lv_istore_n (lv' := [(2, .int (nI ((lcnt (L.take i) mlv mpt bk) + 1))), (0, .ref (bb 0)), (1, .int (nI (bk))), (3, .int (nI (i)))]) hx hb dX5_inLinear_33 rfl hl (by decide) rfl (fun ls hl => ?_)
        refine lv_iinc (v := (nI (i + 1))) (lv' := [(3, .int (nI (i + 1))), (2, .int (nI ((lcnt (L.take i) mlv mpt bk) + 1))), (0, .ref (bb 0)), (1, .int (nI (bk)))]) hx hb dX5_inLinear_34 hl (k := 3) rfl (tq_inc1 _) (by decide) rfl (fun ls hl => ?_)
        refine lv_goto (tgt := 4) hx hb dX5_inLinear_37 (by decide) ?_
        rw [← hct] at hl
        exact ih4 (i + 1) (by omega) (by omega) _ (lv_sub hl [2, 3, 1, 0] rfl)
set_option maxHeartbeats 4000000 in
set_option maxRecDepth 100000 in
theorem c_X5_linearOverflowPages (l : Launch) (D : va_G) (cy : ClassId) (bb : Nat → Nat) (sto : Nat → Nat) (vas : Nat → Nat) (sz : Nat) (cap : Nat) (low : Nat) (hig : Nat) (dpt : Nat → Nat) (glo : Nat) (ext : Nat → Nat) (mdb : Int32) (mhl : Int32) (msp : Int32) (mmg : Int32) (lin : Nat → Nat) (mlv : Nat) (mpt : Nat) (mls : Int32) (mov : Nat → Nat) (thr : Nat)  (S : List (Nat × Nat)) (dep : Nat → Nat) (E L : List Nat) (hMR : MR sto vas sz dpt ext lin mov S dep E L) (hMC : MC cap low hig glo mlv mpt dep)  : tq_I (S := Unit) l yX5_linearOverflowPages cX5_linearOverflowPages 3 (some .int) 3 66 0 0 D cy (wM cy bb sto vas sz cap low hig dpt glo ext mdb mhl msp mmg lin mlv mpt mls mov thr) [.ref (bb 0)] (fun r _ => r = (nI (so (fun q => ((lnB L mlv mpt q).length - 1) / cap) (2 ^ mlv + mpt)))) (fun u => (wM cy bb sto vas sz cap low hig dpt glo ext mdb mhl msp mmg lin mlv mpt mls mov 0)) := by
  refine tq_I.mk (by decide) (Nat.le_of_ble_eq_true rfl) ?_
  intro p e s m args below meth c A C hP hK hD hS hA ls hl
  obtain ⟨hx, hb, hml, hown, hrt, hlk, hT⟩ := id C
  have hl : lv_has ls 3 [(0, .ref (bb 0))] := hl
  obtain ⟨hzS, hzE, hzL, hz120, hd, hAE, hAL, hPM, hKE, hKL, hSS, hbd⟩ := id hMR
  obtain ⟨hXo, hY, ⟨hcp1, hcp2⟩, ⟨hlo, hh1, hh2⟩⟩ := id hMC
  have hlv9 := hY.lev
  have hp7 := p2_le (c := 7) hlv9
  have hpt := hY.1
  have hmn := hY.2
  refine lv_iconst (v := nI 0) hx hb dX5_linearOverflowPages_0 (by decide) ?_
  refine lv_istore_n (lv' := [(1, .int (nI (0))), (0, .ref (bb 0))]) hx hb dX5_linearOverflowPages_1 rfl hl (by decide) rfl (fun ls hl => ?_)
  refine lv_iconst (v := nI 0) hx hb dX5_linearOverflowPages_2 (by decide) ?_
  refine lv_istore_n (lv' := [(2, .int (nI (0))), (1, .int (nI (0))), (0, .ref (bb 0))]) hx hb dX5_linearOverflowPages_3 rfl hl (by decide) rfl (fun ls hl => ?_)
  suffices hlp4 : ∀ (n4 : Nat) (i : Nat), 2 ^ mlv + mpt - i < n4 → (i ≤ 2 ^ mlv + mpt) → ∀ (H : Heap) (locs : List Loc), va_P D vwCl (wM cy bb sto vas sz cap low hig dpt glo ext mdb mhl msp mmg lin mlv mpt mls mov thr) H → va_D A (wM cy bb sto vas sz cap low hig dpt glo ext mdb mhl msp mmg lin mlv mpt mls mov thr) → va_S A s.heap H locs → ∀ ls : Array Slot, lv_has ls 3 [(0, .ref (bb 0)), (1, .int (nI (so (fun q => ((lnB L mlv mpt q).length - 1) / cap) i))), (2, .int (nI (i)))] → W p l e ({ frames := 3, cells := 0, slots := 0, locals := 66 } : Room) s m args below meth c H locs 0 0 (MQ below (va_Qi (S := Unit) (fun r _ => r = (nI (so (fun q => ((lnB L mlv mpt q).length - 1) / cap) (2 ^ mlv + mpt)))) (tq_B D A (fun u => (wM cy bb sto vas sz cap low hig dpt glo ext mdb mhl msp mmg lin mlv mpt mls mov 0))) A) args s 0 0 A) (F0 m 4 ls []) from
    hlp4 (2 ^ mlv + mpt + 1) 0 (by omega) (Nat.zero_le _) _ _ hP hD hS _ (lv_sub hl [2, 1, 0] rfl)
  intro n4
  induction n4 with
  | zero => intro i hf; exact absurd hf (Nat.not_lt_zero _)
  | succ n4 ih4 =>
    intro i hf4 hi H locs hP hD hS ls hl
    refine lv_iload_n hx hb dX5_linearOverflowPages_4 rfl (lv_at hl 2 rfl) ?_
    refine lv_aload_n hx hb dX5_linearOverflowPages_5 rfl (lv_at hl 0 rfl) ?_
    refine tq_callF (va_runV C.fix (As := []) (rest := [.int (nI (i))]) (c_X5_linearMany l D cy bb sto vas sz cap low hig dpt glo ext mdb mhl msp mmg lin mlv mpt mls mov thr hY) (tq_cV (n := 0) C ml_X5_108 im_X5_linearMany se_X5_linearMany ini_X5 cd_X5_linearMany ⟨by decide, by decide, by decide +kernel⟩ ⟨Nat.le_of_ble_eq_true rfl, Nat.le_of_ble_eq_true rfl⟩) ⟨tq_Pf.blind, va_recv hK hP (ci := 5) (q0 := 0) rfl rfl, tq_preF C hK hP⟩ rfl rfl hl.1 rfl (lv_room (Nat.le_of_ble_eq_true rfl)) dX5_linearOverflowPages_6 ⟨Nat.le_of_ble_eq_true rfl, Nat.le_of_ble_eq_true rfl⟩) (fun r6 hr6 => ?_)
    obtain rfl := hr6
    refine tq_icmp_ge (tgt := 30) C (by omega) (by omega) dX5_linearOverflowPages_9 (by decide) (fun h9 => ?_) (fun h9 => ?_)
    · refine lv_aload_n hx hb dX5_linearOverflowPages_30 rfl (lv_at hl 0 rfl) ?_
      refine lv_iload_n hx hb dX5_linearOverflowPages_31 rfl (lv_at hl 1 rfl) ?_
      refine tq_callI (W3 := fun u => (wM cy bb sto vas sz cap low hig dpt glo ext mdb mhl msp mmg lin mlv mpt mls mov 0)) (wr := []) (va_runV C.fix (As := [.int (nI (so (fun q => ((lnB L mlv mpt q).length - 1) / cap) i))]) (rest := []) ((c_X5_told l D cy bb sto vas sz cap low hig dpt glo ext mdb mhl msp mmg lin mlv mpt mls mov thr (so (fun q => ((lnB L mlv mpt q).length - 1) / cap) i)) H.size) (tq_cV (n := 1) C ml_X5_148 im_X5_told se_X5_told ini_X5 cd_X5_told ⟨by decide, by decide, by decide +kernel⟩ ⟨Nat.le_of_ble_eq_true rfl, Nat.le_of_ble_eq_true rfl⟩) ⟨tq_Pc.blind, va_recv hK hP (ci := 5) (q0 := 0) rfl rfl, tq_preC C hK hP hD⟩ rfl rfl hl.1 rfl (lv_room (Nat.le_of_ble_eq_true rfl)) dX5_linearOverflowPages_32 ⟨Nat.le_of_ble_eq_true rfl, Nat.le_of_ble_eq_true rfl⟩) hP hD hS hA [0, 1, 2, 3, 4, 5, 6] [] [0, 1, 2, 3, 4, 5, 6] rfl rfl (by decide) (by decide) (by decide) (fun _ => rfl) (fun r32 u32 H locs hr32 hP hD hS => ?_)
      have hP : va_P D vwCl (wM cy bb sto vas sz cap low hig dpt glo ext mdb mhl msp mmg lin mlv mpt mls mov 0) H := hP
      have hD : va_D A (wM cy bb sto vas sz cap low hig dpt glo ext mdb mhl msp mmg lin mlv mpt mls mov 0) := hD
      obtain rfl := hr32.symm
      exact tq_iret (v := (nI ((so (fun q => ((lnB L mlv mpt q).length - 1) / cap) i)))) C rfl () hP hD hS (by rw [show i = 2 ^ mlv + mpt from by omega]) (Nat.le_of_ble_eq_true rfl) (Nat.le_of_ble_eq_true rfl) dX5_linearOverflowPages_35
    · have hcl : lcnt L mlv mpt i ≤ 120 := by unfold lcnt lnB; exact Nat.le_trans (List.length_filter_le _ _) (by omega)
      refine lv_iload_n hx hb dX5_linearOverflowPages_12 rfl (lv_at hl 1 rfl) ?_
      refine lv_aload_n hx hb dX5_linearOverflowPages_13 rfl (lv_at hl 0 rfl) ?_
      refine lv_aload_n hx hb dX5_linearOverflowPages_14 rfl (lv_at hl 0 rfl) ?_
      refine lv_iload_n hx hb dX5_linearOverflowPages_15 rfl (lv_at hl 2 rfl) ?_
      refine tq_callF (va_runV C.fix (As := [.int (nI (i))]) (rest := [.ref (bb 0), .int (nI (so (fun q => ((lnB L mlv mpt q).length - 1) / cap) i))]) (c_X5_inLinear l D cy bb sto vas sz cap low hig dpt glo ext mdb mhl msp mmg lin mlv mpt mls mov thr i L hAL hzL hz120 (fun j => (hbd j).2.2.2.1) (by omega) hY) (tq_cV (n := 1) C ml_X5_166 im_X5_inLinear se_X5_inLinear ini_X5 cd_X5_inLinear ⟨by decide, by decide, by decide +kernel⟩ ⟨Nat.le_of_ble_eq_true rfl, Nat.le_of_ble_eq_true rfl⟩) ⟨tq_Pf.blind, va_recv hK hP (ci := 5) (q0 := 0) rfl rfl, tq_preF C hK hP⟩ rfl rfl hl.1 rfl (lv_room (Nat.le_of_ble_eq_true rfl)) dX5_linearOverflowPages_16 ⟨Nat.le_of_ble_eq_true rfl, Nat.le_of_ble_eq_true rfl⟩) (fun r16 hr16 => ?_)
      obtain rfl := hr16
      refine tq_callF (va_runV C.fix (As := [.int (nI (lcnt L mlv mpt i))]) (rest := [.int (nI (so (fun q => ((lnB L mlv mpt q).length - 1) / cap) i))]) (c_X5_overflow l D cy bb sto vas sz cap low hig dpt glo ext mdb mhl msp mmg lin mlv mpt mls mov thr (lcnt L mlv mpt i) hcl hcp1 hcp2) (tq_cV (n := 1) C ml_X5_160 im_X5_overflow se_X5_overflow ini_X5 cd_X5_overflow ⟨by decide, by decide, by decide +kernel⟩ ⟨Nat.le_of_ble_eq_true rfl, Nat.le_of_ble_eq_true rfl⟩) ⟨tq_Pf.blind, va_recv hK hP (ci := 5) (q0 := 0) rfl rfl, tq_preF C hK hP⟩ rfl rfl hl.1 rfl (lv_room (Nat.le_of_ble_eq_true rfl)) dX5_linearOverflowPages_19 ⟨Nat.le_of_ble_eq_true rfl, Nat.le_of_ble_eq_true rfl⟩) (fun r19 hr19 => ?_)
      obtain rfl := hr19
      refine tq_iadd C dX5_linearOverflowPages_22 ?_
      refine lv_istore_n (lv' := [(1, .int (nI ((so (fun q => ((lnB L mlv mpt q).length - 1) / cap) i) + (((lcnt L mlv mpt i) - 1) / cap)))), (0, .ref (bb 0)), (2, .int (nI (i)))]) hx hb dX5_linearOverflowPages_23 rfl hl (by decide) rfl (fun ls hl => ?_)
      refine lv_iinc (v := (nI (i + 1))) (lv' := [(2, .int (nI (i + 1))), (1, .int (nI ((so (fun q => ((lnB L mlv mpt q).length - 1) / cap) i) + (((lcnt L mlv mpt i) - 1) / cap)))), (0, .ref (bb 0))]) hx hb dX5_linearOverflowPages_24 hl (k := 2) rfl (tq_inc1 _) (by decide) rfl (fun ls hl => ?_)
      refine lv_goto (tgt := 4) hx hb dX5_linearOverflowPages_27 (by decide) ?_
      exact ih4 (i + 1) (by omega) (by omega) _ _ hP hD hS _ (lv_sub hl [2, 1, 0] rfl)
set_option maxHeartbeats 4000000 in
set_option maxRecDepth 100000 in
theorem c_X5_hashOf (l : Launch) (D : va_G) (cy : ClassId) (bb : Nat → Nat) (sto : Nat → Nat) (vas : Nat → Nat) (sz : Nat) (cap : Nat) (low : Nat) (hig : Nat) (dpt : Nat → Nat) (glo : Nat) (ext : Nat → Nat) (mdb : Int32) (mhl : Int32) (msp : Int32) (mmg : Int32) (lin : Nat → Nat) (mlv : Nat) (mpt : Nat) (mls : Int32) (mov : Nat → Nat) (thr : Nat) (kx : Int32)  : tq_I (S := Nat) l yX5_hashOf cX5_hashOf 2 (some .int) 2 43 0 0 D cy (wM cy bb sto vas sz cap low hig dpt glo ext mdb mhl msp mmg lin mlv mpt mls mov thr) [.ref (bb 0), .int (kx)] (fun r u => ((∃ k, k < 65536 ∧ kx = nI k ∧ (r = nI (hs k))) ∧ u = 0) ∨ (¬ (isKey kx) ∧ u = 1)) (fun u => (wM cy bb sto vas sz cap low hig dpt glo ext mdb mhl msp mmg lin mlv mpt mls mov u)) := by
  refine tq_I.mk (by decide) (Nat.le_of_ble_eq_true rfl) ?_
  intro p e s m args below meth c A C hP hK hD hS hA ls hl
  obtain ⟨hx, hb, hml, hown, hrt, hlk, hT⟩ := id C
  have hl : lv_has ls 2 [(0, .ref (bb 0)), (1, .int (kx))] := hl
  refine lv_aload_n hx hb dX5_hashOf_0 rfl (lv_at hl 0 rfl) ?_
  refine lv_iload_n hx hb dX5_hashOf_1 rfl (lv_at hl 1 rfl) ?_
  refine tq_callI (W3 := fun u => (wM cy bb sto vas sz cap low hig dpt glo ext mdb mhl msp mmg lin mlv mpt mls mov u)) (wr := []) (va_runV C.fix (As := [.int (kx)]) (rest := []) ((c_X5_isKey l D cy bb sto vas sz cap low hig dpt glo ext mdb mhl msp mmg lin mlv mpt mls mov thr kx) s.heap.size) (tq_cV (n := 1) C ml_X5_132 im_X5_isKey se_X5_isKey ini_X5 cd_X5_isKey ⟨by decide, by decide, by decide +kernel⟩ ⟨Nat.le_of_ble_eq_true rfl, Nat.le_of_ble_eq_true rfl⟩) ⟨tq_Pc.blind, va_recv hK hP (ci := 5) (q0 := 0) rfl rfl, tq_preC C hK hP hD⟩ rfl rfl hl.1 rfl (lv_room (Nat.le_of_ble_eq_true rfl)) dX5_hashOf_2 ⟨Nat.le_of_ble_eq_true rfl, Nat.le_of_ble_eq_true rfl⟩) hP hD hS hA [0, 1, 2, 3, 4, 5, 6] [] [0, 1, 2, 3, 4, 5, 6] rfl rfl (by decide) (by decide) (by decide) (fun _ => rfl) (fun r2 u2 H locs hr2 hP hD hS => ?_)
  obtain ⟨thr2, rfl⟩ : ∃ z, z = u2 := ⟨_, rfl⟩
  try dsimp only at hr2
  have hP : va_P D vwCl (wM cy bb sto vas sz cap low hig dpt glo ext mdb mhl msp mmg lin mlv mpt mls mov thr2) H := hP
  have hD : va_D A (wM cy bb sto vas sz cap low hig dpt glo ext mdb mhl msp mmg lin mlv mpt mls mov thr2) := hD
  rcases hr2 with ⟨⟨k, hk, hkx⟩, rfl, rfl⟩ | ⟨hn, rfl, rfl⟩
  · rw [hkx] at hl
    refine lv_if_eq (tgt := 15) hx hb dX5_hashOf_5 (by decide) (fun h9 => absurd h9 (by decide)) (fun _ => ?_)
    refine lv_iload_n hx hb dX5_hashOf_8 rfl (lv_at hl 1 rfl) ?_
    refine tq_callF (va_runS C.fix (As := [.int (nI (k))]) (rest := []) (c_X5_hash l D cy k hk) (tq_cS (n := 1) C ml_X5_54 sm_X5_hash ini_X5 cd_X5_hash ⟨by decide, by decide, by decide +kernel⟩ ⟨Nat.le_of_ble_eq_true rfl, Nat.le_of_ble_eq_true rfl⟩) ⟨tq_Pf.blind, tq_preF C hK (hP.sub [] rfl)⟩ rfl rfl hl.1 rfl (lv_room (Nat.le_of_ble_eq_true rfl)) dX5_hashOf_9 ⟨Nat.le_of_ble_eq_true rfl, Nat.le_of_ble_eq_true rfl⟩) (fun r9 hr9 => ?_)
    obtain rfl := hr9
    refine lv_goto (tgt := 16) hx hb dX5_hashOf_12 (by decide) ?_
    exact tq_iret (v := (nI (hs k))) C rfl (0) hP hD hS (Or.inl ⟨⟨k, hk, hkx, rfl⟩, rfl⟩) (Nat.le_of_ble_eq_true rfl) (Nat.le_of_ble_eq_true rfl) dX5_hashOf_16
  · refine lv_if_eq (tgt := 15) hx hb dX5_hashOf_5 (by decide) (fun _ => ?_) (fun h9 => absurd (by decide : nI 0 = 0) h9)
    refine lv_iconst (v := nI 0) hx hb dX5_hashOf_15 (by decide) ?_
    exact tq_iret (v := (nI (0))) C rfl (1) hP hD hS (Or.inr ⟨hn, rfl⟩) (Nat.le_of_ble_eq_true rfl) (Nat.le_of_ble_eq_true rfl) dX5_hashOf_16
set_option maxHeartbeats 4000000 in
set_option maxRecDepth 100000 in
theorem c_X5_localDepth (l : Launch) (D : va_G) (cy : ClassId) (bb : Nat → Nat) (sto : Nat → Nat) (vas : Nat → Nat) (sz : Nat) (cap : Nat) (low : Nat) (hig : Nat) (dpt : Nat → Nat) (glo : Nat) (ext : Nat → Nat) (mdb : Int32) (mhl : Int32) (msp : Int32) (mmg : Int32) (lin : Nat → Nat) (mlv : Nat) (mpt : Nat) (mls : Int32) (mov : Nat → Nat) (thr : Nat) (sl : Int32) (S : List (Nat × Nat)) (dep : Nat → Nat) (E L : List Nat) (hMR : MR sto vas sz dpt ext lin mov S dep E L) (hMC : MC cap low hig glo mlv mpt dep)  : tq_I (S := Nat) l yX5_localDepth cX5_localDepth 2 (some .int) 2 43 0 0 D cy (wM cy bb sto vas sz cap low hig dpt glo ext mdb mhl msp mmg lin mlv mpt mls mov thr) [.ref (bb 0), .int (sl)] (fun r u => ((∃ k, k < 2 ^ glo ∧ sl = nI k ∧ (r = nI (dep k))) ∧ u = 0) ∨ (¬ (∃ k : Nat, k < 2 ^ glo ∧ sl = nI k) ∧ u = 1)) (fun u => (wM cy bb sto vas sz cap low hig dpt glo ext mdb mhl msp mmg lin mlv mpt mls mov u)) := by
  refine tq_I.mk (by decide) (Nat.le_of_ble_eq_true rfl) ?_
  intro p e s m args below meth c A C hP hK hD hS hA ls hl
  obtain ⟨hx, hb, hml, hown, hrt, hlk, hT⟩ := id C
  have hl : lv_has ls 2 [(0, .ref (bb 0)), (1, .int (sl))] := hl
  obtain ⟨hzS, hzE, hzL, hz120, hd, hAE, hAL, hPM, hKE, hKL, hSS, hbd⟩ := id hMR
  obtain ⟨hXo, hY, ⟨hcp1, hcp2⟩, ⟨hlo, hh1, hh2⟩⟩ := id hMC
  have hg8 := hXo.1
  have hp8 := p8 hg8
  have hp9 := p2_pos glo
  refine lv_aload_n hx hb dX5_localDepth_0 rfl (lv_at hl 0 rfl) ?_
  refine lv_iload_n hx hb dX5_localDepth_1 rfl (lv_at hl 1 rfl) ?_
  refine tq_callI (W3 := fun u => (wM cy bb sto vas sz cap low hig dpt glo ext mdb mhl msp mmg lin mlv mpt mls mov u)) (wr := []) (va_runV C.fix (As := [.int (sl)]) (rest := []) ((c_X5_isSlot l D cy bb sto vas sz cap low hig dpt glo ext mdb mhl msp mmg lin mlv mpt mls mov thr sl S dep E L hMR hMC) s.heap.size) (tq_cV (n := 1) C ml_X5_157 im_X5_isSlot se_X5_isSlot ini_X5 cd_X5_isSlot ⟨by decide, by decide, by decide +kernel⟩ ⟨Nat.le_of_ble_eq_true rfl, Nat.le_of_ble_eq_true rfl⟩) ⟨tq_Pc.blind, va_recv hK hP (ci := 5) (q0 := 0) rfl rfl, tq_preC C hK hP hD⟩ rfl rfl hl.1 rfl (lv_room (Nat.le_of_ble_eq_true rfl)) dX5_localDepth_2 ⟨Nat.le_of_ble_eq_true rfl, Nat.le_of_ble_eq_true rfl⟩) hP hD hS hA [0, 1, 2, 3, 4, 5, 6] [] [0, 1, 2, 3, 4, 5, 6] rfl rfl (by decide) (by decide) (by decide) (fun _ => rfl) (fun r2 u2 H locs hr2 hP hD hS => ?_)
  obtain ⟨thr2, rfl⟩ : ∃ z, z = u2 := ⟨_, rfl⟩
  try dsimp only at hr2
  have hP : va_P D vwCl (wM cy bb sto vas sz cap low hig dpt glo ext mdb mhl msp mmg lin mlv mpt mls mov thr2) H := hP
  have hD : va_D A (wM cy bb sto vas sz cap low hig dpt glo ext mdb mhl msp mmg lin mlv mpt mls mov thr2) := hD
  rcases hr2 with ⟨⟨k, hk, hkx⟩, rfl, rfl⟩ | ⟨hn, rfl, rfl⟩
  · rw [hkx] at hl
    refine lv_if_eq (tgt := 17) hx hb dX5_localDepth_5 (by decide) (fun h9 => absurd h9 (by decide)) (fun _ => ?_)
    refine lv_aload_n hx hb dX5_localDepth_8 rfl (lv_at hl 0 rfl) ?_
    refine tq_get (C0 := RX5) (T := TX5) (N := 19) (ci := 5) (k := 6) C gX5 inX5 rfl (by decide) rfl fl_X5_26 hK hP 0 rfl rfl dX5_localDepth_9 ?_
    refine lv_iload_n hx hb dX5_localDepth_12 rfl (lv_at hl 1 rfl) ?_
    refine tq_iald (n := 256) (i := k) (f := dpt) C hK hP 3 0 rfl rfl (by omega) (Nat.le_of_ble_eq_true rfl) dX5_localDepth_13 ?_
    refine lv_goto (tgt := 18) hx hb dX5_localDepth_14 (by decide) ?_
    exact tq_iret (v := (nI (dpt k))) C rfl (0) hP hD hS (Or.inl ⟨⟨k, hk, hkx, by rw [hd k (by omega)]⟩, rfl⟩) (Nat.le_of_ble_eq_true rfl) (Nat.le_of_ble_eq_true rfl) dX5_localDepth_18
  · refine lv_if_eq (tgt := 17) hx hb dX5_localDepth_5 (by decide) (fun _ => ?_) (fun h9 => absurd (by decide : nI 0 = 0) h9)
    refine lv_iconst (v := nI 0) hx hb dX5_localDepth_17 (by decide) ?_
    exact tq_iret (v := (nI (0))) C rfl (1) hP hD hS (Or.inr ⟨hn, rfl⟩) (Nat.le_of_ble_eq_true rfl) (Nat.le_of_ble_eq_true rfl) dX5_localDepth_18
set_option maxHeartbeats 4000000 in
set_option maxRecDepth 100000 in
theorem c_X5_bucketSize (l : Launch) (D : va_G) (cy : ClassId) (bb : Nat → Nat) (sto : Nat → Nat) (vas : Nat → Nat) (sz : Nat) (cap : Nat) (low : Nat) (hig : Nat) (dpt : Nat → Nat) (glo : Nat) (ext : Nat → Nat) (mdb : Int32) (mhl : Int32) (msp : Int32) (mmg : Int32) (lin : Nat → Nat) (mlv : Nat) (mpt : Nat) (mls : Int32) (mov : Nat → Nat) (thr : Nat) (sl : Int32) (S : List (Nat × Nat)) (dep : Nat → Nat) (E L : List Nat) (hMR : MR sto vas sz dpt ext lin mov S dep E L) (hMC : MC cap low hig glo mlv mpt dep)  : tq_I (S := Nat) l yX5_bucketSize cX5_bucketSize 2 (some .int) 3 67 0 0 D cy (wM cy bb sto vas sz cap low hig dpt glo ext mdb mhl msp mmg lin mlv mpt mls mov thr) [.ref (bb 0), .int (sl)] (fun r u => ((∃ k, k < 2 ^ glo ∧ sl = nI k ∧ (r = nI (clB E k (dep k)).length)) ∧ u = 0) ∨ (¬ (∃ k : Nat, k < 2 ^ glo ∧ sl = nI k) ∧ u = 1)) (fun u => (wM cy bb sto vas sz cap low hig dpt glo ext mdb mhl msp mmg lin mlv mpt mls mov u)) := by
  refine tq_I.mk (by decide) (Nat.le_of_ble_eq_true rfl) ?_
  intro p e s m args below meth c A C hP hK hD hS hA ls hl
  obtain ⟨hx, hb, hml, hown, hrt, hlk, hT⟩ := id C
  have hl : lv_has ls 2 [(0, .ref (bb 0)), (1, .int (sl))] := hl
  obtain ⟨hzS, hzE, hzL, hz120, hd, hAE, hAL, hPM, hKE, hKL, hSS, hbd⟩ := id hMR
  obtain ⟨hXo, hY, ⟨hcp1, hcp2⟩, ⟨hlo, hh1, hh2⟩⟩ := id hMC
  have hd8 : ∀ q, q < 256 → dpt q ≤ 8 := fun q hq => by have := hd q hq; have := hXo.2.1 q hq; have := hXo.1; omega
  have hg8 := hXo.1
  have hp8 := p8 hg8
  have hp9 := p2_pos glo
  refine lv_aload_n hx hb dX5_bucketSize_0 rfl (lv_at hl 0 rfl) ?_
  refine lv_iload_n hx hb dX5_bucketSize_1 rfl (lv_at hl 1 rfl) ?_
  refine tq_callI (W3 := fun u => (wM cy bb sto vas sz cap low hig dpt glo ext mdb mhl msp mmg lin mlv mpt mls mov u)) (wr := []) (va_runV C.fix (As := [.int (sl)]) (rest := []) ((c_X5_isSlot l D cy bb sto vas sz cap low hig dpt glo ext mdb mhl msp mmg lin mlv mpt mls mov thr sl S dep E L hMR hMC) s.heap.size) (tq_cV (n := 1) C ml_X5_157 im_X5_isSlot se_X5_isSlot ini_X5 cd_X5_isSlot ⟨by decide, by decide, by decide +kernel⟩ ⟨Nat.le_of_ble_eq_true rfl, Nat.le_of_ble_eq_true rfl⟩) ⟨tq_Pc.blind, va_recv hK hP (ci := 5) (q0 := 0) rfl rfl, tq_preC C hK hP hD⟩ rfl rfl hl.1 rfl (lv_room (Nat.le_of_ble_eq_true rfl)) dX5_bucketSize_2 ⟨Nat.le_of_ble_eq_true rfl, Nat.le_of_ble_eq_true rfl⟩) hP hD hS hA [0, 1, 2, 3, 4, 5, 6] [] [0, 1, 2, 3, 4, 5, 6] rfl rfl (by decide) (by decide) (by decide) (fun _ => rfl) (fun r2 u2 H locs hr2 hP hD hS => ?_)
  obtain ⟨thr2, rfl⟩ : ∃ z, z = u2 := ⟨_, rfl⟩
  try dsimp only at hr2
  have hP : va_P D vwCl (wM cy bb sto vas sz cap low hig dpt glo ext mdb mhl msp mmg lin mlv mpt mls mov thr2) H := hP
  have hD : va_D A (wM cy bb sto vas sz cap low hig dpt glo ext mdb mhl msp mmg lin mlv mpt mls mov thr2) := hD
  rcases hr2 with ⟨⟨k, hk, hkx⟩, rfl, rfl⟩ | ⟨hn, rfl, rfl⟩
  · rw [hkx] at hl
    refine lv_if_eq (tgt := 22) hx hb dX5_bucketSize_5 (by decide) (fun h9 => absurd h9 (by decide)) (fun _ => ?_)
    refine lv_aload_n hx hb dX5_bucketSize_8 rfl (lv_at hl 0 rfl) ?_
    refine lv_iload_n hx hb dX5_bucketSize_9 rfl (lv_at hl 1 rfl) ?_
    refine lv_aload_n hx hb dX5_bucketSize_10 rfl (lv_at hl 0 rfl) ?_
    refine tq_get (C0 := RX5) (T := TX5) (N := 19) (ci := 5) (k := 6) C gX5 inX5 rfl (by decide) rfl fl_X5_26 hK hP 0 rfl rfl dX5_bucketSize_11 ?_
    refine lv_iload_n hx hb dX5_bucketSize_14 rfl (lv_at hl 1 rfl) ?_
    refine tq_iald (n := 256) (i := k) (f := dpt) C hK hP 3 0 rfl rfl (by omega) (Nat.le_of_ble_eq_true rfl) dX5_bucketSize_15 ?_
    refine tq_callF (va_runV C.fix (As := [.int (nI (k)), .int (nI (dpt k))]) (rest := []) (c_X5_inBucket l D cy bb sto vas sz cap low hig dpt glo ext mdb mhl msp mmg lin mlv mpt mls mov 0 k (dpt k) E hAE hzE hz120 (fun j => (hbd j).2.2.1) (by omega) (by have := hd8 k (by omega); omega)) (tq_cV (n := 2) C ml_X5_65 im_X5_inBucket se_X5_inBucket ini_X5 cd_X5_inBucket ⟨by decide, by decide, by decide +kernel⟩ ⟨Nat.le_of_ble_eq_true rfl, Nat.le_of_ble_eq_true rfl⟩) ⟨tq_Pf.blind, va_recv hK hP (ci := 5) (q0 := 0) rfl rfl, tq_preF C hK hP⟩ rfl rfl hl.1 rfl (lv_room (Nat.le_of_ble_eq_true rfl)) dX5_bucketSize_16 ⟨Nat.le_of_ble_eq_true rfl, Nat.le_of_ble_eq_true rfl⟩) (fun r16 hr16 => ?_)
    obtain rfl := hr16
    refine lv_goto (tgt := 23) hx hb dX5_bucketSize_19 (by decide) ?_
    exact tq_iret (v := (nI (cntB E k (dpt k)))) C rfl (0) hP hD hS (Or.inl ⟨⟨k, hk, hkx, by rw [hd k (by omega)]; rfl⟩, rfl⟩) (Nat.le_of_ble_eq_true rfl) (Nat.le_of_ble_eq_true rfl) dX5_bucketSize_23
  · refine lv_if_eq (tgt := 22) hx hb dX5_bucketSize_5 (by decide) (fun _ => ?_) (fun h9 => absurd (by decide : nI 0 = 0) h9)
    refine lv_iconst (v := nI 0) hx hb dX5_bucketSize_22 (by decide) ?_
    exact tq_iret (v := (nI (0))) C rfl (1) hP hD hS (Or.inr ⟨hn, rfl⟩) (Nat.le_of_ble_eq_true rfl) (Nat.le_of_ble_eq_true rfl) dX5_bucketSize_23
set_option maxHeartbeats 4000000 in
set_option maxRecDepth 100000 in
theorem c_X5_slotOf (l : Launch) (D : va_G) (cy : ClassId) (bb : Nat → Nat) (sto : Nat → Nat) (vas : Nat → Nat) (sz : Nat) (cap : Nat) (low : Nat) (hig : Nat) (dpt : Nat → Nat) (glo : Nat) (ext : Nat → Nat) (mdb : Int32) (mhl : Int32) (msp : Int32) (mmg : Int32) (lin : Nat → Nat) (mlv : Nat) (mpt : Nat) (mls : Int32) (mov : Nat → Nat) (thr : Nat) (kx : Int32) (S : List (Nat × Nat)) (dep : Nat → Nat) (E L : List Nat) (hMR : MR sto vas sz dpt ext lin mov S dep E L) (hMC : MC cap low hig glo mlv mpt dep)  : tq_I (S := Nat) l yX5_slotOf cX5_slotOf 2 (some .int) 2 43 0 0 D cy (wM cy bb sto vas sz cap low hig dpt glo ext mdb mhl msp mmg lin mlv mpt mls mov thr) [.ref (bb 0), .int (kx)] (fun r u => ((∃ k, k < 65536 ∧ kx = nI k ∧ (r = nI (hs k % 2 ^ glo))) ∧ u = 0) ∨ (¬ (isKey kx) ∧ u = 1)) (fun u => (wM cy bb sto vas sz cap low hig dpt glo ext mdb mhl msp mmg lin mlv mpt mls mov u)) := by
  refine tq_I.mk (by decide) (Nat.le_of_ble_eq_true rfl) ?_
  intro p e s m args below meth c A C hP hK hD hS hA ls hl
  obtain ⟨hx, hb, hml, hown, hrt, hlk, hT⟩ := id C
  have hl : lv_has ls 2 [(0, .ref (bb 0)), (1, .int (kx))] := hl
  obtain ⟨hzS, hzE, hzL, hz120, hd, hAE, hAL, hPM, hKE, hKL, hSS, hbd⟩ := id hMR
  obtain ⟨hXo, hY, ⟨hcp1, hcp2⟩, ⟨hlo, hh1, hh2⟩⟩ := id hMC
  have hg8 := hXo.1
  have hp8 := p8 hg8
  have hp9 := p2_pos glo
  refine lv_aload_n hx hb dX5_slotOf_0 rfl (lv_at hl 0 rfl) ?_
  refine lv_iload_n hx hb dX5_slotOf_1 rfl (lv_at hl 1 rfl) ?_
  refine tq_callI (W3 := fun u => (wM cy bb sto vas sz cap low hig dpt glo ext mdb mhl msp mmg lin mlv mpt mls mov u)) (wr := []) (va_runV C.fix (As := [.int (kx)]) (rest := []) ((c_X5_isKey l D cy bb sto vas sz cap low hig dpt glo ext mdb mhl msp mmg lin mlv mpt mls mov thr kx) s.heap.size) (tq_cV (n := 1) C ml_X5_132 im_X5_isKey se_X5_isKey ini_X5 cd_X5_isKey ⟨by decide, by decide, by decide +kernel⟩ ⟨Nat.le_of_ble_eq_true rfl, Nat.le_of_ble_eq_true rfl⟩) ⟨tq_Pc.blind, va_recv hK hP (ci := 5) (q0 := 0) rfl rfl, tq_preC C hK hP hD⟩ rfl rfl hl.1 rfl (lv_room (Nat.le_of_ble_eq_true rfl)) dX5_slotOf_2 ⟨Nat.le_of_ble_eq_true rfl, Nat.le_of_ble_eq_true rfl⟩) hP hD hS hA [0, 1, 2, 3, 4, 5, 6] [] [0, 1, 2, 3, 4, 5, 6] rfl rfl (by decide) (by decide) (by decide) (fun _ => rfl) (fun r2 u2 H locs hr2 hP hD hS => ?_)
  obtain ⟨thr2, rfl⟩ : ∃ z, z = u2 := ⟨_, rfl⟩
  try dsimp only at hr2
  have hP : va_P D vwCl (wM cy bb sto vas sz cap low hig dpt glo ext mdb mhl msp mmg lin mlv mpt mls mov thr2) H := hP
  have hD : va_D A (wM cy bb sto vas sz cap low hig dpt glo ext mdb mhl msp mmg lin mlv mpt mls mov thr2) := hD
  rcases hr2 with ⟨⟨k, hk, hkx⟩, rfl, rfl⟩ | ⟨hn, rfl, rfl⟩
  · rw [hkx] at hl
    refine lv_if_eq (tgt := 22) hx hb dX5_slotOf_5 (by decide) (fun h9 => absurd h9 (by decide)) (fun _ => ?_)
    refine lv_iload_n hx hb dX5_slotOf_8 rfl (lv_at hl 1 rfl) ?_
    refine tq_callF (va_runS C.fix (As := [.int (nI (k))]) (rest := []) (c_X5_hash l D cy k hk) (tq_cS (n := 1) C ml_X5_54 sm_X5_hash ini_X5 cd_X5_hash ⟨by decide, by decide, by decide +kernel⟩ ⟨Nat.le_of_ble_eq_true rfl, Nat.le_of_ble_eq_true rfl⟩) ⟨tq_Pf.blind, tq_preF C hK (hP.sub [] rfl)⟩ rfl rfl hl.1 rfl (lv_room (Nat.le_of_ble_eq_true rfl)) dX5_slotOf_9 ⟨Nat.le_of_ble_eq_true rfl, Nat.le_of_ble_eq_true rfl⟩) (fun r9 hr9 => ?_)
    obtain rfl := hr9
    refine lv_aload_n hx hb dX5_slotOf_12 rfl (lv_at hl 0 rfl) ?_
    refine tq_get (C0 := RX5) (T := TX5) (N := 19) (ci := 5) (k := 7) C gX5 inX5 rfl (by decide) rfl fl_X5_68 hK hP 0 rfl rfl dX5_slotOf_13 ?_
    refine tq_callF (va_runS C.fix (As := [.int (nI (hs k)), .int (nI (glo))]) (rest := []) (c_X5_lowest l D cy (hs k) glo (by have := hs_lt k; omega) (by omega)) (tq_cS (n := 2) C ml_X5_58 sm_X5_lowest ini_X5 cd_X5_lowest ⟨by decide, by decide, by decide +kernel⟩ ⟨Nat.le_of_ble_eq_true rfl, Nat.le_of_ble_eq_true rfl⟩) ⟨tq_Pf.blind, tq_preF C hK (hP.sub [] rfl)⟩ rfl rfl hl.1 rfl (lv_room (Nat.le_of_ble_eq_true rfl)) dX5_slotOf_16 ⟨Nat.le_of_ble_eq_true rfl, Nat.le_of_ble_eq_true rfl⟩) (fun r16 hr16 => ?_)
    obtain rfl := hr16
    refine lv_goto (tgt := 23) hx hb dX5_slotOf_19 (by decide) ?_
    exact tq_iret (v := (nI ((hs k) % 2 ^ glo))) C rfl (0) hP hD hS (Or.inl ⟨⟨k, hk, hkx, rfl⟩, rfl⟩) (Nat.le_of_ble_eq_true rfl) (Nat.le_of_ble_eq_true rfl) dX5_slotOf_23
  · refine lv_if_eq (tgt := 22) hx hb dX5_slotOf_5 (by decide) (fun _ => ?_) (fun h9 => absurd (by decide : nI 0 = 0) h9)
    refine lv_iconst (v := nI 0) hx hb dX5_slotOf_22 (by decide) ?_
    exact tq_iret (v := (nI (0))) C rfl (1) hP hD hS (Or.inr ⟨hn, rfl⟩) (Nat.le_of_ble_eq_true rfl) (Nat.le_of_ble_eq_true rfl) dX5_slotOf_23
set_option maxHeartbeats 4000000 in
set_option maxRecDepth 100000 in
theorem c_X5_linearBucketOf (l : Launch) (D : va_G) (cy : ClassId) (bb : Nat → Nat) (sto : Nat → Nat) (vas : Nat → Nat) (sz : Nat) (cap : Nat) (low : Nat) (hig : Nat) (dpt : Nat → Nat) (glo : Nat) (ext : Nat → Nat) (mdb : Int32) (mhl : Int32) (msp : Int32) (mmg : Int32) (lin : Nat → Nat) (mlv : Nat) (mpt : Nat) (mls : Int32) (mov : Nat → Nat) (thr : Nat) (kx : Int32) (S : List (Nat × Nat)) (dep : Nat → Nat) (E L : List Nat) (hMR : MR sto vas sz dpt ext lin mov S dep E L) (hMC : MC cap low hig glo mlv mpt dep)  : tq_I (S := Nat) l yX5_linearBucketOf cX5_linearBucketOf 2 (some .int) 2 43 0 0 D cy (wM cy bb sto vas sz cap low hig dpt glo ext mdb mhl msp mmg lin mlv mpt mls mov thr) [.ref (bb 0), .int (kx)] (fun r u => ((∃ k, k < 65536 ∧ kx = nI k ∧ (r = nI (linOf mlv mpt k))) ∧ u = 0) ∨ (¬ (isKey kx) ∧ u = 1)) (fun u => (wM cy bb sto vas sz cap low hig dpt glo ext mdb mhl msp mmg lin mlv mpt mls mov u)) := by
  refine tq_I.mk (by decide) (Nat.le_of_ble_eq_true rfl) ?_
  intro p e s m args below meth c A C hP hK hD hS hA ls hl
  obtain ⟨hx, hb, hml, hown, hrt, hlk, hT⟩ := id C
  have hl : lv_has ls 2 [(0, .ref (bb 0)), (1, .int (kx))] := hl
  obtain ⟨hzS, hzE, hzL, hz120, hd, hAE, hAL, hPM, hKE, hKL, hSS, hbd⟩ := id hMR
  obtain ⟨hXo, hY, ⟨hcp1, hcp2⟩, ⟨hlo, hh1, hh2⟩⟩ := id hMC
  refine lv_aload_n hx hb dX5_linearBucketOf_0 rfl (lv_at hl 0 rfl) ?_
  refine lv_iload_n hx hb dX5_linearBucketOf_1 rfl (lv_at hl 1 rfl) ?_
  refine tq_callI (W3 := fun u => (wM cy bb sto vas sz cap low hig dpt glo ext mdb mhl msp mmg lin mlv mpt mls mov u)) (wr := []) (va_runV C.fix (As := [.int (kx)]) (rest := []) ((c_X5_isKey l D cy bb sto vas sz cap low hig dpt glo ext mdb mhl msp mmg lin mlv mpt mls mov thr kx) s.heap.size) (tq_cV (n := 1) C ml_X5_132 im_X5_isKey se_X5_isKey ini_X5 cd_X5_isKey ⟨by decide, by decide, by decide +kernel⟩ ⟨Nat.le_of_ble_eq_true rfl, Nat.le_of_ble_eq_true rfl⟩) ⟨tq_Pc.blind, va_recv hK hP (ci := 5) (q0 := 0) rfl rfl, tq_preC C hK hP hD⟩ rfl rfl hl.1 rfl (lv_room (Nat.le_of_ble_eq_true rfl)) dX5_linearBucketOf_2 ⟨Nat.le_of_ble_eq_true rfl, Nat.le_of_ble_eq_true rfl⟩) hP hD hS hA [0, 1, 2, 3, 4, 5, 6] [] [0, 1, 2, 3, 4, 5, 6] rfl rfl (by decide) (by decide) (by decide) (fun _ => rfl) (fun r2 u2 H locs hr2 hP hD hS => ?_)
  obtain ⟨thr2, rfl⟩ : ∃ z, z = u2 := ⟨_, rfl⟩
  try dsimp only at hr2
  have hP : va_P D vwCl (wM cy bb sto vas sz cap low hig dpt glo ext mdb mhl msp mmg lin mlv mpt mls mov thr2) H := hP
  have hD : va_D A (wM cy bb sto vas sz cap low hig dpt glo ext mdb mhl msp mmg lin mlv mpt mls mov thr2) := hD
  rcases hr2 with ⟨⟨k, hk, hkx⟩, rfl, rfl⟩ | ⟨hn, rfl, rfl⟩
  · rw [hkx] at hl
    refine lv_if_eq (tgt := 16) hx hb dX5_linearBucketOf_5 (by decide) (fun h9 => absurd h9 (by decide)) (fun _ => ?_)
    refine lv_aload_n hx hb dX5_linearBucketOf_8 rfl (lv_at hl 0 rfl) ?_
    refine lv_iload_n hx hb dX5_linearBucketOf_9 rfl (lv_at hl 1 rfl) ?_
    refine tq_callF (va_runV C.fix (As := [.int (nI (k))]) (rest := []) (c_X5_linearOf l D cy bb sto vas sz cap low hig dpt glo ext mdb mhl msp mmg lin mlv mpt mls mov 0 k hY hk) (tq_cV (n := 1) C ml_X5_115 im_X5_linearOf se_X5_linearOf ini_X5 cd_X5_linearOf ⟨by decide, by decide, by decide +kernel⟩ ⟨Nat.le_of_ble_eq_true rfl, Nat.le_of_ble_eq_true rfl⟩) ⟨tq_Pf.blind, va_recv hK hP (ci := 5) (q0 := 0) rfl rfl, tq_preF C hK hP⟩ rfl rfl hl.1 rfl (lv_room (Nat.le_of_ble_eq_true rfl)) dX5_linearBucketOf_10 ⟨Nat.le_of_ble_eq_true rfl, Nat.le_of_ble_eq_true rfl⟩) (fun r10 hr10 => ?_)
    obtain rfl := hr10
    refine lv_goto (tgt := 17) hx hb dX5_linearBucketOf_13 (by decide) ?_
    exact tq_iret (v := (nI (linOf mlv mpt k))) C rfl (0) hP hD hS (Or.inl ⟨⟨k, hk, hkx, rfl⟩, rfl⟩) (Nat.le_of_ble_eq_true rfl) (Nat.le_of_ble_eq_true rfl) dX5_linearBucketOf_17
  · refine lv_if_eq (tgt := 16) hx hb dX5_linearBucketOf_5 (by decide) (fun _ => ?_) (fun h9 => absurd (by decide : nI 0 = 0) h9)
    refine lv_iconst (v := nI 0) hx hb dX5_linearBucketOf_16 (by decide) ?_
    exact tq_iret (v := (nI (0))) C rfl (1) hP hD hS (Or.inr ⟨hn, rfl⟩) (Nat.le_of_ble_eq_true rfl) (Nat.le_of_ble_eq_true rfl) dX5_linearBucketOf_17
set_option maxHeartbeats 4000000 in
set_option maxRecDepth 100000 in
theorem c_X5_buddyOf (l : Launch) (D : va_G) (cy : ClassId) (bb : Nat → Nat) (sto : Nat → Nat) (vas : Nat → Nat) (sz : Nat) (cap : Nat) (low : Nat) (hig : Nat) (dpt : Nat → Nat) (glo : Nat) (ext : Nat → Nat) (mdb : Int32) (mhl : Int32) (msp : Int32) (mmg : Int32) (lin : Nat → Nat) (mlv : Nat) (mpt : Nat) (mls : Int32) (mov : Nat → Nat) (thr : Nat) (sl : Int32) (S : List (Nat × Nat)) (dep : Nat → Nat) (E L : List Nat) (hMR : MR sto vas sz dpt ext lin mov S dep E L) (hMC : MC cap low hig glo mlv mpt dep)  : tq_I (S := Nat) l yX5_buddyOf cX5_buddyOf 3 (some .int) 2 43 0 0 D cy (wM cy bb sto vas sz cap low hig dpt glo ext mdb mhl msp mmg lin mlv mpt mls mov thr) [.ref (bb 0), .int (sl)] (fun r u => ((∃ k, k < 2 ^ glo ∧ sl = nI k ∧ ((dep k = 0 ∧ r = -1) ∨ (0 < dep k ∧ dep (k ^^^ 2 ^ (dep k - 1)) = dep k ∧ r = nI ((k ^^^ 2 ^ (dep k - 1)) % 2 ^ dep k)) ∨ (0 < dep k ∧ dep (k ^^^ 2 ^ (dep k - 1)) ≠ dep k ∧ r = -1))) ∧ u = 0) ∨ (¬ (∃ k : Nat, k < 2 ^ glo ∧ sl = nI k) ∧ u = 1)) (fun u => (wM cy bb sto vas sz cap low hig dpt glo ext mdb mhl msp mmg lin mlv mpt mls mov u)) := by
  refine tq_I.mk (by decide) (Nat.le_of_ble_eq_true rfl) ?_
  intro p e s m args below meth c A C hP hK hD hS hA ls hl
  obtain ⟨hx, hb, hml, hown, hrt, hlk, hT⟩ := id C
  have hl : lv_has ls 3 [(0, .ref (bb 0)), (1, .int (sl))] := hl
  obtain ⟨hzS, hzE, hzL, hz120, hd, hAE, hAL, hPM, hKE, hKL, hSS, hbd⟩ := id hMR
  obtain ⟨hXo, hY, ⟨hcp1, hcp2⟩, ⟨hlo, hh1, hh2⟩⟩ := id hMC
  have hd8 : ∀ q, q < 256 → dpt q ≤ 8 := fun q hq => by have := hd q hq; have := hXo.2.1 q hq; have := hXo.1; omega
  have hg8 := hXo.1
  have hp8 := p8 hg8
  have hp9 := p2_pos glo
  refine lv_aload_n hx hb dX5_buddyOf_0 rfl (lv_at hl 0 rfl) ?_
  refine lv_iload_n hx hb dX5_buddyOf_1 rfl (lv_at hl 1 rfl) ?_
  refine tq_callI (W3 := fun u => (wM cy bb sto vas sz cap low hig dpt glo ext mdb mhl msp mmg lin mlv mpt mls mov u)) (wr := []) (va_runV C.fix (As := [.int (sl)]) (rest := []) ((c_X5_isSlot l D cy bb sto vas sz cap low hig dpt glo ext mdb mhl msp mmg lin mlv mpt mls mov thr sl S dep E L hMR hMC) s.heap.size) (tq_cV (n := 1) C ml_X5_157 im_X5_isSlot se_X5_isSlot ini_X5 cd_X5_isSlot ⟨by decide, by decide, by decide +kernel⟩ ⟨Nat.le_of_ble_eq_true rfl, Nat.le_of_ble_eq_true rfl⟩) ⟨tq_Pc.blind, va_recv hK hP (ci := 5) (q0 := 0) rfl rfl, tq_preC C hK hP hD⟩ rfl rfl hl.1 rfl (lv_room (Nat.le_of_ble_eq_true rfl)) dX5_buddyOf_2 ⟨Nat.le_of_ble_eq_true rfl, Nat.le_of_ble_eq_true rfl⟩) hP hD hS hA [0, 1, 2, 3, 4, 5, 6] [] [0, 1, 2, 3, 4, 5, 6] rfl rfl (by decide) (by decide) (by decide) (fun _ => rfl) (fun r2 u2 H locs hr2 hP hD hS => ?_)
  obtain ⟨thr2, rfl⟩ : ∃ z, z = u2 := ⟨_, rfl⟩
  try dsimp only at hr2
  have hP : va_P D vwCl (wM cy bb sto vas sz cap low hig dpt glo ext mdb mhl msp mmg lin mlv mpt mls mov thr2) H := hP
  have hD : va_D A (wM cy bb sto vas sz cap low hig dpt glo ext mdb mhl msp mmg lin mlv mpt mls mov thr2) := hD
  rcases hr2 with ⟨⟨k, hk, hkx⟩, rfl, rfl⟩ | ⟨hn, rfl, rfl⟩
  · rw [hkx] at hl
    refine lv_if_ne (tgt := 10) hx hb dX5_buddyOf_5 (by decide) (fun _ => ?_) (fun h9 => absurd h9 (by decide))
    have hk2 : k < 256 := by omega
    have hdk := hd k hk2
    have hk8 := hd8 k hk2
    refine lv_aload_n hx hb dX5_buddyOf_10 rfl (lv_at hl 0 rfl) ?_
    refine tq_get (C0 := RX5) (T := TX5) (N := 19) (ci := 5) (k := 6) C gX5 inX5 rfl (by decide) rfl fl_X5_26 hK hP 0 rfl rfl dX5_buddyOf_11 ?_
    refine lv_iload_n hx hb dX5_buddyOf_14 rfl (lv_at hl 1 rfl) ?_
    refine tq_iald (n := 256) (i := k) (f := dpt) C hK hP 3 0 rfl rfl hk2 (Nat.le_of_ble_eq_true rfl) dX5_buddyOf_15 ?_
    refine lv_istore_n (lv' := [(2, .int (nI (dpt k))), (0, .ref (bb 0)), (1, .int (nI (k)))]) hx hb dX5_buddyOf_16 rfl hl (by decide) rfl (fun ls hl => ?_)
    refine lv_iload_n hx hb dX5_buddyOf_17 rfl (lv_at hl 0 rfl) ?_
    refine tq_if_le (tgt := 47) C (by omega) dX5_buddyOf_18 (by decide) (fun h18 => ?_) (fun h18 => ?_)
    · refine lv_iconst (v := (-1)) hx hb dX5_buddyOf_47 (by decide) ?_
      exact tq_iret (v := ((-1))) C rfl (0) hP hD hS (Or.inl ⟨⟨k, hk, hkx, by rw [← hdk]; exact Or.inl ⟨h18, rfl⟩⟩, rfl⟩) (Nat.le_of_ble_eq_true rfl) (Nat.le_of_ble_eq_true rfl) dX5_buddyOf_48
    · have hbx : k ^^^ 2 ^ (dpt k - 1) < 256 := Nat.xor_lt_two_pow (n := 8) hk2 (Nat.pow_lt_pow_right (by decide) (by omega))
      have hdb := hd _ hbx
      have hb8 := hd8 _ hbx
      refine lv_aload_n hx hb dX5_buddyOf_21 rfl (lv_at hl 1 rfl) ?_
      refine tq_get (C0 := RX5) (T := TX5) (N := 19) (ci := 5) (k := 6) C gX5 inX5 rfl (by decide) rfl fl_X5_26 hK hP 0 rfl rfl dX5_buddyOf_22 ?_
      refine lv_aload_n hx hb dX5_buddyOf_25 rfl (lv_at hl 1 rfl) ?_
      refine lv_iload_n hx hb dX5_buddyOf_26 rfl (lv_at hl 2 rfl) ?_
      refine tq_callF (va_runV C.fix (As := [.int (nI (k))]) (rest := [.ref (bb 3)]) (c_X5_buddy l D cy bb sto vas sz cap low hig dpt glo ext mdb mhl msp mmg lin mlv mpt mls mov 0 k hk2 h18 hk8) (tq_cV (n := 1) C ml_X5_81 im_X5_buddy se_X5_buddy ini_X5 cd_X5_buddy ⟨by decide, by decide, by decide +kernel⟩ ⟨Nat.le_of_ble_eq_true rfl, Nat.le_of_ble_eq_true rfl⟩) ⟨tq_Pf.blind, va_recv hK hP (ci := 5) (q0 := 0) rfl rfl, tq_preF C hK hP⟩ rfl rfl hl.1 rfl (lv_room (Nat.le_of_ble_eq_true rfl)) dX5_buddyOf_27 ⟨Nat.le_of_ble_eq_true rfl, Nat.le_of_ble_eq_true rfl⟩) (fun r27 hr27 => ?_)
      obtain rfl := hr27
      refine tq_iald (n := 256) (i := (k ^^^ 2 ^ (dpt k - 1))) (f := dpt) C hK hP 3 0 rfl rfl hbx (Nat.le_of_ble_eq_true rfl) dX5_buddyOf_30 ?_
      refine lv_iload_n hx hb dX5_buddyOf_31 rfl (lv_at hl 0 rfl) ?_
      refine tq_icmp_ne (tgt := 47) C (by omega) (by omega) dX5_buddyOf_32 (by decide) (fun h32 => ?_) (fun h32 => ?_)
      · refine lv_iconst (v := (-1)) hx hb dX5_buddyOf_47 (by decide) ?_
        exact tq_iret (v := ((-1))) C rfl (0) hP hD hS (Or.inl ⟨⟨k, hk, hkx, by rw [← hdk]; rw [← hdb]; exact Or.inr (Or.inr ⟨h18, h32, rfl⟩)⟩, rfl⟩) (Nat.le_of_ble_eq_true rfl) (Nat.le_of_ble_eq_true rfl) dX5_buddyOf_48
      · refine lv_aload_n hx hb dX5_buddyOf_35 rfl (lv_at hl 1 rfl) ?_
        refine lv_iload_n hx hb dX5_buddyOf_36 rfl (lv_at hl 2 rfl) ?_
        refine tq_callF (va_runV C.fix (As := [.int (nI (k))]) (rest := []) (c_X5_buddy l D cy bb sto vas sz cap low hig dpt glo ext mdb mhl msp mmg lin mlv mpt mls mov 0 k hk2 h18 hk8) (tq_cV (n := 1) C ml_X5_81 im_X5_buddy se_X5_buddy ini_X5 cd_X5_buddy ⟨by decide, by decide, by decide +kernel⟩ ⟨Nat.le_of_ble_eq_true rfl, Nat.le_of_ble_eq_true rfl⟩) ⟨tq_Pf.blind, va_recv hK hP (ci := 5) (q0 := 0) rfl rfl, tq_preF C hK hP⟩ rfl rfl hl.1 rfl (lv_room (Nat.le_of_ble_eq_true rfl)) dX5_buddyOf_37 ⟨Nat.le_of_ble_eq_true rfl, Nat.le_of_ble_eq_true rfl⟩) (fun r37 hr37 => ?_)
        obtain rfl := hr37
        refine lv_iload_n hx hb dX5_buddyOf_40 rfl (lv_at hl 0 rfl) ?_
        refine tq_callF (va_runS C.fix (As := [.int (nI (k ^^^ 2 ^ (dpt k - 1))), .int (nI (dpt k))]) (rest := []) (c_X5_lowest l D cy (k ^^^ 2 ^ (dpt k - 1)) (dpt k) (by omega) (by omega)) (tq_cS (n := 2) C ml_X5_58 sm_X5_lowest ini_X5 cd_X5_lowest ⟨by decide, by decide, by decide +kernel⟩ ⟨Nat.le_of_ble_eq_true rfl, Nat.le_of_ble_eq_true rfl⟩) ⟨tq_Pf.blind, tq_preF C hK (hP.sub [] rfl)⟩ rfl rfl hl.1 rfl (lv_room (Nat.le_of_ble_eq_true rfl)) dX5_buddyOf_41 ⟨Nat.le_of_ble_eq_true rfl, Nat.le_of_ble_eq_true rfl⟩) (fun r41 hr41 => ?_)
        obtain rfl := hr41
        refine lv_goto (tgt := 48) hx hb dX5_buddyOf_44 (by decide) ?_
        exact tq_iret (v := (nI ((k ^^^ 2 ^ (dpt k - 1)) % 2 ^ (dpt k)))) C rfl (0) hP hD hS (Or.inl ⟨⟨k, hk, hkx, by rw [← hdk]; rw [← hdb]; exact Or.inr (Or.inl ⟨h18, h32, rfl⟩)⟩, rfl⟩) (Nat.le_of_ble_eq_true rfl) (Nat.le_of_ble_eq_true rfl) dX5_buddyOf_48
  · refine lv_if_ne (tgt := 10) hx hb dX5_buddyOf_5 (by decide) (fun h9 => absurd (by decide : nI 0 = 0) h9) (fun _ => ?_)
    refine lv_iconst (v := nI 0) hx hb dX5_buddyOf_8 (by decide) ?_
    exact tq_iret (v := (nI (0))) C rfl (1) hP hD hS (Or.inr ⟨hn, rfl⟩) (Nat.le_of_ble_eq_true rfl) (Nat.le_of_ble_eq_true rfl) dX5_buddyOf_9
set_option maxHeartbeats 4000000 in
set_option maxRecDepth 100000 in
theorem c_X5_slotAt (l : Launch) (D : va_G) (cy : ClassId) (bb : Nat → Nat) (sto : Nat → Nat) (vas : Nat → Nat) (sz : Nat) (cap : Nat) (low : Nat) (hig : Nat) (dpt : Nat → Nat) (glo : Nat) (ext : Nat → Nat) (mdb : Int32) (mhl : Int32) (msp : Int32) (mmg : Int32) (lin : Nat → Nat) (mlv : Nat) (mpt : Nat) (mls : Int32) (mov : Nat → Nat) (thr : Nat) (cu : Int32) (S : List (Nat × Nat)) (dep : Nat → Nat) (E L : List Nat) (hMR : MR sto vas sz dpt ext lin mov S dep E L) (hMC : MC cap low hig glo mlv mpt dep)  : tq_I (S := Nat) l yX5_slotAt cX5_slotAt 2 (some .int) 1 22 0 0 D cy (wM cy bb sto vas sz cap low hig dpt glo ext mdb mhl msp mmg lin mlv mpt mls mov thr) [.ref (bb 0), .int (cu)] (fun r u => ((∃ k, k < 256 ∧ cu = nI k ∧ (r = nI (k % 2 ^ glo))) ∧ u = 0) ∨ (¬ (∃ k : Nat, k < 256 ∧ cu = nI k) ∧ u = 1)) (fun u => (wM cy bb sto vas sz cap low hig dpt glo ext mdb mhl msp mmg lin mlv mpt mls mov u)) := by
  refine tq_I.mk (by decide) (Nat.le_of_ble_eq_true rfl) ?_
  intro p e s m args below meth c A C hP hK hD hS hA ls hl
  obtain ⟨hx, hb, hml, hown, hrt, hlk, hT⟩ := id C
  have hl : lv_has ls 2 [(0, .ref (bb 0)), (1, .int (cu))] := hl
  obtain ⟨hzS, hzE, hzL, hz120, hd, hAE, hAL, hPM, hKE, hKL, hSS, hbd⟩ := id hMR
  obtain ⟨hXo, hY, ⟨hcp1, hcp2⟩, ⟨hlo, hh1, hh2⟩⟩ := id hMC
  have hg8 := hXo.1
  have hp8 := p8 hg8
  have hp9 := p2_pos glo
  refine lv_aload_n hx hb dX5_slotAt_0 rfl (lv_at hl 0 rfl) ?_
  refine lv_iload_n hx hb dX5_slotAt_1 rfl (lv_at hl 1 rfl) ?_
  refine lv_iconst (v := nI 0) hx hb dX5_slotAt_2 (by decide) ?_
  refine lv_sipush (v := nI 255) hx hb dX5_slotAt_3 (by decide) ?_
  refine tq_callF (va_runS C.fix (As := [.int (cu), .int (nI 0), .int (nI 255)]) (rest := [.ref (bb 0)]) (c_X5_in l D cy cu (nI 0) (nI 255)) (tq_cS (n := 3) C ml_X5_42 sm_X5_in ini_X5 cd_X5_in ⟨by decide, by decide, by decide +kernel⟩ ⟨Nat.le_of_ble_eq_true rfl, Nat.le_of_ble_eq_true rfl⟩) ⟨tq_Pf.blind, tq_preF C hK (hP.sub [] rfl)⟩ rfl rfl hl.1 rfl (lv_room (Nat.le_of_ble_eq_true rfl)) dX5_slotAt_6 ⟨Nat.le_of_ble_eq_true rfl, Nat.le_of_ble_eq_true rfl⟩) (fun r6 hr6 => ?_)
  rcases hr6 with ⟨hr6, rfl⟩ | ⟨hr6, rfl⟩
  · obtain ⟨k, hk0, hkx⟩ := tq_rng (x := cu) (M := 255) (by omega) (Int32.not_lt.mpr hr6.1) hr6.2
    refine tq_callI (W3 := fun u => (wM cy bb sto vas sz cap low hig dpt glo ext mdb mhl msp mmg lin mlv mpt mls mov 0)) (wr := []) (va_runV C.fix (As := [.int (nI (1))]) (rest := []) ((c_X5_asked_1 l D cy bb sto vas sz cap low hig dpt glo ext mdb mhl msp mmg lin mlv mpt mls mov thr 1 rfl) s.heap.size) (tq_cV (n := 1) C ml_X5_46 im_X5_asked se_X5_asked ini_X5 cd_X5_asked ⟨by decide, by decide, by decide +kernel⟩ ⟨Nat.le_of_ble_eq_true rfl, Nat.le_of_ble_eq_true rfl⟩) ⟨tq_Pc.blind, va_recv hK hP (ci := 5) (q0 := 0) rfl rfl, tq_preC C hK hP hD⟩ rfl rfl hl.1 rfl (lv_room (Nat.le_of_ble_eq_true rfl)) dX5_slotAt_9 ⟨Nat.le_of_ble_eq_true rfl, Nat.le_of_ble_eq_true rfl⟩) hP hD hS hA [0, 1, 2, 3, 4, 5, 6] [] [0, 1, 2, 3, 4, 5, 6] rfl rfl (by decide) (by decide) (by decide) (fun _ => rfl) (fun r9 u9 H locs hr9 hP hD hS => ?_)
    have hP : va_P D vwCl (wM cy bb sto vas sz cap low hig dpt glo ext mdb mhl msp mmg lin mlv mpt mls mov 0) H := hP
    have hD : va_D A (wM cy bb sto vas sz cap low hig dpt glo ext mdb mhl msp mmg lin mlv mpt mls mov 0) := hD
    obtain rfl := hr9.symm
    rw [hkx] at hl
    refine lv_if_eq (tgt := 26) hx hb dX5_slotAt_12 (by decide) (fun h9 => absurd h9 (by decide)) (fun _ => ?_)
    refine lv_iload_n hx hb dX5_slotAt_15 rfl (lv_at hl 1 rfl) ?_
    refine lv_aload_n hx hb dX5_slotAt_16 rfl (lv_at hl 0 rfl) ?_
    refine tq_get (C0 := RX5) (T := TX5) (N := 19) (ci := 5) (k := 7) C gX5 inX5 rfl (by decide) rfl fl_X5_68 hK hP 0 rfl rfl dX5_slotAt_17 ?_
    refine tq_callF (va_runS C.fix (As := [.int (nI (k)), .int (nI (glo))]) (rest := []) (c_X5_lowest l D cy k glo (by omega) (by omega)) (tq_cS (n := 2) C ml_X5_58 sm_X5_lowest ini_X5 cd_X5_lowest ⟨by decide, by decide, by decide +kernel⟩ ⟨Nat.le_of_ble_eq_true rfl, Nat.le_of_ble_eq_true rfl⟩) ⟨tq_Pf.blind, tq_preF C hK (hP.sub [] rfl)⟩ rfl rfl hl.1 rfl (lv_room (Nat.le_of_ble_eq_true rfl)) dX5_slotAt_20 ⟨Nat.le_of_ble_eq_true rfl, Nat.le_of_ble_eq_true rfl⟩) (fun r20 hr20 => ?_)
    obtain rfl := hr20
    refine lv_goto (tgt := 27) hx hb dX5_slotAt_23 (by decide) ?_
    exact tq_iret (v := (nI (k % 2 ^ glo))) C rfl (0) hP hD hS (Or.inl ⟨⟨k, by omega, hkx, rfl⟩, rfl⟩) (Nat.le_of_ble_eq_true rfl) (Nat.le_of_ble_eq_true rfl) dX5_slotAt_27
  · have hn : ¬ ∃ k : Nat, k ≤ 255 ∧ cu = nI k := fun ⟨k, hk, e9⟩ => hr6 (by subst e9; exact ⟨nI_le (Nat.zero_le k) (by omega), nI_le (by omega) (by omega)⟩)
    refine tq_callI (W3 := fun u => (wM cy bb sto vas sz cap low hig dpt glo ext mdb mhl msp mmg lin mlv mpt mls mov 1)) (wr := []) (va_runV C.fix (As := [.int (nI (0))]) (rest := []) ((c_X5_asked_0 l D cy bb sto vas sz cap low hig dpt glo ext mdb mhl msp mmg lin mlv mpt mls mov thr 0 rfl) s.heap.size) (tq_cV (n := 1) C ml_X5_46 im_X5_asked se_X5_asked ini_X5 cd_X5_asked ⟨by decide, by decide, by decide +kernel⟩ ⟨Nat.le_of_ble_eq_true rfl, Nat.le_of_ble_eq_true rfl⟩) ⟨tq_Pc.blind, va_recv hK hP (ci := 5) (q0 := 0) rfl rfl, tq_preC C hK hP hD⟩ rfl rfl hl.1 rfl (lv_room (Nat.le_of_ble_eq_true rfl)) dX5_slotAt_9 ⟨Nat.le_of_ble_eq_true rfl, Nat.le_of_ble_eq_true rfl⟩) hP hD hS hA [0, 1, 2, 3, 4, 5, 6] [] [0, 1, 2, 3, 4, 5, 6] rfl rfl (by decide) (by decide) (by decide) (fun _ => rfl) (fun r9 u9 H locs hr9 hP hD hS => ?_)
    have hP : va_P D vwCl (wM cy bb sto vas sz cap low hig dpt glo ext mdb mhl msp mmg lin mlv mpt mls mov 1) H := hP
    have hD : va_D A (wM cy bb sto vas sz cap low hig dpt glo ext mdb mhl msp mmg lin mlv mpt mls mov 1) := hD
    obtain rfl := hr9.symm
    refine lv_if_eq (tgt := 26) hx hb dX5_slotAt_12 (by decide) (fun _ => ?_) (fun h9 => absurd (by decide : nI 0 = 0) h9)
    refine lv_iconst (v := nI 0) hx hb dX5_slotAt_26 (by decide) ?_
    exact tq_iret (v := (nI (0))) C rfl (1) hP hD hS (Or.inr ⟨fun ⟨k, h1, h2⟩ => hn ⟨k, by omega, h2⟩, rfl⟩) (Nat.le_of_ble_eq_true rfl) (Nat.le_of_ble_eq_true rfl) dX5_slotAt_27
set_option maxHeartbeats 4000000 in
set_option maxRecDepth 100000 in
theorem c_X5_reversed (l : Launch) (D : va_G) (cy : ClassId)  (xv : Nat) (nb : Nat) (hxb : xv < 2 ^ 31) (hbb : nb ≤ 16) : tq_F l yX5_reversed cX5_reversed 4 (some .int) 0 0 D cy [] [.int (nI (xv)), .int (nI (nb))] (fun r => r = (nI (rv xv nb))) := by
  refine tq_F.mk (by decide) (Nat.le_of_ble_eq_true rfl) ?_
  intro p e s m args below meth c C hP hK ls hl
  obtain ⟨hx, hb, hml, hown, hrt, hlk, hT⟩ := id C
  have hl : lv_has ls 4 [(0, .int (nI (xv))), (1, .int (nI (nb)))] := hl
  refine lv_iconst (v := nI 0) hx hb dX5_reversed_0 (by decide) ?_
  refine lv_istore_n (lv' := [(2, .int (nI (0))), (0, .int (nI (xv))), (1, .int (nI (nb)))]) hx hb dX5_reversed_1 rfl hl (by decide) rfl (fun ls hl => ?_)
  refine lv_iconst (v := nI 0) hx hb dX5_reversed_2 (by decide) ?_
  refine lv_istore_n (lv' := [(3, .int (nI (0))), (2, .int (nI (0))), (0, .int (nI (xv))), (1, .int (nI (nb)))]) hx hb dX5_reversed_3 rfl hl (by decide) rfl (fun ls hl => ?_)
  suffices hlp4 : ∀ (n4 : Nat) (i : Nat), nb - i < n4 → (i ≤ nb) → ∀ ls : Array Slot, lv_has ls 4 [(0, .int (nI (xv))), (1, .int (nI (nb))), (2, .int (nI (rv xv i))), (3, .int (nI (i)))] → W p l e ({ frames := 0, cells := 0, slots := 0, locals := 0 } : Room) s m args below meth c s.heap [] 0 0 (MQ below (tq_Qf (fun r => r = (nI (rv xv nb)))) args s 0 0 (fun _ => False)) (F0 m 4 ls []) from
    hlp4 (nb + 1) 0 (by omega) (by omega) _ (lv_sub hl [2, 3, 1, 0] rfl)
  intro n4
  induction n4 with
  | zero => intro i hf; exact absurd hf (Nat.not_lt_zero _)
  | succ n4 ih4 =>
    intro i hf4 hi ls hl
    refine lv_iload_n hx hb dX5_reversed_4 rfl (lv_at hl 3 rfl) ?_
    refine lv_iload_n hx hb dX5_reversed_5 rfl (lv_at hl 1 rfl) ?_
    refine tq_icmp_ge (tgt := 25) C (by omega) (by omega) dX5_reversed_6 (by decide) (fun h6 => ?_) (fun h6 => ?_)
    · refine lv_iload_n hx hb dX5_reversed_25 rfl (lv_at hl 2 rfl) ?_
      exact tq_fret (v := (nI (rv xv i))) C rfl (by rw [show i = nb from by omega]) dX5_reversed_26
    · refine lv_iconst (v := nI 2) hx hb dX5_reversed_9 (by decide) ?_
      refine lv_iload_n hx hb dX5_reversed_10 rfl (lv_at hl 2 rfl) ?_
      refine tq_imul C dX5_reversed_11 ?_
      refine lv_iload_n hx hb dX5_reversed_12 rfl (lv_at hl 0 rfl) ?_
      refine lv_iload_n hx hb dX5_reversed_13 rfl (lv_at hl 3 rfl) ?_
      refine tq_ishr C (by omega) (by omega) dX5_reversed_14 ?_
      refine lv_iconst (v := nI 1) hx hb dX5_reversed_15 (by decide) ?_
      refine tq_iandM (b := 1) C (by decide) (by decide) (Nat.lt_of_le_of_lt (Nat.div_le_self _ _) (by omega)) dX5_reversed_16 ?_
      refine tq_iadd C dX5_reversed_17 ?_
      refine lv_istore_n (lv' := [(2, .int (nI ((2 * (rv xv i)) + ((xv / 2 ^ i) % 2 ^ 1)))), (0, .int (nI (xv))), (1, .int (nI (nb))), (3, .int (nI (i)))]) hx hb dX5_reversed_18 rfl hl (by decide) rfl (fun ls hl => ?_)
      refine lv_iinc (v := (nI (i + 1))) (lv' := [(3, .int (nI (i + 1))), (2, .int (nI ((2 * (rv xv i)) + ((xv / 2 ^ i) % 2 ^ 1)))), (0, .int (nI (xv))), (1, .int (nI (nb)))]) hx hb dX5_reversed_19 hl (k := 3) rfl (tq_inc1 _) (by decide) rfl (fun ls hl => ?_)
      refine lv_goto (tgt := 4) hx hb dX5_reversed_22 (by decide) ?_
      exact ih4 (i + 1) (by omega) (by omega) _ (lv_sub hl [2, 3, 1, 0] rfl)
set_option maxHeartbeats 4000000 in
set_option maxRecDepth 100000 in
theorem c_X5_nextCursor (l : Launch) (D : va_G) (cy : ClassId) (bb : Nat → Nat) (sto : Nat → Nat) (vas : Nat → Nat) (sz : Nat) (cap : Nat) (low : Nat) (hig : Nat) (dpt : Nat → Nat) (glo : Nat) (ext : Nat → Nat) (mdb : Int32) (mhl : Int32) (msp : Int32) (mmg : Int32) (lin : Nat → Nat) (mlv : Nat) (mpt : Nat) (mls : Int32) (mov : Nat → Nat) (thr : Nat) (cu : Int32) (S : List (Nat × Nat)) (dep : Nat → Nat) (E L : List Nat) (hMR : MR sto vas sz dpt ext lin mov S dep E L) (hMC : MC cap low hig glo mlv mpt dep)  : tq_I (S := Nat) l yX5_nextCursor cX5_nextCursor 4 (some .int) 1 23 0 0 D cy (wM cy bb sto vas sz cap low hig dpt glo ext mdb mhl msp mmg lin mlv mpt mls mov thr) [.ref (bb 0), .int (cu)] (fun r u => ((∃ k, k < 256 ∧ cu = nI k ∧ (r = nI (nxc (dep (k % 2 ^ glo)) k))) ∧ u = 0) ∨ (¬ (∃ k : Nat, k < 256 ∧ cu = nI k) ∧ u = 1)) (fun u => (wM cy bb sto vas sz cap low hig dpt glo ext mdb mhl msp mmg lin mlv mpt mls mov u)) := by
  refine tq_I.mk (by decide) (Nat.le_of_ble_eq_true rfl) ?_
  intro p e s m args below meth c A C hP hK hD hS hA ls hl
  obtain ⟨hx, hb, hml, hown, hrt, hlk, hT⟩ := id C
  have hl : lv_has ls 4 [(0, .ref (bb 0)), (1, .int (cu))] := hl
  obtain ⟨hzS, hzE, hzL, hz120, hd, hAE, hAL, hPM, hKE, hKL, hSS, hbd⟩ := id hMR
  obtain ⟨hXo, hY, ⟨hcp1, hcp2⟩, ⟨hlo, hh1, hh2⟩⟩ := id hMC
  have hd8 : ∀ q, q < 256 → dpt q ≤ 8 := fun q hq => by have := hd q hq; have := hXo.2.1 q hq; have := hXo.1; omega
  have hg8 := hXo.1
  have hp8 := p8 hg8
  have hp9 := p2_pos glo
  refine lv_aload_n hx hb dX5_nextCursor_0 rfl (lv_at hl 0 rfl) ?_
  refine lv_iload_n hx hb dX5_nextCursor_1 rfl (lv_at hl 1 rfl) ?_
  refine lv_iconst (v := nI 0) hx hb dX5_nextCursor_2 (by decide) ?_
  refine lv_sipush (v := nI 255) hx hb dX5_nextCursor_3 (by decide) ?_
  refine tq_callF (va_runS C.fix (As := [.int (cu), .int (nI 0), .int (nI 255)]) (rest := [.ref (bb 0)]) (c_X5_in l D cy cu (nI 0) (nI 255)) (tq_cS (n := 3) C ml_X5_42 sm_X5_in ini_X5 cd_X5_in ⟨by decide, by decide, by decide +kernel⟩ ⟨Nat.le_of_ble_eq_true rfl, Nat.le_of_ble_eq_true rfl⟩) ⟨tq_Pf.blind, tq_preF C hK (hP.sub [] rfl)⟩ rfl rfl hl.1 rfl (lv_room (Nat.le_of_ble_eq_true rfl)) dX5_nextCursor_6 ⟨Nat.le_of_ble_eq_true rfl, Nat.le_of_ble_eq_true rfl⟩) (fun r6 hr6 => ?_)
  rcases hr6 with ⟨hr6, rfl⟩ | ⟨hr6, rfl⟩
  · obtain ⟨k, hk0, hkx⟩ := tq_rng (x := cu) (M := 255) (by omega) (Int32.not_lt.mpr hr6.1) hr6.2
    refine tq_callI (W3 := fun u => (wM cy bb sto vas sz cap low hig dpt glo ext mdb mhl msp mmg lin mlv mpt mls mov 0)) (wr := []) (va_runV C.fix (As := [.int (nI (1))]) (rest := []) ((c_X5_asked_1 l D cy bb sto vas sz cap low hig dpt glo ext mdb mhl msp mmg lin mlv mpt mls mov thr 1 rfl) s.heap.size) (tq_cV (n := 1) C ml_X5_46 im_X5_asked se_X5_asked ini_X5 cd_X5_asked ⟨by decide, by decide, by decide +kernel⟩ ⟨Nat.le_of_ble_eq_true rfl, Nat.le_of_ble_eq_true rfl⟩) ⟨tq_Pc.blind, va_recv hK hP (ci := 5) (q0 := 0) rfl rfl, tq_preC C hK hP hD⟩ rfl rfl hl.1 rfl (lv_room (Nat.le_of_ble_eq_true rfl)) dX5_nextCursor_9 ⟨Nat.le_of_ble_eq_true rfl, Nat.le_of_ble_eq_true rfl⟩) hP hD hS hA [0, 1, 2, 3, 4, 5, 6] [] [0, 1, 2, 3, 4, 5, 6] rfl rfl (by decide) (by decide) (by decide) (fun _ => rfl) (fun r9 u9 H locs hr9 hP hD hS => ?_)
    have hP : va_P D vwCl (wM cy bb sto vas sz cap low hig dpt glo ext mdb mhl msp mmg lin mlv mpt mls mov 0) H := hP
    have hD : va_D A (wM cy bb sto vas sz cap low hig dpt glo ext mdb mhl msp mmg lin mlv mpt mls mov 0) := hD
    obtain rfl := hr9.symm
    rw [hkx] at hl
    refine lv_if_ne (tgt := 17) hx hb dX5_nextCursor_12 (by decide) (fun _ => ?_) (fun h9 => absurd h9 (by decide))
    refine lv_aload_n hx hb dX5_nextCursor_17 rfl (lv_at hl 0 rfl) ?_
    refine tq_get (C0 := RX5) (T := TX5) (N := 19) (ci := 5) (k := 6) C gX5 inX5 rfl (by decide) rfl fl_X5_26 hK hP 0 rfl rfl dX5_nextCursor_18 ?_
    refine lv_iload_n hx hb dX5_nextCursor_21 rfl (lv_at hl 1 rfl) ?_
    refine lv_aload_n hx hb dX5_nextCursor_22 rfl (lv_at hl 0 rfl) ?_
    refine tq_get (C0 := RX5) (T := TX5) (N := 19) (ci := 5) (k := 7) C gX5 inX5 rfl (by decide) rfl fl_X5_68 hK hP 0 rfl rfl dX5_nextCursor_23 ?_
    refine tq_callF (va_runS C.fix (As := [.int (nI (k)), .int (nI (glo))]) (rest := [.ref (bb 3)]) (c_X5_lowest l D cy k glo (by omega) (by omega)) (tq_cS (n := 2) C ml_X5_58 sm_X5_lowest ini_X5 cd_X5_lowest ⟨by decide, by decide, by decide +kernel⟩ ⟨Nat.le_of_ble_eq_true rfl, Nat.le_of_ble_eq_true rfl⟩) ⟨tq_Pf.blind, tq_preF C hK (hP.sub [] rfl)⟩ rfl rfl hl.1 rfl (lv_room (Nat.le_of_ble_eq_true rfl)) dX5_nextCursor_26 ⟨Nat.le_of_ble_eq_true rfl, Nat.le_of_ble_eq_true rfl⟩) (fun r26 hr26 => ?_)
    obtain rfl := hr26
    refine tq_iald (n := 256) (i := (k % 2 ^ glo)) (f := dpt) C hK hP 3 0 rfl rfl (m2 hg8) (Nat.le_of_ble_eq_true rfl) dX5_nextCursor_29 ?_
    refine tq_top (y := nI (dep (k % 2 ^ glo))) (by rw [hd _ (m2 hg8)]) ?_
    have hdk : dep (k % 2 ^ glo) ≤ 8 := by rw [← hd _ (m2 hg8)]; exact hd8 _ (m2 hg8)
    have hpd := p8 hdk
    have hrv := rv_lt k (dep (k % 2 ^ glo))
    refine lv_istore_n (lv' := [(2, .int (nI (dep (k % 2 ^ glo)))), (0, .ref (bb 0)), (1, .int (nI (k)))]) hx hb dX5_nextCursor_30 rfl hl (by decide) rfl (fun ls hl => ?_)
    refine lv_iload_n hx hb dX5_nextCursor_31 rfl (lv_at hl 2 rfl) ?_
    refine lv_iload_n hx hb dX5_nextCursor_32 rfl (lv_at hl 0 rfl) ?_
    refine tq_callF (va_runS C.fix (As := [.int (nI (k)), .int (nI (dep (k % 2 ^ glo)))]) (rest := []) (c_X5_reversed l D cy k (dep (k % 2 ^ glo)) (by omega) (by omega)) (tq_cS (n := 2) C ml_X5_163 sm_X5_reversed ini_X5 cd_X5_reversed ⟨by decide, by decide, by decide +kernel⟩ ⟨Nat.le_of_ble_eq_true rfl, Nat.le_of_ble_eq_true rfl⟩) ⟨tq_Pf.blind, tq_preF C hK (hP.sub [] rfl)⟩ rfl rfl hl.1 rfl (lv_room (Nat.le_of_ble_eq_true rfl)) dX5_nextCursor_33 ⟨Nat.le_of_ble_eq_true rfl, Nat.le_of_ble_eq_true rfl⟩) (fun r33 hr33 => ?_)
    obtain rfl := hr33
    refine lv_iconst (v := nI 1) hx hb dX5_nextCursor_36 (by decide) ?_
    refine tq_iadd C dX5_nextCursor_37 ?_
    refine lv_istore_n (lv' := [(3, .int (nI ((rv k (dep (k % 2 ^ glo))) + 1))), (2, .int (nI (dep (k % 2 ^ glo)))), (0, .ref (bb 0)), (1, .int (nI (k)))]) hx hb dX5_nextCursor_38 rfl hl (by decide) rfl (fun ls hl => ?_)
    refine lv_iload_n hx hb dX5_nextCursor_39 rfl (lv_at hl 0 rfl) ?_
    refine lv_iconst (v := nI 1) hx hb dX5_nextCursor_40 (by decide) ?_
    refine lv_iload_n hx hb dX5_nextCursor_41 rfl (lv_at hl 1 rfl) ?_
    refine tq_ishl C (by omega) (by omega) dX5_nextCursor_42 ?_
    refine tq_top (y := nI (2 ^ (dep (k % 2 ^ glo)))) (by rw [Nat.one_mul]) ?_
    refine tq_icmp_ne (tgt := 50) C (by omega) (by omega) dX5_nextCursor_43 (by decide) (fun h43 => ?_) (fun h43 => ?_)
    · refine lv_iload_n hx hb dX5_nextCursor_50 rfl (lv_at hl 0 rfl) ?_
      refine lv_iload_n hx hb dX5_nextCursor_51 rfl (lv_at hl 1 rfl) ?_
      refine tq_callF (va_runS C.fix (As := [.int (nI ((rv k (dep (k % 2 ^ glo))) + 1)), .int (nI (dep (k % 2 ^ glo)))]) (rest := []) (c_X5_reversed l D cy ((rv k (dep (k % 2 ^ glo))) + 1) (dep (k % 2 ^ glo)) (by omega) (by omega)) (tq_cS (n := 2) C ml_X5_163 sm_X5_reversed ini_X5 cd_X5_reversed ⟨by decide, by decide, by decide +kernel⟩ ⟨Nat.le_of_ble_eq_true rfl, Nat.le_of_ble_eq_true rfl⟩) ⟨tq_Pf.blind, tq_preF C hK (hP.sub [] rfl)⟩ rfl rfl hl.1 rfl (lv_room (Nat.le_of_ble_eq_true rfl)) dX5_nextCursor_52 ⟨Nat.le_of_ble_eq_true rfl, Nat.le_of_ble_eq_true rfl⟩) (fun r52 hr52 => ?_)
      obtain rfl := hr52
      exact tq_iret (v := (nI (rv ((rv k (dep (k % 2 ^ glo))) + 1) (dep (k % 2 ^ glo))))) C rfl (0) hP hD hS (Or.inl ⟨⟨k, by omega, hkx, by rw [show nxc (dep (k % 2 ^ glo)) k = _ from if_neg h43]⟩, rfl⟩) (Nat.le_of_ble_eq_true rfl) (Nat.le_of_ble_eq_true rfl) dX5_nextCursor_55
    · refine lv_iconst (v := nI 0) hx hb dX5_nextCursor_46 (by decide) ?_
      refine lv_goto (tgt := 55) hx hb dX5_nextCursor_47 (by decide) ?_
      exact tq_iret (v := (nI (0))) C rfl (0) hP hD hS (Or.inl ⟨⟨k, by omega, hkx, by rw [show nxc (dep (k % 2 ^ glo)) k = _ from if_pos h43]⟩, rfl⟩) (Nat.le_of_ble_eq_true rfl) (Nat.le_of_ble_eq_true rfl) dX5_nextCursor_55
  · have hn : ¬ ∃ k : Nat, k ≤ 255 ∧ cu = nI k := fun ⟨k, hk, e9⟩ => hr6 (by subst e9; exact ⟨nI_le (Nat.zero_le k) (by omega), nI_le (by omega) (by omega)⟩)
    refine tq_callI (W3 := fun u => (wM cy bb sto vas sz cap low hig dpt glo ext mdb mhl msp mmg lin mlv mpt mls mov 1)) (wr := []) (va_runV C.fix (As := [.int (nI (0))]) (rest := []) ((c_X5_asked_0 l D cy bb sto vas sz cap low hig dpt glo ext mdb mhl msp mmg lin mlv mpt mls mov thr 0 rfl) s.heap.size) (tq_cV (n := 1) C ml_X5_46 im_X5_asked se_X5_asked ini_X5 cd_X5_asked ⟨by decide, by decide, by decide +kernel⟩ ⟨Nat.le_of_ble_eq_true rfl, Nat.le_of_ble_eq_true rfl⟩) ⟨tq_Pc.blind, va_recv hK hP (ci := 5) (q0 := 0) rfl rfl, tq_preC C hK hP hD⟩ rfl rfl hl.1 rfl (lv_room (Nat.le_of_ble_eq_true rfl)) dX5_nextCursor_9 ⟨Nat.le_of_ble_eq_true rfl, Nat.le_of_ble_eq_true rfl⟩) hP hD hS hA [0, 1, 2, 3, 4, 5, 6] [] [0, 1, 2, 3, 4, 5, 6] rfl rfl (by decide) (by decide) (by decide) (fun _ => rfl) (fun r9 u9 H locs hr9 hP hD hS => ?_)
    have hP : va_P D vwCl (wM cy bb sto vas sz cap low hig dpt glo ext mdb mhl msp mmg lin mlv mpt mls mov 1) H := hP
    have hD : va_D A (wM cy bb sto vas sz cap low hig dpt glo ext mdb mhl msp mmg lin mlv mpt mls mov 1) := hD
    obtain rfl := hr9.symm
    refine lv_if_ne (tgt := 17) hx hb dX5_nextCursor_12 (by decide) (fun h9 => absurd (by decide : nI 0 = 0) h9) (fun _ => ?_)
    refine lv_iconst (v := nI 0) hx hb dX5_nextCursor_15 (by decide) ?_
    exact tq_iret (v := (nI (0))) C rfl (1) hP hD hS (Or.inr ⟨fun ⟨k, h1, h2⟩ => hn ⟨k, by omega, h2⟩, rfl⟩) (Nat.le_of_ble_eq_true rfl) (Nat.le_of_ble_eq_true rfl) dX5_nextCursor_16
set_option maxHeartbeats 4000000 in
set_option maxRecDepth 100000 in
theorem c_X5_linearSize (l : Launch) (D : va_G) (cy : ClassId) (bb : Nat → Nat) (sto : Nat → Nat) (vas : Nat → Nat) (sz : Nat) (cap : Nat) (low : Nat) (hig : Nat) (dpt : Nat → Nat) (glo : Nat) (ext : Nat → Nat) (mdb : Int32) (mhl : Int32) (msp : Int32) (mmg : Int32) (lin : Nat → Nat) (mlv : Nat) (mpt : Nat) (mls : Int32) (mov : Nat → Nat) (thr : Nat) (bk : Int32) (S : List (Nat × Nat)) (dep : Nat → Nat) (E L : List Nat) (hMR : MR sto vas sz dpt ext lin mov S dep E L) (hMC : MC cap low hig glo mlv mpt dep)  : tq_I (S := Nat) l yX5_linearSize cX5_linearSize 2 (some .int) 3 66 0 0 D cy (wM cy bb sto vas sz cap low hig dpt glo ext mdb mhl msp mmg lin mlv mpt mls mov thr) [.ref (bb 0), .int (bk)] (fun r u => ((∃ k, k < 2 ^ mlv + mpt ∧ bk = nI k ∧ (r = nI (lnB L mlv mpt k).length)) ∧ u = 0) ∨ (¬ (∃ k : Nat, k < 2 ^ mlv + mpt ∧ bk = nI k) ∧ u = 1)) (fun u => (wM cy bb sto vas sz cap low hig dpt glo ext mdb mhl msp mmg lin mlv mpt mls mov u)) := by
  refine tq_I.mk (by decide) (Nat.le_of_ble_eq_true rfl) ?_
  intro p e s m args below meth c A C hP hK hD hS hA ls hl
  obtain ⟨hx, hb, hml, hown, hrt, hlk, hT⟩ := id C
  have hl : lv_has ls 2 [(0, .ref (bb 0)), (1, .int (bk))] := hl
  obtain ⟨hzS, hzE, hzL, hz120, hd, hAE, hAL, hPM, hKE, hKL, hSS, hbd⟩ := id hMR
  obtain ⟨hXo, hY, ⟨hcp1, hcp2⟩, ⟨hlo, hh1, hh2⟩⟩ := id hMC
  have hlv9 := hY.lev
  have hp7 := p2_le (c := 7) hlv9
  have hpt := hY.1
  have hmn := hY.2
  refine lv_aload_n hx hb dX5_linearSize_0 rfl (lv_at hl 0 rfl) ?_
  refine lv_iload_n hx hb dX5_linearSize_1 rfl (lv_at hl 1 rfl) ?_
  refine lv_iconst (v := nI 0) hx hb dX5_linearSize_2 (by decide) ?_
  refine lv_aload_n hx hb dX5_linearSize_3 rfl (lv_at hl 0 rfl) ?_
  refine tq_callF (va_runV C.fix (As := []) (rest := [.int (nI (0)), .int (bk), .ref (bb 0)]) (c_X5_linearMany l D cy bb sto vas sz cap low hig dpt glo ext mdb mhl msp mmg lin mlv mpt mls mov thr hY) (tq_cV (n := 0) C ml_X5_108 im_X5_linearMany se_X5_linearMany ini_X5 cd_X5_linearMany ⟨by decide, by decide, by decide +kernel⟩ ⟨Nat.le_of_ble_eq_true rfl, Nat.le_of_ble_eq_true rfl⟩) ⟨tq_Pf.blind, va_recv hK hP (ci := 5) (q0 := 0) rfl rfl, tq_preF C hK hP⟩ rfl rfl hl.1 rfl (lv_room (Nat.le_of_ble_eq_true rfl)) dX5_linearSize_4 ⟨Nat.le_of_ble_eq_true rfl, Nat.le_of_ble_eq_true rfl⟩) (fun r4 hr4 => ?_)
  obtain rfl := hr4
  refine lv_iconst (v := nI 1) hx hb dX5_linearSize_7 (by decide) ?_
  refine tq_isub C (by have := p2_pos mlv; omega) dX5_linearSize_8 ?_
  refine tq_callF (va_runS C.fix (As := [.int (bk), .int (nI 0), .int (nI ((2 ^ mlv + mpt) - 1))]) (rest := [.ref (bb 0)]) (c_X5_in l D cy bk (nI 0) (nI ((2 ^ mlv + mpt) - 1))) (tq_cS (n := 3) C ml_X5_42 sm_X5_in ini_X5 cd_X5_in ⟨by decide, by decide, by decide +kernel⟩ ⟨Nat.le_of_ble_eq_true rfl, Nat.le_of_ble_eq_true rfl⟩) ⟨tq_Pf.blind, tq_preF C hK (hP.sub [] rfl)⟩ rfl rfl hl.1 rfl (lv_room (Nat.le_of_ble_eq_true rfl)) dX5_linearSize_9 ⟨Nat.le_of_ble_eq_true rfl, Nat.le_of_ble_eq_true rfl⟩) (fun r9 hr9 => ?_)
  rcases hr9 with ⟨hr9, rfl⟩ | ⟨hr9, rfl⟩
  · obtain ⟨k, hk0, hkx⟩ := tq_rng (x := bk) (M := 2 ^ mlv + mpt - 1) (by omega) (Int32.not_lt.mpr hr9.1) hr9.2
    refine tq_callI (W3 := fun u => (wM cy bb sto vas sz cap low hig dpt glo ext mdb mhl msp mmg lin mlv mpt mls mov 0)) (wr := []) (va_runV C.fix (As := [.int (nI (1))]) (rest := []) ((c_X5_asked_1 l D cy bb sto vas sz cap low hig dpt glo ext mdb mhl msp mmg lin mlv mpt mls mov thr 1 rfl) s.heap.size) (tq_cV (n := 1) C ml_X5_46 im_X5_asked se_X5_asked ini_X5 cd_X5_asked ⟨by decide, by decide, by decide +kernel⟩ ⟨Nat.le_of_ble_eq_true rfl, Nat.le_of_ble_eq_true rfl⟩) ⟨tq_Pc.blind, va_recv hK hP (ci := 5) (q0 := 0) rfl rfl, tq_preC C hK hP hD⟩ rfl rfl hl.1 rfl (lv_room (Nat.le_of_ble_eq_true rfl)) dX5_linearSize_12 ⟨Nat.le_of_ble_eq_true rfl, Nat.le_of_ble_eq_true rfl⟩) hP hD hS hA [0, 1, 2, 3, 4, 5, 6] [] [0, 1, 2, 3, 4, 5, 6] rfl rfl (by decide) (by decide) (by decide) (fun _ => rfl) (fun r12 u12 H locs hr12 hP hD hS => ?_)
    have hP : va_P D vwCl (wM cy bb sto vas sz cap low hig dpt glo ext mdb mhl msp mmg lin mlv mpt mls mov 0) H := hP
    have hD : va_D A (wM cy bb sto vas sz cap low hig dpt glo ext mdb mhl msp mmg lin mlv mpt mls mov 0) := hD
    obtain rfl := hr12.symm
    rw [hkx] at hl
    refine lv_if_eq (tgt := 26) hx hb dX5_linearSize_15 (by decide) (fun h9 => absurd h9 (by decide)) (fun _ => ?_)
    refine lv_aload_n hx hb dX5_linearSize_18 rfl (lv_at hl 0 rfl) ?_
    refine lv_iload_n hx hb dX5_linearSize_19 rfl (lv_at hl 1 rfl) ?_
    refine tq_callF (va_runV C.fix (As := [.int (nI (k))]) (rest := []) (c_X5_inLinear l D cy bb sto vas sz cap low hig dpt glo ext mdb mhl msp mmg lin mlv mpt mls mov 0 k L hAL hzL hz120 (fun j => (hbd j).2.2.2.1) (by omega) hY) (tq_cV (n := 1) C ml_X5_166 im_X5_inLinear se_X5_inLinear ini_X5 cd_X5_inLinear ⟨by decide, by decide, by decide +kernel⟩ ⟨Nat.le_of_ble_eq_true rfl, Nat.le_of_ble_eq_true rfl⟩) ⟨tq_Pf.blind, va_recv hK hP (ci := 5) (q0 := 0) rfl rfl, tq_preF C hK hP⟩ rfl rfl hl.1 rfl (lv_room (Nat.le_of_ble_eq_true rfl)) dX5_linearSize_20 ⟨Nat.le_of_ble_eq_true rfl, Nat.le_of_ble_eq_true rfl⟩) (fun r20 hr20 => ?_)
    obtain rfl := hr20
    refine lv_goto (tgt := 27) hx hb dX5_linearSize_23 (by decide) ?_
    exact tq_iret (v := (nI (lcnt L mlv mpt k))) C rfl (0) hP hD hS (Or.inl ⟨⟨k, by have := p2_pos mlv; omega, hkx, rfl⟩, rfl⟩) (Nat.le_of_ble_eq_true rfl) (Nat.le_of_ble_eq_true rfl) dX5_linearSize_27
  · have hn : ¬ ∃ k : Nat, k ≤ 2 ^ mlv + mpt - 1 ∧ bk = nI k := fun ⟨k, hk, e9⟩ => hr9 (by subst e9; exact ⟨nI_le (Nat.zero_le k) (by omega), nI_le (by omega) (by omega)⟩)
    refine tq_callI (W3 := fun u => (wM cy bb sto vas sz cap low hig dpt glo ext mdb mhl msp mmg lin mlv mpt mls mov 1)) (wr := []) (va_runV C.fix (As := [.int (nI (0))]) (rest := []) ((c_X5_asked_0 l D cy bb sto vas sz cap low hig dpt glo ext mdb mhl msp mmg lin mlv mpt mls mov thr 0 rfl) s.heap.size) (tq_cV (n := 1) C ml_X5_46 im_X5_asked se_X5_asked ini_X5 cd_X5_asked ⟨by decide, by decide, by decide +kernel⟩ ⟨Nat.le_of_ble_eq_true rfl, Nat.le_of_ble_eq_true rfl⟩) ⟨tq_Pc.blind, va_recv hK hP (ci := 5) (q0 := 0) rfl rfl, tq_preC C hK hP hD⟩ rfl rfl hl.1 rfl (lv_room (Nat.le_of_ble_eq_true rfl)) dX5_linearSize_12 ⟨Nat.le_of_ble_eq_true rfl, Nat.le_of_ble_eq_true rfl⟩) hP hD hS hA [0, 1, 2, 3, 4, 5, 6] [] [0, 1, 2, 3, 4, 5, 6] rfl rfl (by decide) (by decide) (by decide) (fun _ => rfl) (fun r12 u12 H locs hr12 hP hD hS => ?_)
    have hP : va_P D vwCl (wM cy bb sto vas sz cap low hig dpt glo ext mdb mhl msp mmg lin mlv mpt mls mov 1) H := hP
    have hD : va_D A (wM cy bb sto vas sz cap low hig dpt glo ext mdb mhl msp mmg lin mlv mpt mls mov 1) := hD
    obtain rfl := hr12.symm
    refine lv_if_eq (tgt := 26) hx hb dX5_linearSize_15 (by decide) (fun _ => ?_) (fun h9 => absurd (by decide : nI 0 = 0) h9)
    refine lv_iconst (v := nI 0) hx hb dX5_linearSize_26 (by decide) ?_
    exact tq_iret (v := (nI (0))) C rfl (1) hP hD hS (Or.inr ⟨fun ⟨k, h1, h2⟩ => hn ⟨k, by omega, h2⟩, rfl⟩) (Nat.le_of_ble_eq_true rfl) (Nat.le_of_ble_eq_true rfl) dX5_linearSize_27
