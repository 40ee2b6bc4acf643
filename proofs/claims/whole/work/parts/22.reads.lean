theorem dX4_checkSlot_0 : decode cX4_checkSlot 0 = .ok (.iload_n 1, 1) := by decide +kernel
theorem dX4_checkSlot_1 : decode cX4_checkSlot 1 = .ok (.aload_n 0, 1) := by decide +kernel
theorem dX4_checkSlot_2 : decode cX4_checkSlot 2 = .ok (.getfield 21, 3) := by decide +kernel
theorem dX4_checkSlot_5 : decode cX4_checkSlot 5 = .ok (.invokevirtual 138, 3) := by decide +kernel
theorem dX4_checkSlot_8 : decode cX4_checkSlot 8 = .ok (.invokestatic 175, 3) := by decide +kernel
theorem dX4_checkSlot_11 : decode cX4_checkSlot 11 = .ok (.return_, 1) := by decide +kernel
theorem dX4_keyOfRow_0 : decode cX4_keyOfRow 0 = .ok (.iload_n 3, 1) := by decide +kernel
theorem dX4_keyOfRow_1 : decode cX4_keyOfRow 1 = .ok (.aload_n 1, 1) := by decide +kernel
theorem dX4_keyOfRow_2 : decode cX4_keyOfRow 2 = .ok (.iload_n 2, 1) := by decide +kernel
theorem dX4_keyOfRow_3 : decode cX4_keyOfRow 3 = .ok (.invokevirtual 123, 3) := by decide +kernel
theorem dX4_keyOfRow_6 : decode cX4_keyOfRow 6 = .ok (.invokestatic 175, 3) := by decide +kernel
theorem dX4_keyOfRow_9 : decode cX4_keyOfRow 9 = .ok (.aload_n 0, 1) := by decide +kernel
theorem dX4_keyOfRow_10 : decode cX4_keyOfRow 10 = .ok (.getfield 10, 3) := by decide +kernel
theorem dX4_keyOfRow_13 : decode cX4_keyOfRow 13 = .ok (.aload_n 1, 1) := by decide +kernel
theorem dX4_keyOfRow_14 : decode cX4_keyOfRow 14 = .ok (.iload_n 2, 1) := by decide +kernel
theorem dX4_keyOfRow_15 : decode cX4_keyOfRow 15 = .ok (.iload_n 3, 1) := by decide +kernel
theorem dX4_keyOfRow_16 : decode cX4_keyOfRow 16 = .ok (.invokevirtual 195, 3) := by decide +kernel
theorem dX4_keyOfRow_19 : decode cX4_keyOfRow 19 = .ok (.invokevirtual 198, 3) := by decide +kernel
theorem dX4_keyOfRow_22 : decode cX4_keyOfRow 22 = .ok (.ireturn, 1) := by decide +kernel
theorem dX4_size_0 : decode cX4_size 0 = .ok (.aload_n 0, 1) := by decide +kernel
theorem dX4_size_1 : decode cX4_size 1 = .ok (.getfield 10, 3) := by decide +kernel
theorem dX4_size_4 : decode cX4_size 4 = .ok (.getfield 49, 3) := by decide +kernel
theorem dX4_size_7 : decode cX4_size 7 = .ok (.ireturn, 1) := by decide +kernel
theorem dX4_globalDepth_0 : decode cX4_globalDepth 0 = .ok (.aload_n 0, 1) := by decide +kernel
theorem dX4_globalDepth_1 : decode cX4_globalDepth 1 = .ok (.getfield 21, 3) := by decide +kernel
theorem dX4_globalDepth_4 : decode cX4_globalDepth 4 = .ok (.getfield 104, 3) := by decide +kernel
theorem dX4_globalDepth_7 : decode cX4_globalDepth 7 = .ok (.ireturn, 1) := by decide +kernel
theorem dX4_doublings_0 : decode cX4_doublings 0 = .ok (.aload_n 0, 1) := by decide +kernel
theorem dX4_doublings_1 : decode cX4_doublings 1 = .ok (.getfield 21, 3) := by decide +kernel
theorem dX4_doublings_4 : decode cX4_doublings 4 = .ok (.getfield 150, 3) := by decide +kernel
theorem dX4_doublings_7 : decode cX4_doublings 7 = .ok (.ireturn, 1) := by decide +kernel
theorem dX4_halvings_0 : decode cX4_halvings 0 = .ok (.aload_n 0, 1) := by decide +kernel
theorem dX4_halvings_1 : decode cX4_halvings 1 = .ok (.getfield 21, 3) := by decide +kernel
theorem dX4_halvings_4 : decode cX4_halvings 4 = .ok (.getfield 153, 3) := by decide +kernel
theorem dX4_halvings_7 : decode cX4_halvings 7 = .ok (.ireturn, 1) := by decide +kernel
theorem dX4_splits_0 : decode cX4_splits 0 = .ok (.aload_n 0, 1) := by decide +kernel
theorem dX4_splits_1 : decode cX4_splits 1 = .ok (.getfield 21, 3) := by decide +kernel
theorem dX4_splits_4 : decode cX4_splits 4 = .ok (.getfield 156, 3) := by decide +kernel
theorem dX4_splits_7 : decode cX4_splits 7 = .ok (.ireturn, 1) := by decide +kernel
theorem dX4_merges_0 : decode cX4_merges 0 = .ok (.aload_n 0, 1) := by decide +kernel
theorem dX4_merges_1 : decode cX4_merges 1 = .ok (.getfield 21, 3) := by decide +kernel
theorem dX4_merges_4 : decode cX4_merges 4 = .ok (.getfield 159, 3) := by decide +kernel
theorem dX4_merges_7 : decode cX4_merges 7 = .ok (.ireturn, 1) := by decide +kernel
theorem dX4_level_0 : decode cX4_level 0 = .ok (.aload_n 0, 1) := by decide +kernel
theorem dX4_level_1 : decode cX4_level 1 = .ok (.getfield 28, 3) := by decide +kernel
theorem dX4_level_4 : decode cX4_level 4 = .ok (.getfield 169, 3) := by decide +kernel
theorem dX4_level_7 : decode cX4_level 7 = .ok (.ireturn, 1) := by decide +kernel
theorem dX4_pointer_0 : decode cX4_pointer 0 = .ok (.aload_n 0, 1) := by decide +kernel
theorem dX4_pointer_1 : decode cX4_pointer 1 = .ok (.getfield 28, 3) := by decide +kernel
theorem dX4_pointer_4 : decode cX4_pointer 4 = .ok (.getfield 172, 3) := by decide +kernel
theorem dX4_pointer_7 : decode cX4_pointer 7 = .ok (.ireturn, 1) := by decide +kernel
theorem dX4_linearSplits_0 : decode cX4_linearSplits 0 = .ok (.aload_n 0, 1) := by decide +kernel
theorem dX4_linearSplits_1 : decode cX4_linearSplits 1 = .ok (.getfield 28, 3) := by decide +kernel
theorem dX4_linearSplits_4 : decode cX4_linearSplits 4 = .ok (.getfield 181, 3) := by decide +kernel
theorem dX4_linearSplits_7 : decode cX4_linearSplits 7 = .ok (.ireturn, 1) := by decide +kernel
theorem dX4_buckets_0 : decode cX4_buckets 0 = .ok (.aload_n 0, 1) := by decide +kernel
theorem dX4_buckets_1 : decode cX4_buckets 1 = .ok (.getfield 21, 3) := by decide +kernel
theorem dX4_buckets_4 : decode cX4_buckets 4 = .ok (.invokevirtual 107, 3) := by decide +kernel
theorem dX4_buckets_7 : decode cX4_buckets 7 = .ok (.ireturn, 1) := by decide +kernel
theorem dX4_overflowPages_0 : decode cX4_overflowPages 0 = .ok (.aload_n 0, 1) := by decide +kernel
theorem dX4_overflowPages_1 : decode cX4_overflowPages 1 = .ok (.getfield 21, 3) := by decide +kernel
theorem dX4_overflowPages_4 : decode cX4_overflowPages 4 = .ok (.getfield 116, 3) := by decide +kernel
theorem dX4_overflowPages_7 : decode cX4_overflowPages 7 = .ok (.aload_n 0, 1) := by decide +kernel
theorem dX4_overflowPages_8 : decode cX4_overflowPages 8 = .ok (.getfield 21, 3) := by decide +kernel
theorem dX4_overflowPages_11 : decode cX4_overflowPages 11 = .ok (.invokevirtual 138, 3) := by decide +kernel
theorem dX4_overflowPages_14 : decode cX4_overflowPages 14 = .ok (.invokevirtual 141, 3) := by decide +kernel
theorem dX4_overflowPages_17 : decode cX4_overflowPages 17 = .ok (.ireturn, 1) := by decide +kernel
theorem dX4_linearBuckets_0 : decode cX4_linearBuckets 0 = .ok (.aload_n 0, 1) := by decide +kernel
theorem dX4_linearBuckets_1 : decode cX4_linearBuckets 1 = .ok (.getfield 28, 3) := by decide +kernel
theorem dX4_linearBuckets_4 : decode cX4_linearBuckets 4 = .ok (.invokevirtual 168, 3) := by decide +kernel
theorem dX4_linearBuckets_7 : decode cX4_linearBuckets 7 = .ok (.ireturn, 1) := by decide +kernel
theorem dX4_linearOverflowPages_0 : decode cX4_linearOverflowPages 0 = .ok (.aload_n 0, 1) := by decide +kernel
theorem dX4_linearOverflowPages_1 : decode cX4_linearOverflowPages 1 = .ok (.getfield 28, 3) := by decide +kernel
theorem dX4_linearOverflowPages_4 : decode cX4_linearOverflowPages 4 = .ok (.getfield 179, 3) := by decide +kernel
theorem dX4_linearOverflowPages_7 : decode cX4_linearOverflowPages 7 = .ok (.aload_n 0, 1) := by decide +kernel
theorem dX4_linearOverflowPages_8 : decode cX4_linearOverflowPages 8 = .ok (.getfield 28, 3) := by decide +kernel
theorem dX4_linearOverflowPages_11 : decode cX4_linearOverflowPages 11 = .ok (.invokevirtual 168, 3) := by decide +kernel
theorem dX4_linearOverflowPages_14 : decode cX4_linearOverflowPages 14 = .ok (.invokevirtual 141, 3) := by decide +kernel
theorem dX4_linearOverflowPages_17 : decode cX4_linearOverflowPages 17 = .ok (.ireturn, 1) := by decide +kernel
theorem dX4_load_0 : decode cX4_load 0 = .ok (.aload_n 0, 1) := by decide +kernel
theorem dX4_load_1 : decode cX4_load 1 = .ok (.getfield 28, 3) := by decide +kernel
theorem dX4_load_4 : decode cX4_load 4 = .ok (.invokevirtual 168, 3) := by decide +kernel
theorem dX4_load_7 : decode cX4_load 7 = .ok (.aload_n 0, 1) := by decide +kernel
theorem dX4_load_8 : decode cX4_load 8 = .ok (.getfield 10, 3) := by decide +kernel
theorem dX4_load_11 : decode cX4_load 11 = .ok (.getfield 83, 3) := by decide +kernel
theorem dX4_load_14 : decode cX4_load 14 = .ok (.imul, 1) := by decide +kernel
theorem dX4_load_15 : decode cX4_load 15 = .ok (.istore_n 1, 1) := by decide +kernel
theorem dX4_load_16 : decode cX4_load 16 = .ok (.iload_n 1, 1) := by decide +kernel
theorem dX4_load_17 : decode cX4_load 17 = .ok (.ifCond .le 18, 3) := by decide +kernel
theorem dX4_load_20 : decode cX4_load 20 = .ok (.bipush 100, 2) := by decide +kernel
theorem dX4_load_22 : decode cX4_load 22 = .ok (.aload_n 0, 1) := by decide +kernel
theorem dX4_load_23 : decode cX4_load 23 = .ok (.getfield 10, 3) := by decide +kernel
theorem dX4_load_26 : decode cX4_load 26 = .ok (.getfield 49, 3) := by decide +kernel
theorem dX4_load_29 : decode cX4_load 29 = .ok (.imul, 1) := by decide +kernel
theorem dX4_load_30 : decode cX4_load 30 = .ok (.iload_n 1, 1) := by decide +kernel
theorem dX4_load_31 : decode cX4_load 31 = .ok (.idiv, 1) := by decide +kernel
theorem dX4_load_32 : decode cX4_load 32 = .ok (.goto 4, 3) := by decide +kernel
theorem dX4_load_35 : decode cX4_load 35 = .ok (.iconst 0, 1) := by decide +kernel
theorem dX4_load_36 : decode cX4_load 36 = .ok (.ireturn, 1) := by decide +kernel
theorem dX4_valueOrAbsent_0 : decode cX4_valueOrAbsent 0 = .ok (.iload_n 1, 1) := by decide +kernel
theorem dX4_valueOrAbsent_1 : decode cX4_valueOrAbsent 1 = .ok (.ifCond .ne 7, 3) := by decide +kernel
theorem dX4_valueOrAbsent_4 : decode cX4_valueOrAbsent 4 = .ok (.iconst (-1), 1) := by decide +kernel
theorem dX4_valueOrAbsent_5 : decode cX4_valueOrAbsent 5 = .ok (.goto 11, 3) := by decide +kernel
theorem dX4_valueOrAbsent_8 : decode cX4_valueOrAbsent 8 = .ok (.aload_n 0, 1) := by decide +kernel
theorem dX4_valueOrAbsent_9 : decode cX4_valueOrAbsent 9 = .ok (.getfield 10, 3) := by decide +kernel
theorem dX4_valueOrAbsent_12 : decode cX4_valueOrAbsent 12 = .ok (.iload_n 1, 1) := by decide +kernel
theorem dX4_valueOrAbsent_13 : decode cX4_valueOrAbsent 13 = .ok (.invokevirtual 73, 3) := by decide +kernel
theorem dX4_valueOrAbsent_16 : decode cX4_valueOrAbsent 16 = .ok (.ireturn, 1) := by decide +kernel
theorem dX4_get_0 : decode cX4_get 0 = .ok (.iload_n 1, 1) := by decide +kernel
theorem dX4_get_1 : decode cX4_get 1 = .ok (.invokestatic 32, 3) := by decide +kernel
theorem dX4_get_4 : decode cX4_get 4 = .ok (.aload_n 0, 1) := by decide +kernel
theorem dX4_get_5 : decode cX4_get 5 = .ok (.aload_n 0, 1) := by decide +kernel
theorem dX4_get_6 : decode cX4_get 6 = .ok (.getfield 21, 3) := by decide +kernel
theorem dX4_get_9 : decode cX4_get 9 = .ok (.iload_n 1, 1) := by decide +kernel
theorem dX4_get_10 : decode cX4_get 10 = .ok (.invokevirtual 41, 3) := by decide +kernel
theorem dX4_get_13 : decode cX4_get 13 = .ok (.invokevirtual 76, 3) := by decide +kernel
theorem dX4_get_16 : decode cX4_get 16 = .ok (.ireturn, 1) := by decide +kernel
theorem dX4_getByLinear_0 : decode cX4_getByLinear 0 = .ok (.iload_n 1, 1) := by decide +kernel
theorem dX4_getByLinear_1 : decode cX4_getByLinear 1 = .ok (.invokestatic 32, 3) := by decide +kernel
theorem dX4_getByLinear_4 : decode cX4_getByLinear 4 = .ok (.aload_n 0, 1) := by decide +kernel
theorem dX4_getByLinear_5 : decode cX4_getByLinear 5 = .ok (.aload_n 0, 1) := by decide +kernel
theorem dX4_getByLinear_6 : decode cX4_getByLinear 6 = .ok (.getfield 28, 3) := by decide +kernel
theorem dX4_getByLinear_9 : decode cX4_getByLinear 9 = .ok (.iload_n 1, 1) := by decide +kernel
theorem dX4_getByLinear_10 : decode cX4_getByLinear 10 = .ok (.invokevirtual 79, 3) := by decide +kernel
theorem dX4_getByLinear_13 : decode cX4_getByLinear 13 = .ok (.invokevirtual 76, 3) := by decide +kernel
theorem dX4_getByLinear_16 : decode cX4_getByLinear 16 = .ok (.ireturn, 1) := by decide +kernel
theorem dX4_hashOf_0 : decode cX4_hashOf 0 = .ok (.iload_n 1, 1) := by decide +kernel
theorem dX4_hashOf_1 : decode cX4_hashOf 1 = .ok (.invokestatic 32, 3) := by decide +kernel
theorem dX4_hashOf_4 : decode cX4_hashOf 4 = .ok (.iload_n 1, 1) := by decide +kernel
theorem dX4_hashOf_5 : decode cX4_hashOf 5 = .ok (.invokestatic 101, 3) := by decide +kernel
theorem dX4_hashOf_8 : decode cX4_hashOf 8 = .ok (.ireturn, 1) := by decide +kernel
theorem dX4_localDepth_0 : decode cX4_localDepth 0 = .ok (.aload_n 0, 1) := by decide +kernel
theorem dX4_localDepth_1 : decode cX4_localDepth 1 = .ok (.iload_n 1, 1) := by decide +kernel
theorem dX4_localDepth_2 : decode cX4_localDepth 2 = .ok (.invokevirtual 110, 3) := by decide +kernel
theorem dX4_localDepth_5 : decode cX4_localDepth 5 = .ok (.aload_n 0, 1) := by decide +kernel
theorem dX4_localDepth_6 : decode cX4_localDepth 6 = .ok (.getfield 21, 3) := by decide +kernel
theorem dX4_localDepth_9 : decode cX4_localDepth 9 = .ok (.iload_n 1, 1) := by decide +kernel
theorem dX4_localDepth_10 : decode cX4_localDepth 10 = .ok (.invokevirtual 113, 3) := by decide +kernel
theorem dX4_localDepth_13 : decode cX4_localDepth 13 = .ok (.ireturn, 1) := by decide +kernel
theorem dX4_bucketSize_0 : decode cX4_bucketSize 0 = .ok (.aload_n 0, 1) := by decide +kernel
theorem dX4_bucketSize_1 : decode cX4_bucketSize 1 = .ok (.iload_n 1, 1) := by decide +kernel
theorem dX4_bucketSize_2 : decode cX4_bucketSize 2 = .ok (.invokevirtual 110, 3) := by decide +kernel
theorem dX4_bucketSize_5 : decode cX4_bucketSize 5 = .ok (.aload_n 0, 1) := by decide +kernel
theorem dX4_bucketSize_6 : decode cX4_bucketSize 6 = .ok (.getfield 21, 3) := by decide +kernel
theorem dX4_bucketSize_9 : decode cX4_bucketSize 9 = .ok (.getfield 116, 3) := by decide +kernel
theorem dX4_bucketSize_12 : decode cX4_bucketSize 12 = .ok (.aload_n 0, 1) := by decide +kernel
theorem dX4_bucketSize_13 : decode cX4_bucketSize 13 = .ok (.getfield 21, 3) := by decide +kernel
theorem dX4_bucketSize_16 : decode cX4_bucketSize 16 = .ok (.iload_n 1, 1) := by decide +kernel
theorem dX4_bucketSize_17 : decode cX4_bucketSize 17 = .ok (.invokevirtual 120, 3) := by decide +kernel
theorem dX4_bucketSize_20 : decode cX4_bucketSize 20 = .ok (.invokevirtual 123, 3) := by decide +kernel
theorem dX4_bucketSize_23 : decode cX4_bucketSize 23 = .ok (.ireturn, 1) := by decide +kernel
theorem dX4_keyAt_0 : decode cX4_keyAt 0 = .ok (.aload_n 0, 1) := by decide +kernel
theorem dX4_keyAt_1 : decode cX4_keyAt 1 = .ok (.iload_n 1, 1) := by decide +kernel
theorem dX4_keyAt_2 : decode cX4_keyAt 2 = .ok (.invokevirtual 110, 3) := by decide +kernel
theorem dX4_keyAt_5 : decode cX4_keyAt 5 = .ok (.aload_n 0, 1) := by decide +kernel
theorem dX4_keyAt_6 : decode cX4_keyAt 6 = .ok (.aload_n 0, 1) := by decide +kernel
theorem dX4_keyAt_7 : decode cX4_keyAt 7 = .ok (.getfield 21, 3) := by decide +kernel
theorem dX4_keyAt_10 : decode cX4_keyAt 10 = .ok (.getfield 116, 3) := by decide +kernel
theorem dX4_keyAt_13 : decode cX4_keyAt 13 = .ok (.aload_n 0, 1) := by decide +kernel
theorem dX4_keyAt_14 : decode cX4_keyAt 14 = .ok (.getfield 21, 3) := by decide +kernel
theorem dX4_keyAt_17 : decode cX4_keyAt 17 = .ok (.iload_n 1, 1) := by decide +kernel
theorem dX4_keyAt_18 : decode cX4_keyAt 18 = .ok (.invokevirtual 120, 3) := by decide +kernel
theorem dX4_keyAt_21 : decode cX4_keyAt 21 = .ok (.iload_n 2, 1) := by decide +kernel
theorem dX4_keyAt_22 : decode cX4_keyAt 22 = .ok (.invokevirtual 128, 3) := by decide +kernel
theorem dX4_keyAt_25 : decode cX4_keyAt 25 = .ok (.ireturn, 1) := by decide +kernel
theorem dX4_slotOf_0 : decode cX4_slotOf 0 = .ok (.iload_n 1, 1) := by decide +kernel
theorem dX4_slotOf_1 : decode cX4_slotOf 1 = .ok (.invokestatic 32, 3) := by decide +kernel
theorem dX4_slotOf_4 : decode cX4_slotOf 4 = .ok (.aload_n 0, 1) := by decide +kernel
theorem dX4_slotOf_5 : decode cX4_slotOf 5 = .ok (.getfield 21, 3) := by decide +kernel
theorem dX4_slotOf_8 : decode cX4_slotOf 8 = .ok (.iload_n 1, 1) := by decide +kernel
theorem dX4_slotOf_9 : decode cX4_slotOf 9 = .ok (.invokevirtual 132, 3) := by decide +kernel
theorem dX4_slotOf_12 : decode cX4_slotOf 12 = .ok (.ireturn, 1) := by decide +kernel
theorem dX4_buddyOf_0 : decode cX4_buddyOf 0 = .ok (.aload_n 0, 1) := by decide +kernel
theorem dX4_buddyOf_1 : decode cX4_buddyOf 1 = .ok (.iload_n 1, 1) := by decide +kernel
theorem dX4_buddyOf_2 : decode cX4_buddyOf 2 = .ok (.invokevirtual 110, 3) := by decide +kernel
theorem dX4_buddyOf_5 : decode cX4_buddyOf 5 = .ok (.aload_n 0, 1) := by decide +kernel
theorem dX4_buddyOf_6 : decode cX4_buddyOf 6 = .ok (.getfield 21, 3) := by decide +kernel
theorem dX4_buddyOf_9 : decode cX4_buddyOf 9 = .ok (.iload_n 1, 1) := by decide +kernel
theorem dX4_buddyOf_10 : decode cX4_buddyOf 10 = .ok (.invokevirtual 135, 3) := by decide +kernel
theorem dX4_buddyOf_13 : decode cX4_buddyOf 13 = .ok (.ireturn, 1) := by decide +kernel
theorem dX4_probes_0 : decode cX4_probes 0 = .ok (.iload_n 1, 1) := by decide +kernel
theorem dX4_probes_1 : decode cX4_probes 1 = .ok (.invokestatic 32, 3) := by decide +kernel
theorem dX4_probes_4 : decode cX4_probes 4 = .ok (.aload_n 0, 1) := by decide +kernel
theorem dX4_probes_5 : decode cX4_probes 5 = .ok (.getfield 21, 3) := by decide +kernel
theorem dX4_probes_8 : decode cX4_probes 8 = .ok (.getfield 116, 3) := by decide +kernel
theorem dX4_probes_11 : decode cX4_probes 11 = .ok (.aload_n 0, 1) := by decide +kernel
theorem dX4_probes_12 : decode cX4_probes 12 = .ok (.getfield 21, 3) := by decide +kernel
theorem dX4_probes_15 : decode cX4_probes 15 = .ok (.iload_n 1, 1) := by decide +kernel
theorem dX4_probes_16 : decode cX4_probes 16 = .ok (.invokevirtual 144, 3) := by decide +kernel
theorem dX4_probes_19 : decode cX4_probes 19 = .ok (.iload_n 1, 1) := by decide +kernel
theorem dX4_probes_20 : decode cX4_probes 20 = .ok (.invokevirtual 147, 3) := by decide +kernel
theorem dX4_probes_23 : decode cX4_probes 23 = .ok (.ireturn, 1) := by decide +kernel
theorem dX4_slotAt_0 : decode cX4_slotAt 0 = .ok (.iload_n 1, 1) := by decide +kernel
theorem dX4_slotAt_1 : decode cX4_slotAt 1 = .ok (.iconst 0, 1) := by decide +kernel
theorem dX4_slotAt_2 : decode cX4_slotAt 2 = .ok (.sipush 255, 3) := by decide +kernel
theorem dX4_slotAt_5 : decode cX4_slotAt 5 = .ok (.invokestatic 37, 3) := by decide +kernel
theorem dX4_slotAt_8 : decode cX4_slotAt 8 = .ok (.iload_n 1, 1) := by decide +kernel
theorem dX4_slotAt_9 : decode cX4_slotAt 9 = .ok (.aload_n 0, 1) := by decide +kernel
theorem dX4_slotAt_10 : decode cX4_slotAt 10 = .ok (.getfield 21, 3) := by decide +kernel
theorem dX4_slotAt_13 : decode cX4_slotAt 13 = .ok (.getfield 104, 3) := by decide +kernel
theorem dX4_slotAt_16 : decode cX4_slotAt 16 = .ok (.invokestatic 162, 3) := by decide +kernel
theorem dX4_slotAt_19 : decode cX4_slotAt 19 = .ok (.ireturn, 1) := by decide +kernel
theorem dX4_nextCursor_0 : decode cX4_nextCursor 0 = .ok (.iload_n 1, 1) := by decide +kernel
theorem dX4_nextCursor_1 : decode cX4_nextCursor 1 = .ok (.iconst 0, 1) := by decide +kernel
theorem dX4_nextCursor_2 : decode cX4_nextCursor 2 = .ok (.sipush 255, 3) := by decide +kernel
theorem dX4_nextCursor_5 : decode cX4_nextCursor 5 = .ok (.invokestatic 37, 3) := by decide +kernel
theorem dX4_nextCursor_8 : decode cX4_nextCursor 8 = .ok (.aload_n 0, 1) := by decide +kernel
theorem dX4_nextCursor_9 : decode cX4_nextCursor 9 = .ok (.getfield 21, 3) := by decide +kernel
theorem dX4_nextCursor_12 : decode cX4_nextCursor 12 = .ok (.iload_n 1, 1) := by decide +kernel
theorem dX4_nextCursor_13 : decode cX4_nextCursor 13 = .ok (.aload_n 0, 1) := by decide +kernel
theorem dX4_nextCursor_14 : decode cX4_nextCursor 14 = .ok (.getfield 21, 3) := by decide +kernel
theorem dX4_nextCursor_17 : decode cX4_nextCursor 17 = .ok (.getfield 104, 3) := by decide +kernel
theorem dX4_nextCursor_20 : decode cX4_nextCursor 20 = .ok (.invokestatic 162, 3) := by decide +kernel
theorem dX4_nextCursor_23 : decode cX4_nextCursor 23 = .ok (.invokevirtual 113, 3) := by decide +kernel
theorem dX4_nextCursor_26 : decode cX4_nextCursor 26 = .ok (.istore_n 2, 1) := by decide +kernel
theorem dX4_nextCursor_27 : decode cX4_nextCursor 27 = .ok (.iload_n 1, 1) := by decide +kernel
theorem dX4_nextCursor_28 : decode cX4_nextCursor 28 = .ok (.iload_n 2, 1) := by decide +kernel
theorem dX4_nextCursor_29 : decode cX4_nextCursor 29 = .ok (.invokestatic 165, 3) := by decide +kernel
theorem dX4_nextCursor_32 : decode cX4_nextCursor 32 = .ok (.iconst 1, 1) := by decide +kernel
theorem dX4_nextCursor_33 : decode cX4_nextCursor 33 = .ok (.iadd, 1) := by decide +kernel
theorem dX4_nextCursor_34 : decode cX4_nextCursor 34 = .ok (.istore_n 3, 1) := by decide +kernel
theorem dX4_nextCursor_35 : decode cX4_nextCursor 35 = .ok (.iload_n 3, 1) := by decide +kernel
theorem dX4_nextCursor_36 : decode cX4_nextCursor 36 = .ok (.iconst 1, 1) := by decide +kernel
theorem dX4_nextCursor_37 : decode cX4_nextCursor 37 = .ok (.iload_n 2, 1) := by decide +kernel
theorem dX4_nextCursor_38 : decode cX4_nextCursor 38 = .ok (.ishl, 1) := by decide +kernel
theorem dX4_nextCursor_39 : decode cX4_nextCursor 39 = .ok (.if_icmp .ne 7, 3) := by decide +kernel
theorem dX4_nextCursor_42 : decode cX4_nextCursor 42 = .ok (.iconst 0, 1) := by decide +kernel
theorem dX4_nextCursor_43 : decode cX4_nextCursor 43 = .ok (.goto 8, 3) := by decide +kernel
theorem dX4_nextCursor_46 : decode cX4_nextCursor 46 = .ok (.iload_n 3, 1) := by decide +kernel
theorem dX4_nextCursor_47 : decode cX4_nextCursor 47 = .ok (.iload_n 2, 1) := by decide +kernel
theorem dX4_nextCursor_48 : decode cX4_nextCursor 48 = .ok (.invokestatic 165, 3) := by decide +kernel
theorem dX4_nextCursor_51 : decode cX4_nextCursor 51 = .ok (.ireturn, 1) := by decide +kernel
theorem dX4_linearSize_0 : decode cX4_linearSize 0 = .ok (.iload_n 1, 1) := by decide +kernel
theorem dX4_linearSize_1 : decode cX4_linearSize 1 = .ok (.aload_n 0, 1) := by decide +kernel
theorem dX4_linearSize_2 : decode cX4_linearSize 2 = .ok (.getfield 28, 3) := by decide +kernel
theorem dX4_linearSize_5 : decode cX4_linearSize 5 = .ok (.invokevirtual 168, 3) := by decide +kernel
theorem dX4_linearSize_8 : decode cX4_linearSize 8 = .ok (.invokestatic 175, 3) := by decide +kernel
theorem dX4_linearSize_11 : decode cX4_linearSize 11 = .ok (.aload_n 0, 1) := by decide +kernel
theorem dX4_linearSize_12 : decode cX4_linearSize 12 = .ok (.getfield 28, 3) := by decide +kernel
theorem dX4_linearSize_15 : decode cX4_linearSize 15 = .ok (.getfield 179, 3) := by decide +kernel
theorem dX4_linearSize_18 : decode cX4_linearSize 18 = .ok (.iload_n 1, 1) := by decide +kernel
theorem dX4_linearSize_19 : decode cX4_linearSize 19 = .ok (.invokevirtual 123, 3) := by decide +kernel
theorem dX4_linearSize_22 : decode cX4_linearSize 22 = .ok (.ireturn, 1) := by decide +kernel
theorem dX4_linearKeyAt_0 : decode cX4_linearKeyAt 0 = .ok (.iload_n 1, 1) := by decide +kernel
theorem dX4_linearKeyAt_1 : decode cX4_linearKeyAt 1 = .ok (.aload_n 0, 1) := by decide +kernel
theorem dX4_linearKeyAt_2 : decode cX4_linearKeyAt 2 = .ok (.getfield 28, 3) := by decide +kernel
theorem dX4_linearKeyAt_5 : decode cX4_linearKeyAt 5 = .ok (.invokevirtual 168, 3) := by decide +kernel
theorem dX4_linearKeyAt_8 : decode cX4_linearKeyAt 8 = .ok (.invokestatic 175, 3) := by decide +kernel
theorem dX4_linearKeyAt_11 : decode cX4_linearKeyAt 11 = .ok (.aload_n 0, 1) := by decide +kernel
theorem dX4_linearKeyAt_12 : decode cX4_linearKeyAt 12 = .ok (.aload_n 0, 1) := by decide +kernel
theorem dX4_linearKeyAt_13 : decode cX4_linearKeyAt 13 = .ok (.getfield 28, 3) := by decide +kernel
theorem dX4_linearKeyAt_16 : decode cX4_linearKeyAt 16 = .ok (.getfield 179, 3) := by decide +kernel
theorem dX4_linearKeyAt_19 : decode cX4_linearKeyAt 19 = .ok (.iload_n 1, 1) := by decide +kernel
theorem dX4_linearKeyAt_20 : decode cX4_linearKeyAt 20 = .ok (.iload_n 2, 1) := by decide +kernel
theorem dX4_linearKeyAt_21 : decode cX4_linearKeyAt 21 = .ok (.invokevirtual 128, 3) := by decide +kernel
theorem dX4_linearKeyAt_24 : decode cX4_linearKeyAt 24 = .ok (.ireturn, 1) := by decide +kernel
theorem dX4_linearBucketOf_0 : decode cX4_linearBucketOf 0 = .ok (.iload_n 1, 1) := by decide +kernel
theorem dX4_linearBucketOf_1 : decode cX4_linearBucketOf 1 = .ok (.invokestatic 32, 3) := by decide +kernel
theorem dX4_linearBucketOf_4 : decode cX4_linearBucketOf 4 = .ok (.aload_n 0, 1) := by decide +kernel
theorem dX4_linearBucketOf_5 : decode cX4_linearBucketOf 5 = .ok (.getfield 28, 3) := by decide +kernel
theorem dX4_linearBucketOf_8 : decode cX4_linearBucketOf 8 = .ok (.iload_n 1, 1) := by decide +kernel
theorem dX4_linearBucketOf_9 : decode cX4_linearBucketOf 9 = .ok (.invokevirtual 180, 3) := by decide +kernel
theorem dX4_linearBucketOf_12 : decode cX4_linearBucketOf 12 = .ok (.ireturn, 1) := by decide +kernel
theorem dX4_linearProbes_0 : decode cX4_linearProbes 0 = .ok (.iload_n 1, 1) := by decide +kernel
theorem dX4_linearProbes_1 : decode cX4_linearProbes 1 = .ok (.invokestatic 32, 3) := by decide +kernel
theorem dX4_linearProbes_4 : decode cX4_linearProbes 4 = .ok (.aload_n 0, 1) := by decide +kernel
theorem dX4_linearProbes_5 : decode cX4_linearProbes 5 = .ok (.getfield 28, 3) := by decide +kernel
theorem dX4_linearProbes_8 : decode cX4_linearProbes 8 = .ok (.getfield 179, 3) := by decide +kernel
theorem dX4_linearProbes_11 : decode cX4_linearProbes 11 = .ok (.aload_n 0, 1) := by decide +kernel
theorem dX4_linearProbes_12 : decode cX4_linearProbes 12 = .ok (.getfield 28, 3) := by decide +kernel
theorem dX4_linearProbes_15 : decode cX4_linearProbes 15 = .ok (.iload_n 1, 1) := by decide +kernel
theorem dX4_linearProbes_16 : decode cX4_linearProbes 16 = .ok (.invokevirtual 180, 3) := by decide +kernel
theorem dX4_linearProbes_19 : decode cX4_linearProbes 19 = .ok (.iload_n 1, 1) := by decide +kernel
theorem dX4_linearProbes_20 : decode cX4_linearProbes 20 = .ok (.invokevirtual 147, 3) := by decide +kernel
theorem dX4_linearProbes_23 : decode cX4_linearProbes 23 = .ok (.ireturn, 1) := by decide +kernel
set_option maxHeartbeats 4000000 in
set_option maxRecDepth 100000 in
theorem c_X4_checkSlot (l : Launch) (hl9 : l.stackTraces = false) (D : va_G) (cy : ClassId) (a : Nat → Nat) (key : Nat → Nat) (val : Nat → Nat) (ord : Nat → Nat) (tk : Nat) (cp : Nat) (efi : Nat → Nat) (ela : Nat → Nat) (eco : Nat → Nat) (ene : Nat → Nat) (ldp : Nat → Nat) (dp : Nat) (dbl : Int32) (hlv : Int32) (spl : Int32) (mrg : Int32) (lfi : Nat → Nat) (lla : Nat → Nat) (lco : Nat → Nat) (lne : Nat → Nat) (lev : Nat) (ptr : Nat) (llo : Nat) (lhi : Nat) (lsp : Int32) (sl : Int32) (hdp : dp ≤ 8)  : tq_XU l yX4_checkSlot cX4_checkSlot 2 7 103 D cy (wC cy a key val ord tk cp efi ela eco ene ldp dp dbl hlv spl mrg lfi lla lco lne lev ptr llo lhi lsp) [.ref (a 0), .int (sl)] (∃ k : Nat, k < 2 ^ dp ∧ sl = nI k) (fun E9 => E9 = "java/lang/IndexOutOfBoundsException" ∧ ¬ ∃ k : Nat, k < 2 ^ dp ∧ sl = nI k) := by
  refine tq_XU.mk (by decide) (Nat.le_of_ble_eq_true rfl) ?_
  intro p e s m args below meth c A C hX hP hK hD hA hE ls hl
  obtain ⟨hx, hb, hml, hown, hrt, hlk, hT⟩ := id C
  have hl : lv_has ls 2 [(0, .ref (a 0)), (1, .int (sl))] := hl
  refine lv_iload_n hx hb dX4_checkSlot_0 rfl (lv_at hl 1 rfl) ?_
  refine lv_aload_n hx hb dX4_checkSlot_1 rfl (lv_at hl 0 rfl) ?_
  refine tq_get (C0 := RX4) (T := TX4) (N := 3) (ci := 4) (k := 1) C gX4 inX4 rfl (by decide) rfl fl_X4_21 hK hP 0 rfl rfl dX4_checkSlot_2 ?_
  refine tq_callF (va_runV C.fix (As := []) (rest := [.int (sl)]) (c_X0_countSlots l D cy a key val ord tk cp efi ela eco ene ldp dp dbl hlv spl mrg lfi lla lco lne lev ptr llo lhi lsp hdp) (tq_cV (n := 0) C ml_X4_138 im_X0_countSlots se_X0_countSlots ini_X0 cd_X0_countSlots ⟨by decide, by decide, by decide +kernel⟩ ⟨Nat.le_of_ble_eq_true rfl, Nat.le_of_ble_eq_true rfl⟩) ⟨tq_Pf.blind, va_recv hK hP (ci := 0) (q0 := 2) rfl rfl, tq_preF C hK hP⟩ rfl rfl hl.1 rfl (lv_room (Nat.le_of_ble_eq_true rfl)) dX4_checkSlot_5 ⟨Nat.le_of_ble_eq_true rfl, Nat.le_of_ble_eq_true rfl⟩) (fun r5 hr5 => ?_)
  obtain rfl := hr5
  refine tq_callXU C hX (vx_runS C.fix (As := [.int (sl), .int (nI (2 ^ dp))]) (rest := []) ((c_X4_checkIndex l hl9 D cy sl (2 ^ dp) (by have := p8 hdp; omega)) s.heap.size) (tq_cS (n := 2) C ml_X4_175 sm_X4_checkIndex ini_X4 cd_X4_checkIndex ⟨by decide, by decide, by decide +kernel⟩ ⟨Nat.le_of_ble_eq_true rfl, Nat.le_of_ble_eq_true rfl⟩) ⟨tq_Px.blind, tq_preX C hK hP hD va_S.rf hA hE [] (by decide) rfl⟩ rfl rfl hl.1 rfl (lv_room (Nat.le_of_ble_eq_true rfl)) dX4_checkSlot_8 ⟨Nat.le_of_ble_eq_true rfl, Nat.le_of_ble_eq_true rfl⟩) (fun _ h => h) (fun hr8 => ?_)
  exact tq_xuret C (hr8) dX4_checkSlot_11
set_option maxHeartbeats 4000000 in
set_option maxRecDepth 100000 in
theorem c_X4_keyOfRow_x (l : Launch) (hl9 : l.stackTraces = false) (D : va_G) (cy : ClassId) (a : Nat → Nat) (key : Nat → Nat) (val : Nat → Nat) (ord : Nat → Nat) (tk : Nat) (cp : Nat) (efi : Nat → Nat) (ela : Nat → Nat) (eco : Nat → Nat) (ene : Nat → Nat) (ldp : Nat → Nat) (dp : Nat) (dbl : Int32) (hlv : Int32) (spl : Int32) (mrg : Int32) (lfi : Nat → Nat) (lla : Nat → Nat) (lco : Nat → Nat) (lne : Nat → Nat) (lev : Nat) (ptr : Nat) (llo : Nat) (lhi : Nat) (lsp : Int32) (row : Nat) (pl : Int32) (rows : Nat → List Nat) (hkey : ∀ e, 1 ≤ e → e ≤ 120 → key e < 65536) (hrow : row < 256) (hRR : RR efi ela eco ene rows) : tq_XF l yX4_keyOfRow cX4_keyOfRow 4 (some .int) 7 103 D cy (wC cy a key val ord tk cp efi ela eco ene ldp dp dbl hlv spl mrg lfi lla lco lne lev ptr llo lhi lsp) [.ref (a 0), .ref (a 7), .int (nI (row)), .int (pl)] (fun r => ∃ p, p < (rows row).length ∧ pl = nI p ∧ r = nI (key ((rows row).getD p 0))) (fun E9 => E9 = "java/lang/IndexOutOfBoundsException" ∧ ¬ ∃ p : Nat, p < (rows row).length ∧ pl = nI p) := by
  refine tq_XF.mk (by decide) (Nat.le_of_ble_eq_true rfl) ?_
  intro p e s m args below meth c A C hX hP hK hD hA hE ls hl
  obtain ⟨hx, hb, hml, hown, hrt, hlk, hT⟩ := id C
  have hl : lv_has ls 4 [(0, .ref (a 0)), (1, .ref (a 7)), (2, .int (nI (row))), (3, .int (pl))] := hl
  have hlen := (hRR.1 row hrow).1
  have hle := hRR.len hrow
  refine lv_iload_n hx hb dX4_keyOfRow_0 rfl (lv_at hl 3 rfl) ?_
  refine lv_aload_n hx hb dX4_keyOfRow_1 rfl (lv_at hl 1 rfl) ?_
  refine lv_iload_n hx hb dX4_keyOfRow_2 rfl (lv_at hl 2 rfl) ?_
  refine tq_callF (va_runV C.fix (As := [.int (nI (row))]) (rest := [.int (pl)]) (c_X2_count l D cy (a 7) (a 10) (a 11) (a 12) (a 13) (a 1) (a 4) (a 5) (a 6) efi ela eco ene key tk cp row hrow) (tq_cV (n := 1) C ml_X4_123 im_X2_count se_X2_count ini_X2 cd_X2_count ⟨by decide, by decide, by decide +kernel⟩ ⟨Nat.le_of_ble_eq_true rfl, Nat.le_of_ble_eq_true rfl⟩) ⟨tq_Pf.blind, va_recv hK hP (ci := 2) (q0 := 7) rfl rfl, tq_preF C hK (hP.sub [7, 10, 11, 12, 13, 1, 4] rfl)⟩ rfl rfl hl.1 rfl (lv_room (Nat.le_of_ble_eq_true rfl)) dX4_keyOfRow_3 ⟨Nat.le_of_ble_eq_true rfl, Nat.le_of_ble_eq_true rfl⟩) (fun r3 hr3 => ?_)
  obtain rfl := hr3
  refine tq_callXU C hX (vx_runS C.fix (As := [.int (pl), .int (nI (eco row))]) (rest := []) ((c_X4_checkIndex l hl9 D cy pl (eco row) (by omega)) s.heap.size) (tq_cS (n := 2) C ml_X4_175 sm_X4_checkIndex ini_X4 cd_X4_checkIndex ⟨by decide, by decide, by decide +kernel⟩ ⟨Nat.le_of_ble_eq_true rfl, Nat.le_of_ble_eq_true rfl⟩) ⟨tq_Px.blind, tq_preX C hK hP hD va_S.rf hA hE [] (by decide) rfl⟩ rfl rfl hl.1 rfl (lv_room (Nat.le_of_ble_eq_true rfl)) dX4_keyOfRow_6 ⟨Nat.le_of_ble_eq_true rfl, Nat.le_of_ble_eq_true rfl⟩) (fun E9 h => ⟨h.1, by rw [← hlen]; exact h.2⟩) (fun hr6 => ?_)
  obtain ⟨p9, hp9, rfl⟩ := hr6
  have hg := hRR.get hrow p9
  refine lv_aload_n hx hb dX4_keyOfRow_9 rfl (lv_at hl 0 rfl) ?_
  refine tq_get (C0 := RX4) (T := TX4) (N := 3) (ci := 4) (k := 0) C gX4 inX4 rfl (by decide) rfl fl_X4_10 hK hP 0 rfl rfl dX4_keyOfRow_10 ?_
  refine lv_aload_n hx hb dX4_keyOfRow_13 rfl (lv_at hl 1 rfl) ?_
  refine lv_iload_n hx hb dX4_keyOfRow_14 rfl (lv_at hl 2 rfl) ?_
  refine lv_iload_n hx hb dX4_keyOfRow_15 rfl (lv_at hl 3 rfl) ?_
  refine tq_callF (va_runV C.fix (As := [.int (nI (row)), .int (nI (p9))]) (rest := [.ref (a 1)]) (c_X2_entryAt l D cy (a 7) (a 10) (a 11) (a 12) (a 13) (a 1) (a 4) (a 5) (a 6) efi ela eco ene key tk cp row p9 rows hRR hrow (by omega)) (tq_cV (n := 2) C ml_X4_195 im_X2_entryAt se_X2_entryAt ini_X2 cd_X2_entryAt ⟨by decide, by decide, by decide +kernel⟩ ⟨Nat.le_of_ble_eq_true rfl, Nat.le_of_ble_eq_true rfl⟩) ⟨tq_Pf.blind, va_recv hK hP (ci := 2) (q0 := 7) rfl rfl, tq_preF C hK (hP.sub [7, 10, 11, 12, 13, 1, 4] rfl)⟩ rfl rfl hl.1 rfl (lv_room (Nat.le_of_ble_eq_true rfl)) dX4_keyOfRow_16 ⟨Nat.le_of_ble_eq_true rfl, Nat.le_of_ble_eq_true rfl⟩) (fun r16 hr16 => ?_)
  obtain rfl := hr16
  refine tq_callF (va_runV C.fix (As := [.int (nI ((rows row).getD p9 0))]) (rest := []) (c_X3_keyOf l D cy (a 1) (a 4) (a 5) (a 6) key tk cp ((rows row).getD p9 0) ((hg.2 (by omega)).1) hg.1) (tq_cV (n := 1) C ml_X4_198 im_X3_keyOf se_X3_keyOf ini_X3 cd_X3_keyOf ⟨by decide, by decide, by decide +kernel⟩ ⟨Nat.le_of_ble_eq_true rfl, Nat.le_of_ble_eq_true rfl⟩) ⟨tq_Pf.blind, va_recv hK hP (ci := 3) (q0 := 1) rfl rfl, tq_preF C hK (hP.sub [1, 4] rfl)⟩ rfl rfl hl.1 rfl (lv_room (Nat.le_of_ble_eq_true rfl)) dX4_keyOfRow_19 ⟨Nat.le_of_ble_eq_true rfl, Nat.le_of_ble_eq_true rfl⟩) (fun r19 hr19 => ?_)
  obtain rfl := hr19
  exact tq_xfret (v := (nI (key ((rows row).getD p9 0)))) C rfl (⟨p9, by omega, rfl, rfl⟩) dX4_keyOfRow_22
set_option maxHeartbeats 4000000 in
set_option maxRecDepth 100000 in
theorem c_X4_keyOfRow_y (l : Launch) (hl9 : l.stackTraces = false) (D : va_G) (cy : ClassId) (a : Nat → Nat) (key : Nat → Nat) (val : Nat → Nat) (ord : Nat → Nat) (tk : Nat) (cp : Nat) (efi : Nat → Nat) (ela : Nat → Nat) (eco : Nat → Nat) (ene : Nat → Nat) (ldp : Nat → Nat) (dp : Nat) (dbl : Int32) (hlv : Int32) (spl : Int32) (mrg : Int32) (lfi : Nat → Nat) (lla : Nat → Nat) (lco : Nat → Nat) (lne : Nat → Nat) (lev : Nat) (ptr : Nat) (llo : Nat) (lhi : Nat) (lsp : Int32) (row : Nat) (pl : Int32) (rows : Nat → List Nat) (hkey : ∀ e, 1 ≤ e → e ≤ 120 → key e < 65536) (hrow : row < 256) (hRR : RR lfi lla lco lne rows) : tq_XF l yX4_keyOfRow cX4_keyOfRow 4 (some .int) 7 103 D cy (wC cy a key val ord tk cp efi ela eco ene ldp dp dbl hlv spl mrg lfi lla lco lne lev ptr llo lhi lsp) [.ref (a 0), .ref (a 9), .int (nI (row)), .int (pl)] (fun r => ∃ p, p < (rows row).length ∧ pl = nI p ∧ r = nI (key ((rows row).getD p 0))) (fun E9 => E9 = "java/lang/IndexOutOfBoundsException" ∧ ¬ ∃ p : Nat, p < (rows row).length ∧ pl = nI p) := by
  refine tq_XF.mk (by decide) (Nat.le_of_ble_eq_true rfl) ?_
  intro p e s m args below meth c A C hX hP hK hD hA hE ls hl
  obtain ⟨hx, hb, hml, hown, hrt, hlk, hT⟩ := id C
  have hl : lv_has ls 4 [(0, .ref (a 0)), (1, .ref (a 9)), (2, .int (nI (row))), (3, .int (pl))] := hl
  have hlen := (hRR.1 row hrow).1
  have hle := hRR.len hrow
  refine lv_iload_n hx hb dX4_keyOfRow_0 rfl (lv_at hl 3 rfl) ?_
  refine lv_aload_n hx hb dX4_keyOfRow_1 rfl (lv_at hl 1 rfl) ?_
  refine lv_iload_n hx hb dX4_keyOfRow_2 rfl (lv_at hl 2 rfl) ?_
  refine tq_callF (va_runV C.fix (As := [.int (nI (row))]) (rest := [.int (pl)]) (c_X2_count l D cy (a 9) (a 14) (a 15) (a 16) (a 17) (a 1) (a 4) (a 5) (a 6) lfi lla lco lne key tk cp row hrow) (tq_cV (n := 1) C ml_X4_123 im_X2_count se_X2_count ini_X2 cd_X2_count ⟨by decide, by decide, by decide +kernel⟩ ⟨Nat.le_of_ble_eq_true rfl, Nat.le_of_ble_eq_true rfl⟩) ⟨tq_Pf.blind, va_recv hK hP (ci := 2) (q0 := 9) rfl rfl, tq_preF C hK (hP.sub [9, 14, 15, 16, 17, 1, 4] rfl)⟩ rfl rfl hl.1 rfl (lv_room (Nat.le_of_ble_eq_true rfl)) dX4_keyOfRow_3 ⟨Nat.le_of_ble_eq_true rfl, Nat.le_of_ble_eq_true rfl⟩) (fun r3 hr3 => ?_)
  obtain rfl := hr3
  refine tq_callXU C hX (vx_runS C.fix (As := [.int (pl), .int (nI (lco row))]) (rest := []) ((c_X4_checkIndex l hl9 D cy pl (lco row) (by omega)) s.heap.size) (tq_cS (n := 2) C ml_X4_175 sm_X4_checkIndex ini_X4 cd_X4_checkIndex ⟨by decide, by decide, by decide +kernel⟩ ⟨Nat.le_of_ble_eq_true rfl, Nat.le_of_ble_eq_true rfl⟩) ⟨tq_Px.blind, tq_preX C hK hP hD va_S.rf hA hE [] (by decide) rfl⟩ rfl rfl hl.1 rfl (lv_room (Nat.le_of_ble_eq_true rfl)) dX4_keyOfRow_6 ⟨Nat.le_of_ble_eq_true rfl, Nat.le_of_ble_eq_true rfl⟩) (fun E9 h => ⟨h.1, by rw [← hlen]; exact h.2⟩) (fun hr6 => ?_)
  obtain ⟨p9, hp9, rfl⟩ := hr6
  have hg := hRR.get hrow p9
  refine lv_aload_n hx hb dX4_keyOfRow_9 rfl (lv_at hl 0 rfl) ?_
  refine tq_get (C0 := RX4) (T := TX4) (N := 3) (ci := 4) (k := 0) C gX4 inX4 rfl (by decide) rfl fl_X4_10 hK hP 0 rfl rfl dX4_keyOfRow_10 ?_
  refine lv_aload_n hx hb dX4_keyOfRow_13 rfl (lv_at hl 1 rfl) ?_
  refine lv_iload_n hx hb dX4_keyOfRow_14 rfl (lv_at hl 2 rfl) ?_
  refine lv_iload_n hx hb dX4_keyOfRow_15 rfl (lv_at hl 3 rfl) ?_
  refine tq_callF (va_runV C.fix (As := [.int (nI (row)), .int (nI (p9))]) (rest := [.ref (a 1)]) (c_X2_entryAt l D cy (a 9) (a 14) (a 15) (a 16) (a 17) (a 1) (a 4) (a 5) (a 6) lfi lla lco lne key tk cp row p9 rows hRR hrow (by omega)) (tq_cV (n := 2) C ml_X4_195 im_X2_entryAt se_X2_entryAt ini_X2 cd_X2_entryAt ⟨by decide, by decide, by decide +kernel⟩ ⟨Nat.le_of_ble_eq_true rfl, Nat.le_of_ble_eq_true rfl⟩) ⟨tq_Pf.blind, va_recv hK hP (ci := 2) (q0 := 9) rfl rfl, tq_preF C hK (hP.sub [9, 14, 15, 16, 17, 1, 4] rfl)⟩ rfl rfl hl.1 rfl (lv_room (Nat.le_of_ble_eq_true rfl)) dX4_keyOfRow_16 ⟨Nat.le_of_ble_eq_true rfl, Nat.le_of_ble_eq_true rfl⟩) (fun r16 hr16 => ?_)
  obtain rfl := hr16
  refine tq_callF (va_runV C.fix (As := [.int (nI ((rows row).getD p9 0))]) (rest := []) (c_X3_keyOf l D cy (a 1) (a 4) (a 5) (a 6) key tk cp ((rows row).getD p9 0) ((hg.2 (by omega)).1) hg.1) (tq_cV (n := 1) C ml_X4_198 im_X3_keyOf se_X3_keyOf ini_X3 cd_X3_keyOf ⟨by decide, by decide, by decide +kernel⟩ ⟨Nat.le_of_ble_eq_true rfl, Nat.le_of_ble_eq_true rfl⟩) ⟨tq_Pf.blind, va_recv hK hP (ci := 3) (q0 := 1) rfl rfl, tq_preF C hK (hP.sub [1, 4] rfl)⟩ rfl rfl hl.1 rfl (lv_room (Nat.le_of_ble_eq_true rfl)) dX4_keyOfRow_19 ⟨Nat.le_of_ble_eq_true rfl, Nat.le_of_ble_eq_true rfl⟩) (fun r19 hr19 => ?_)
  obtain rfl := hr19
  exact tq_xfret (v := (nI (key ((rows row).getD p9 0)))) C rfl (⟨p9, by omega, rfl, rfl⟩) dX4_keyOfRow_22
set_option maxHeartbeats 4000000 in
set_option maxRecDepth 100000 in
theorem c_X4_size (l : Launch) (D : va_G) (cy : ClassId) (a : Nat → Nat) (key : Nat → Nat) (val : Nat → Nat) (ord : Nat → Nat) (tk : Nat) (cp : Nat) (efi : Nat → Nat) (ela : Nat → Nat) (eco : Nat → Nat) (ene : Nat → Nat) (ldp : Nat → Nat) (dp : Nat) (dbl : Int32) (hlv : Int32) (spl : Int32) (mrg : Int32) (lfi : Nat → Nat) (lla : Nat → Nat) (lco : Nat → Nat) (lne : Nat → Nat) (lev : Nat) (ptr : Nat) (llo : Nat) (lhi : Nat) (lsp : Int32)   : tq_F l yX4_size cX4_size 1 (some .int) 0 0 D cy (wC cy a key val ord tk cp efi ela eco ene ldp dp dbl hlv spl mrg lfi lla lco lne lev ptr llo lhi lsp) [.ref (a 0)] (fun r => r = (nI (tk))) := by
  refine tq_F.mk (by decide) (Nat.le_of_ble_eq_true rfl) ?_
  intro p e s m args below meth c C hP hK ls hl
  obtain ⟨hx, hb, hml, hown, hrt, hlk, hT⟩ := id C
  have hl : lv_has ls 1 [(0, .ref (a 0))] := hl
  refine lv_aload_n hx hb dX4_size_0 rfl (lv_at hl 0 rfl) ?_
  refine tq_get (C0 := RX4) (T := TX4) (N := 3) (ci := 4) (k := 0) C gX4 inX4 rfl (by decide) rfl fl_X4_10 hK hP 0 rfl rfl dX4_size_1 ?_
  refine tq_getN (C0 := RX3) (T := TX3) (N := 5) (ci := 3) (k := 3) C gX3 inX3 rfl (by decide) rfl fn_X4_49 hK hP 1 rfl rfl dX4_size_4 ?_
  exact tq_fret (v := (nI (tk))) C rfl (rfl) dX4_size_7
set_option maxHeartbeats 4000000 in
set_option maxRecDepth 100000 in
theorem c_X4_globalDepth (l : Launch) (D : va_G) (cy : ClassId) (a : Nat → Nat) (key : Nat → Nat) (val : Nat → Nat) (ord : Nat → Nat) (tk : Nat) (cp : Nat) (efi : Nat → Nat) (ela : Nat → Nat) (eco : Nat → Nat) (ene : Nat → Nat) (ldp : Nat → Nat) (dp : Nat) (dbl : Int32) (hlv : Int32) (spl : Int32) (mrg : Int32) (lfi : Nat → Nat) (lla : Nat → Nat) (lco : Nat → Nat) (lne : Nat → Nat) (lev : Nat) (ptr : Nat) (llo : Nat) (lhi : Nat) (lsp : Int32)   : tq_F l yX4_globalDepth cX4_globalDepth 1 (some .int) 0 0 D cy (wC cy a key val ord tk cp efi ela eco ene ldp dp dbl hlv spl mrg lfi lla lco lne lev ptr llo lhi lsp) [.ref (a 0)] (fun r => r = (nI (dp))) := by
  refine tq_F.mk (by decide) (Nat.le_of_ble_eq_true rfl) ?_
  intro p e s m args below meth c C hP hK ls hl
  obtain ⟨hx, hb, hml, hown, hrt, hlk, hT⟩ := id C
  have hl : lv_has ls 1 [(0, .ref (a 0))] := hl
  refine lv_aload_n hx hb dX4_globalDepth_0 rfl (lv_at hl 0 rfl) ?_
  refine tq_get (C0 := RX4) (T := TX4) (N := 3) (ci := 4) (k := 1) C gX4 inX4 rfl (by decide) rfl fl_X4_21 hK hP 0 rfl rfl dX4_globalDepth_1 ?_
  refine tq_getN (C0 := RX0) (T := TX0) (N := 8) (ci := 0) (k := 3) C gX0 inX0 rfl (by decide) rfl fn_X4_104 hK hP 2 rfl rfl dX4_globalDepth_4 ?_
  exact tq_fret (v := (nI (dp))) C rfl (rfl) dX4_globalDepth_7
set_option maxHeartbeats 4000000 in
set_option maxRecDepth 100000 in
theorem c_X4_doublings (l : Launch) (D : va_G) (cy : ClassId) (a : Nat → Nat) (key : Nat → Nat) (val : Nat → Nat) (ord : Nat → Nat) (tk : Nat) (cp : Nat) (efi : Nat → Nat) (ela : Nat → Nat) (eco : Nat → Nat) (ene : Nat → Nat) (ldp : Nat → Nat) (dp : Nat) (dbl : Int32) (hlv : Int32) (spl : Int32) (mrg : Int32) (lfi : Nat → Nat) (lla : Nat → Nat) (lco : Nat → Nat) (lne : Nat → Nat) (lev : Nat) (ptr : Nat) (llo : Nat) (lhi : Nat) (lsp : Int32)   : tq_F l yX4_doublings cX4_doublings 1 (some .int) 0 0 D cy (wC cy a key val ord tk cp efi ela eco ene ldp dp dbl hlv spl mrg lfi lla lco lne lev ptr llo lhi lsp) [.ref (a 0)] (fun r => r = (dbl)) := by
  refine tq_F.mk (by decide) (Nat.le_of_ble_eq_true rfl) ?_
  intro p e s m args below meth c C hP hK ls hl
  obtain ⟨hx, hb, hml, hown, hrt, hlk, hT⟩ := id C
  have hl : lv_has ls 1 [(0, .ref (a 0))] := hl
  refine lv_aload_n hx hb dX4_doublings_0 rfl (lv_at hl 0 rfl) ?_
  refine tq_get (C0 := RX4) (T := TX4) (N := 3) (ci := 4) (k := 1) C gX4 inX4 rfl (by decide) rfl fl_X4_21 hK hP 0 rfl rfl dX4_doublings_1 ?_
  refine tq_getN (C0 := RX0) (T := TX0) (N := 8) (ci := 0) (k := 4) C gX0 inX0 rfl (by decide) rfl fn_X4_150 hK hP 2 rfl rfl dX4_doublings_4 ?_
  exact tq_fret (v := (dbl)) C rfl (rfl) dX4_doublings_7
set_option maxHeartbeats 4000000 in
set_option maxRecDepth 100000 in
theorem c_X4_halvings (l : Launch) (D : va_G) (cy : ClassId) (a : Nat → Nat) (key : Nat → Nat) (val : Nat → Nat) (ord : Nat → Nat) (tk : Nat) (cp : Nat) (efi : Nat → Nat) (ela : Nat → Nat) (eco : Nat → Nat) (ene : Nat → Nat) (ldp : Nat → Nat) (dp : Nat) (dbl : Int32) (hlv : Int32) (spl : Int32) (mrg : Int32) (lfi : Nat → Nat) (lla : Nat → Nat) (lco : Nat → Nat) (lne : Nat → Nat) (lev : Nat) (ptr : Nat) (llo : Nat) (lhi : Nat) (lsp : Int32)   : tq_F l yX4_halvings cX4_halvings 1 (some .int) 0 0 D cy (wC cy a key val ord tk cp efi ela eco ene ldp dp dbl hlv spl mrg lfi lla lco lne lev ptr llo lhi lsp) [.ref (a 0)] (fun r => r = (hlv)) := by
  refine tq_F.mk (by decide) (Nat.le_of_ble_eq_true rfl) ?_
  intro p e s m args below meth c C hP hK ls hl
  obtain ⟨hx, hb, hml, hown, hrt, hlk, hT⟩ := id C
  have hl : lv_has ls 1 [(0, .ref (a 0))] := hl
  refine lv_aload_n hx hb dX4_halvings_0 rfl (lv_at hl 0 rfl) ?_
  refine tq_get (C0 := RX4) (T := TX4) (N := 3) (ci := 4) (k := 1) C gX4 inX4 rfl (by decide) rfl fl_X4_21 hK hP 0 rfl rfl dX4_halvings_1 ?_
  refine tq_getN (C0 := RX0) (T := TX0) (N := 8) (ci := 0) (k := 5) C gX0 inX0 rfl (by decide) rfl fn_X4_153 hK hP 2 rfl rfl dX4_halvings_4 ?_
  exact tq_fret (v := (hlv)) C rfl (rfl) dX4_halvings_7
set_option maxHeartbeats 4000000 in
set_option maxRecDepth 100000 in
theorem c_X4_splits (l : Launch) (D : va_G) (cy : ClassId) (a : Nat → Nat) (key : Nat → Nat) (val : Nat → Nat) (ord : Nat → Nat) (tk : Nat) (cp : Nat) (efi : Nat → Nat) (ela : Nat → Nat) (eco : Nat → Nat) (ene : Nat → Nat) (ldp : Nat → Nat) (dp : Nat) (dbl : Int32) (hlv : Int32) (spl : Int32) (mrg : Int32) (lfi : Nat → Nat) (lla : Nat → Nat) (lco : Nat → Nat) (lne : Nat → Nat) (lev : Nat) (ptr : Nat) (llo : Nat) (lhi : Nat) (lsp : Int32)   : tq_F l yX4_splits cX4_splits 1 (some .int) 0 0 D cy (wC cy a key val ord tk cp efi ela eco ene ldp dp dbl hlv spl mrg lfi lla lco lne lev ptr llo lhi lsp) [.ref (a 0)] (fun r => r = (spl)) := by
  refine tq_F.mk (by decide) (Nat.le_of_ble_eq_true rfl) ?_
  intro p e s m args below meth c C hP hK ls hl
  obtain ⟨hx, hb, hml, hown, hrt, hlk, hT⟩ := id C
  have hl : lv_has ls 1 [(0, .ref (a 0))] := hl
  refine lv_aload_n hx hb dX4_splits_0 rfl (lv_at hl 0 rfl) ?_
  refine tq_get (C0 := RX4) (T := TX4) (N := 3) (ci := 4) (k := 1) C gX4 inX4 rfl (by decide) rfl fl_X4_21 hK hP 0 rfl rfl dX4_splits_1 ?_
  refine tq_getN (C0 := RX0) (T := TX0) (N := 8) (ci := 0) (k := 6) C gX0 inX0 rfl (by decide) rfl fn_X4_156 hK hP 2 rfl rfl dX4_splits_4 ?_
  exact tq_fret (v := (spl)) C rfl (rfl) dX4_splits_7
set_option maxHeartbeats 4000000 in
set_option maxRecDepth 100000 in
theorem c_X4_merges (l : Launch) (D : va_G) (cy : ClassId) (a : Nat → Nat) (key : Nat → Nat) (val : Nat → Nat) (ord : Nat → Nat) (tk : Nat) (cp : Nat) (efi : Nat → Nat) (ela : Nat → Nat) (eco : Nat → Nat) (ene : Nat → Nat) (ldp : Nat → Nat) (dp : Nat) (dbl : Int32) (hlv : Int32) (spl : Int32) (mrg : Int32) (lfi : Nat → Nat) (lla : Nat → Nat) (lco : Nat → Nat) (lne : Nat → Nat) (lev : Nat) (ptr : Nat) (llo : Nat) (lhi : Nat) (lsp : Int32)   : tq_F l yX4_merges cX4_merges 1 (some .int) 0 0 D cy (wC cy a key val ord tk cp efi ela eco ene ldp dp dbl hlv spl mrg lfi lla lco lne lev ptr llo lhi lsp) [.ref (a 0)] (fun r => r = (mrg)) := by
  refine tq_F.mk (by decide) (Nat.le_of_ble_eq_true rfl) ?_
  intro p e s m args below meth c C hP hK ls hl
  obtain ⟨hx, hb, hml, hown, hrt, hlk, hT⟩ := id C
  have hl : lv_has ls 1 [(0, .ref (a 0))] := hl
  refine lv_aload_n hx hb dX4_merges_0 rfl (lv_at hl 0 rfl) ?_
  refine tq_get (C0 := RX4) (T := TX4) (N := 3) (ci := 4) (k := 1) C gX4 inX4 rfl (by decide) rfl fl_X4_21 hK hP 0 rfl rfl dX4_merges_1 ?_
  refine tq_getN (C0 := RX0) (T := TX0) (N := 8) (ci := 0) (k := 7) C gX0 inX0 rfl (by decide) rfl fn_X4_159 hK hP 2 rfl rfl dX4_merges_4 ?_
  exact tq_fret (v := (mrg)) C rfl (rfl) dX4_merges_7
set_option maxHeartbeats 4000000 in
set_option maxRecDepth 100000 in
theorem c_X4_level (l : Launch) (D : va_G) (cy : ClassId) (a : Nat → Nat) (key : Nat → Nat) (val : Nat → Nat) (ord : Nat → Nat) (tk : Nat) (cp : Nat) (efi : Nat → Nat) (ela : Nat → Nat) (eco : Nat → Nat) (ene : Nat → Nat) (ldp : Nat → Nat) (dp : Nat) (dbl : Int32) (hlv : Int32) (spl : Int32) (mrg : Int32) (lfi : Nat → Nat) (lla : Nat → Nat) (lco : Nat → Nat) (lne : Nat → Nat) (lev : Nat) (ptr : Nat) (llo : Nat) (lhi : Nat) (lsp : Int32)   : tq_F l yX4_level cX4_level 1 (some .int) 0 0 D cy (wC cy a key val ord tk cp efi ela eco ene ldp dp dbl hlv spl mrg lfi lla lco lne lev ptr llo lhi lsp) [.ref (a 0)] (fun r => r = (nI (lev))) := by
  refine tq_F.mk (by decide) (Nat.le_of_ble_eq_true rfl) ?_
  intro p e s m args below meth c C hP hK ls hl
  obtain ⟨hx, hb, hml, hown, hrt, hlk, hT⟩ := id C
  have hl : lv_has ls 1 [(0, .ref (a 0))] := hl
  refine lv_aload_n hx hb dX4_level_0 rfl (lv_at hl 0 rfl) ?_
  refine tq_get (C0 := RX4) (T := TX4) (N := 3) (ci := 4) (k := 2) C gX4 inX4 rfl (by decide) rfl fl_X4_28 hK hP 0 rfl rfl dX4_level_1 ?_
  refine tq_getN (C0 := RX1) (T := TX1) (N := 7) (ci := 1) (k := 2) C gX1 inX1 rfl (by decide) rfl fn_X4_169 hK hP 3 rfl rfl dX4_level_4 ?_
  exact tq_fret (v := (nI (lev))) C rfl (rfl) dX4_level_7
set_option maxHeartbeats 4000000 in
set_option maxRecDepth 100000 in
theorem c_X4_pointer (l : Launch) (D : va_G) (cy : ClassId) (a : Nat → Nat) (key : Nat → Nat) (val : Nat → Nat) (ord : Nat → Nat) (tk : Nat) (cp : Nat) (efi : Nat → Nat) (ela : Nat → Nat) (eco : Nat → Nat) (ene : Nat → Nat) (ldp : Nat → Nat) (dp : Nat) (dbl : Int32) (hlv : Int32) (spl : Int32) (mrg : Int32) (lfi : Nat → Nat) (lla : Nat → Nat) (lco : Nat → Nat) (lne : Nat → Nat) (lev : Nat) (ptr : Nat) (llo : Nat) (lhi : Nat) (lsp : Int32)   : tq_F l yX4_pointer cX4_pointer 1 (some .int) 0 0 D cy (wC cy a key val ord tk cp efi ela eco ene ldp dp dbl hlv spl mrg lfi lla lco lne lev ptr llo lhi lsp) [.ref (a 0)] (fun r => r = (nI (ptr))) := by
  refine tq_F.mk (by decide) (Nat.le_of_ble_eq_true rfl) ?_
  intro p e s m args below meth c C hP hK ls hl
  obtain ⟨hx, hb, hml, hown, hrt, hlk, hT⟩ := id C
  have hl : lv_has ls 1 [(0, .ref (a 0))] := hl
  refine lv_aload_n hx hb dX4_pointer_0 rfl (lv_at hl 0 rfl) ?_
  refine tq_get (C0 := RX4) (T := TX4) (N := 3) (ci := 4) (k := 2) C gX4 inX4 rfl (by decide) rfl fl_X4_28 hK hP 0 rfl rfl dX4_pointer_1 ?_
  refine tq_getN (C0 := RX1) (T := TX1) (N := 7) (ci := 1) (k := 3) C gX1 inX1 rfl (by decide) rfl fn_X4_172 hK hP 3 rfl rfl dX4_pointer_4 ?_
  exact tq_fret (v := (nI (ptr))) C rfl (rfl) dX4_pointer_7
set_option maxHeartbeats 4000000 in
set_option maxRecDepth 100000 in
theorem c_X4_linearSplits (l : Launch) (D : va_G) (cy : ClassId) (a : Nat → Nat) (key : Nat → Nat) (val : Nat → Nat) (ord : Nat → Nat) (tk : Nat) (cp : Nat) (efi : Nat → Nat) (ela : Nat → Nat) (eco : Nat → Nat) (ene : Nat → Nat) (ldp : Nat → Nat) (dp : Nat) (dbl : Int32) (hlv : Int32) (spl : Int32) (mrg : Int32) (lfi : Nat → Nat) (lla : Nat → Nat) (lco : Nat → Nat) (lne : Nat → Nat) (lev : Nat) (ptr : Nat) (llo : Nat) (lhi : Nat) (lsp : Int32)   : tq_F l yX4_linearSplits cX4_linearSplits 1 (some .int) 0 0 D cy (wC cy a key val ord tk cp efi ela eco ene ldp dp dbl hlv spl mrg lfi lla lco lne lev ptr llo lhi lsp) [.ref (a 0)] (fun r => r = (lsp)) := by
  refine tq_F.mk (by decide) (Nat.le_of_ble_eq_true rfl) ?_
  intro p e s m args below meth c C hP hK ls hl
  obtain ⟨hx, hb, hml, hown, hrt, hlk, hT⟩ := id C
  have hl : lv_has ls 1 [(0, .ref (a 0))] := hl
  refine lv_aload_n hx hb dX4_linearSplits_0 rfl (lv_at hl 0 rfl) ?_
  refine tq_get (C0 := RX4) (T := TX4) (N := 3) (ci := 4) (k := 2) C gX4 inX4 rfl (by decide) rfl fl_X4_28 hK hP 0 rfl rfl dX4_linearSplits_1 ?_
  refine tq_getN (C0 := RX1) (T := TX1) (N := 7) (ci := 1) (k := 6) C gX1 inX1 rfl (by decide) rfl fn_X4_181 hK hP 3 rfl rfl dX4_linearSplits_4 ?_
  exact tq_fret (v := (lsp)) C rfl (rfl) dX4_linearSplits_7
set_option maxHeartbeats 4000000 in
set_option maxRecDepth 100000 in
theorem c_X4_buckets (l : Launch) (D : va_G) (cy : ClassId) (a : Nat → Nat) (key : Nat → Nat) (val : Nat → Nat) (ord : Nat → Nat) (tk : Nat) (cp : Nat) (efi : Nat → Nat) (ela : Nat → Nat) (eco : Nat → Nat) (ene : Nat → Nat) (ldp : Nat → Nat) (dp : Nat) (dbl : Int32) (hlv : Int32) (spl : Int32) (mrg : Int32) (lfi : Nat → Nat) (lla : Nat → Nat) (lco : Nat → Nat) (lne : Nat → Nat) (lev : Nat) (ptr : Nat) (llo : Nat) (lhi : Nat) (lsp : Int32)  (dep : Nat → Nat) (E L : List Nat) (hCR : CR key val ord tk cp efi ela eco ene ldp dp lfi lla lco lne lev ptr llo lhi dep E L)  : tq_F l yX4_buckets cX4_buckets 1 (some .int) 4 85 D cy (wC cy a key val ord tk cp efi ela eco ene ldp dp dbl hlv spl mrg lfi lla lco lne lev ptr llo lhi lsp) [.ref (a 0)] (fun r => r = nI (so (fun q => if q < 2 ^ dep q then 1 else 0) 256)) := by
  refine tq_F.mk (by decide) (Nat.le_of_ble_eq_true rfl) ?_
  intro p e s m args below meth c C hP hK ls hl
  obtain ⟨hx, hb, hml, hown, hrt, hlk, hT⟩ := id C
  have hl : lv_has ls 1 [(0, .ref (a 0))] := hl
  obtain ⟨hSO, ⟨hcp1, hcp2⟩, ⟨hlo, hh1, hh2⟩, ⟨rX, hXR⟩, ⟨rY, hYR⟩, hEL⟩ := id hCR
  have hky := hSO.keyb
  have hdp := hXR.2.1.1
  have hp8 := p8 hdp
  have hld := hXR.2.2.2.1
  have hY := hYR.2.1
  have hYm := hY.2
  have hYp := hY.1
  have htk9 := hSO.1
  refine lv_aload_n hx hb dX4_buckets_0 rfl (lv_at hl 0 rfl) ?_
  refine tq_get (C0 := RX4) (T := TX4) (N := 3) (ci := 4) (k := 1) C gX4 inX4 rfl (by decide) rfl fl_X4_21 hK hP 0 rfl rfl dX4_buckets_1 ?_
  refine tq_callF (va_runV C.fix (As := []) (rest := []) (c_X0_countBuckets l D cy a key val ord tk cp efi ela eco ene ldp dp dbl hlv spl mrg lfi lla lco lne lev ptr llo lhi lsp hdp hld) (tq_cV (n := 0) C ml_X4_107 im_X0_countBuckets se_X0_countBuckets ini_X0 cd_X0_countBuckets ⟨by decide, by decide, by decide +kernel⟩ ⟨Nat.le_of_ble_eq_true rfl, Nat.le_of_ble_eq_true rfl⟩) ⟨tq_Pf.blind, va_recv hK hP (ci := 0) (q0 := 2) rfl rfl, tq_preF C hK hP⟩ rfl rfl hl.1 rfl (lv_room (Nat.le_of_ble_eq_true rfl)) dX4_buckets_4 ⟨Nat.le_of_ble_eq_true rfl, Nat.le_of_ble_eq_true rfl⟩) (fun r4 hr4 => ?_)
  obtain rfl := hr4
  exact tq_fret (v := (nI (so (fun q => if q % 2 ^ ldp q = q then 1 else 0) (2 ^ dp)))) C rfl (by rw [hXR.bkt]) dX4_buckets_7
set_option maxHeartbeats 4000000 in
set_option maxRecDepth 100000 in
theorem c_X4_overflowPages (l : Launch) (D : va_G) (cy : ClassId) (a : Nat → Nat) (key : Nat → Nat) (val : Nat → Nat) (ord : Nat → Nat) (tk : Nat) (cp : Nat) (efi : Nat → Nat) (ela : Nat → Nat) (eco : Nat → Nat) (ene : Nat → Nat) (ldp : Nat → Nat) (dp : Nat) (dbl : Int32) (hlv : Int32) (spl : Int32) (mrg : Int32) (lfi : Nat → Nat) (lla : Nat → Nat) (lco : Nat → Nat) (lne : Nat → Nat) (lev : Nat) (ptr : Nat) (llo : Nat) (lhi : Nat) (lsp : Int32)  (dep : Nat → Nat) (E L : List Nat) (hCR : CR key val ord tk cp efi ela eco ene ldp dp lfi lla lco lne lev ptr llo lhi dep E L)  : tq_F l yX4_overflowPages cX4_overflowPages 1 (some .int) 3 64 D cy (wC cy a key val ord tk cp efi ela eco ene ldp dp dbl hlv spl mrg lfi lla lco lne lev ptr llo lhi lsp) [.ref (a 0)] (fun r => r = nI (so (fun q => if q < 2 ^ dep q then ((clB E q (dep q)).length - 1) / cp else 0) 256)) := by
  refine tq_F.mk (by decide) (Nat.le_of_ble_eq_true rfl) ?_
  intro p e s m args below meth c C hP hK ls hl
  obtain ⟨hx, hb, hml, hown, hrt, hlk, hT⟩ := id C
  have hl : lv_has ls 1 [(0, .ref (a 0))] := hl
  obtain ⟨hSO, ⟨hcp1, hcp2⟩, ⟨hlo, hh1, hh2⟩, ⟨rX, hXR⟩, ⟨rY, hYR⟩, hEL⟩ := id hCR
  have hky := hSO.keyb
  have hdp := hXR.2.1.1
  have hp8 := p8 hdp
  have hld := hXR.2.2.2.1
  have hY := hYR.2.1
  have hYm := hY.2
  have hYp := hY.1
  have htk9 := hSO.1
  refine lv_aload_n hx hb dX4_overflowPages_0 rfl (lv_at hl 0 rfl) ?_
  refine tq_get (C0 := RX4) (T := TX4) (N := 3) (ci := 4) (k := 1) C gX4 inX4 rfl (by decide) rfl fl_X4_21 hK hP 0 rfl rfl dX4_overflowPages_1 ?_
  refine tq_getN (C0 := RX0) (T := TX0) (N := 8) (ci := 0) (k := 1) C gX0 inX0 rfl (by decide) rfl fn_X4_116 hK hP 2 rfl rfl dX4_overflowPages_4 ?_
  refine lv_aload_n hx hb dX4_overflowPages_7 rfl (lv_at hl 0 rfl) ?_
  refine tq_get (C0 := RX4) (T := TX4) (N := 3) (ci := 4) (k := 1) C gX4 inX4 rfl (by decide) rfl fl_X4_21 hK hP 0 rfl rfl dX4_overflowPages_8 ?_
  refine tq_callF (va_runV C.fix (As := []) (rest := [.ref (a 7)]) (c_X0_countSlots l D cy a key val ord tk cp efi ela eco ene ldp dp dbl hlv spl mrg lfi lla lco lne lev ptr llo lhi lsp hdp) (tq_cV (n := 0) C ml_X4_138 im_X0_countSlots se_X0_countSlots ini_X0 cd_X0_countSlots ⟨by decide, by decide, by decide +kernel⟩ ⟨Nat.le_of_ble_eq_true rfl, Nat.le_of_ble_eq_true rfl⟩) ⟨tq_Pf.blind, va_recv hK hP (ci := 0) (q0 := 2) rfl rfl, tq_preF C hK hP⟩ rfl rfl hl.1 rfl (lv_room (Nat.le_of_ble_eq_true rfl)) dX4_overflowPages_11 ⟨Nat.le_of_ble_eq_true rfl, Nat.le_of_ble_eq_true rfl⟩) (fun r11 hr11 => ?_)
  obtain rfl := hr11
  refine tq_callF (va_runV C.fix (As := [.int (nI (2 ^ dp))]) (rest := []) (c_X2_countOverflow l D cy (a 7) (a 10) (a 11) (a 12) (a 13) (a 1) (a 4) (a 5) (a 6) efi ela eco ene key tk cp (2 ^ dp) hcp1 hcp2 (fun r hr => hXR.co_le hr) hp8) (tq_cV (n := 1) C ml_X4_141 im_X2_countOverflow se_X2_countOverflow ini_X2 cd_X2_countOverflow ⟨by decide, by decide, by decide +kernel⟩ ⟨Nat.le_of_ble_eq_true rfl, Nat.le_of_ble_eq_true rfl⟩) ⟨tq_Pf.blind, va_recv hK hP (ci := 2) (q0 := 7) rfl rfl, tq_preF C hK (hP.sub [7, 10, 11, 12, 13, 1, 4] rfl)⟩ rfl rfl hl.1 rfl (lv_room (Nat.le_of_ble_eq_true rfl)) dX4_overflowPages_14 ⟨Nat.le_of_ble_eq_true rfl, Nat.le_of_ble_eq_true rfl⟩) (fun r14 hr14 => ?_)
  obtain rfl := hr14
  exact tq_fret (v := (nI (so (fun r => (eco r - 1) / cp) (2 ^ dp)))) C rfl (by rw [hXR.ovf]) dX4_overflowPages_17
set_option maxHeartbeats 4000000 in
set_option maxRecDepth 100000 in
theorem c_X4_linearBuckets (l : Launch) (D : va_G) (cy : ClassId) (a : Nat → Nat) (key : Nat → Nat) (val : Nat → Nat) (ord : Nat → Nat) (tk : Nat) (cp : Nat) (efi : Nat → Nat) (ela : Nat → Nat) (eco : Nat → Nat) (ene : Nat → Nat) (ldp : Nat → Nat) (dp : Nat) (dbl : Int32) (hlv : Int32) (spl : Int32) (mrg : Int32) (lfi : Nat → Nat) (lla : Nat → Nat) (lco : Nat → Nat) (lne : Nat → Nat) (lev : Nat) (ptr : Nat) (llo : Nat) (lhi : Nat) (lsp : Int32)  (hY : YOK lev ptr) : tq_F l yX4_linearBuckets cX4_linearBuckets 1 (some .int) 1 20 D cy (wC cy a key val ord tk cp efi ela eco ene ldp dp dbl hlv spl mrg lfi lla lco lne lev ptr llo lhi lsp) [.ref (a 0)] (fun r => r = (nI (2 ^ lev + ptr))) := by
  refine tq_F.mk (by decide) (Nat.le_of_ble_eq_true rfl) ?_
  intro p e s m args below meth c C hP hK ls hl
  obtain ⟨hx, hb, hml, hown, hrt, hlk, hT⟩ := id C
  have hl : lv_has ls 1 [(0, .ref (a 0))] := hl
  refine lv_aload_n hx hb dX4_linearBuckets_0 rfl (lv_at hl 0 rfl) ?_
  refine tq_get (C0 := RX4) (T := TX4) (N := 3) (ci := 4) (k := 2) C gX4 inX4 rfl (by decide) rfl fl_X4_28 hK hP 0 rfl rfl dX4_linearBuckets_1 ?_
  refine tq_callF (va_runV C.fix (As := []) (rest := []) (c_X1_countBuckets l D cy a key val ord tk cp efi ela eco ene ldp dp dbl hlv spl mrg lfi lla lco lne lev ptr llo lhi lsp hY) (tq_cV (n := 0) C ml_X4_168 im_X1_countBuckets se_X1_countBuckets ini_X1 cd_X1_countBuckets ⟨by decide, by decide, by decide +kernel⟩ ⟨Nat.le_of_ble_eq_true rfl, Nat.le_of_ble_eq_true rfl⟩) ⟨tq_Pf.blind, va_recv hK hP (ci := 1) (q0 := 3) rfl rfl, tq_preF C hK hP⟩ rfl rfl hl.1 rfl (lv_room (Nat.le_of_ble_eq_true rfl)) dX4_linearBuckets_4 ⟨Nat.le_of_ble_eq_true rfl, Nat.le_of_ble_eq_true rfl⟩) (fun r4 hr4 => ?_)
  obtain rfl := hr4
  exact tq_fret (v := (nI (2 ^ lev + ptr))) C rfl (rfl) dX4_linearBuckets_7
set_option maxHeartbeats 4000000 in
set_option maxRecDepth 100000 in
theorem c_X4_linearOverflowPages (l : Launch) (D : va_G) (cy : ClassId) (a : Nat → Nat) (key : Nat → Nat) (val : Nat → Nat) (ord : Nat → Nat) (tk : Nat) (cp : Nat) (efi : Nat → Nat) (ela : Nat → Nat) (eco : Nat → Nat) (ene : Nat → Nat) (ldp : Nat → Nat) (dp : Nat) (dbl : Int32) (hlv : Int32) (spl : Int32) (mrg : Int32) (lfi : Nat → Nat) (lla : Nat → Nat) (lco : Nat → Nat) (lne : Nat → Nat) (lev : Nat) (ptr : Nat) (llo : Nat) (lhi : Nat) (lsp : Int32)  (dep : Nat → Nat) (E L : List Nat) (hCR : CR key val ord tk cp efi ela eco ene ldp dp lfi lla lco lne lev ptr llo lhi dep E L)  : tq_F l yX4_linearOverflowPages cX4_linearOverflowPages 1 (some .int) 3 64 D cy (wC cy a key val ord tk cp efi ela eco ene ldp dp dbl hlv spl mrg lfi lla lco lne lev ptr llo lhi lsp) [.ref (a 0)] (fun r => r = nI (so (fun q => ((lnB L lev ptr q).length - 1) / cp) (2 ^ lev + ptr))) := by
  refine tq_F.mk (by decide) (Nat.le_of_ble_eq_true rfl) ?_
  intro p e s m args below meth c C hP hK ls hl
  obtain ⟨hx, hb, hml, hown, hrt, hlk, hT⟩ := id C
  have hl : lv_has ls 1 [(0, .ref (a 0))] := hl
  obtain ⟨hSO, ⟨hcp1, hcp2⟩, ⟨hlo, hh1, hh2⟩, ⟨rX, hXR⟩, ⟨rY, hYR⟩, hEL⟩ := id hCR
  have hky := hSO.keyb
  have hdp := hXR.2.1.1
  have hp8 := p8 hdp
  have hld := hXR.2.2.2.1
  have hY := hYR.2.1
  have hYm := hY.2
  have hYp := hY.1
  have htk9 := hSO.1
  refine lv_aload_n hx hb dX4_linearOverflowPages_0 rfl (lv_at hl 0 rfl) ?_
  refine tq_get (C0 := RX4) (T := TX4) (N := 3) (ci := 4) (k := 2) C gX4 inX4 rfl (by decide) rfl fl_X4_28 hK hP 0 rfl rfl dX4_linearOverflowPages_1 ?_
  refine tq_getN (C0 := RX1) (T := TX1) (N := 7) (ci := 1) (k := 1) C gX1 inX1 rfl (by decide) rfl fn_X4_179 hK hP 3 rfl rfl dX4_linearOverflowPages_4 ?_
  refine lv_aload_n hx hb dX4_linearOverflowPages_7 rfl (lv_at hl 0 rfl) ?_
  refine tq_get (C0 := RX4) (T := TX4) (N := 3) (ci := 4) (k := 2) C gX4 inX4 rfl (by decide) rfl fl_X4_28 hK hP 0 rfl rfl dX4_linearOverflowPages_8 ?_
  refine tq_callF (va_runV C.fix (As := []) (rest := [.ref (a 9)]) (c_X1_countBuckets l D cy a key val ord tk cp efi ela eco ene ldp dp dbl hlv spl mrg lfi lla lco lne lev ptr llo lhi lsp hY) (tq_cV (n := 0) C ml_X4_168 im_X1_countBuckets se_X1_countBuckets ini_X1 cd_X1_countBuckets ⟨by decide, by decide, by decide +kernel⟩ ⟨Nat.le_of_ble_eq_true rfl, Nat.le_of_ble_eq_true rfl⟩) ⟨tq_Pf.blind, va_recv hK hP (ci := 1) (q0 := 3) rfl rfl, tq_preF C hK hP⟩ rfl rfl hl.1 rfl (lv_room (Nat.le_of_ble_eq_true rfl)) dX4_linearOverflowPages_11 ⟨Nat.le_of_ble_eq_true rfl, Nat.le_of_ble_eq_true rfl⟩) (fun r11 hr11 => ?_)
  obtain rfl := hr11
  refine tq_callF (va_runV C.fix (As := [.int (nI (2 ^ lev + ptr))]) (rest := []) (c_X2_countOverflow l D cy (a 9) (a 14) (a 15) (a 16) (a 17) (a 1) (a 4) (a 5) (a 6) lfi lla lco lne key tk cp (2 ^ lev + ptr) hcp1 hcp2 (fun r hr => (hYR.len hr).2) (by omega)) (tq_cV (n := 1) C ml_X4_141 im_X2_countOverflow se_X2_countOverflow ini_X2 cd_X2_countOverflow ⟨by decide, by decide, by decide +kernel⟩ ⟨Nat.le_of_ble_eq_true rfl, Nat.le_of_ble_eq_true rfl⟩) ⟨tq_Pf.blind, va_recv hK hP (ci := 2) (q0 := 9) rfl rfl, tq_preF C hK (hP.sub [9, 14, 15, 16, 17, 1, 4] rfl)⟩ rfl rfl hl.1 rfl (lv_room (Nat.le_of_ble_eq_true rfl)) dX4_linearOverflowPages_14 ⟨Nat.le_of_ble_eq_true rfl, Nat.le_of_ble_eq_true rfl⟩) (fun r14 hr14 => ?_)
  obtain rfl := hr14
  exact tq_fret (v := (nI (so (fun r => (lco r - 1) / cp) (2 ^ lev + ptr)))) C rfl (by rw [so_ext (g := fun q => ((lnB L lev ptr q).length - 1) / cp) (fun i hi => by rw [(hYR.len (by omega)).1]) (Nat.le_refl _) (fun i h1 h2 => absurd h1 (by omega))]) dX4_linearOverflowPages_17
set_option maxHeartbeats 4000000 in
set_option maxRecDepth 100000 in
theorem c_X4_load (l : Launch) (D : va_G) (cy : ClassId) (a : Nat → Nat) (key : Nat → Nat) (val : Nat → Nat) (ord : Nat → Nat) (tk : Nat) (cp : Nat) (efi : Nat → Nat) (ela : Nat → Nat) (eco : Nat → Nat) (ene : Nat → Nat) (ldp : Nat → Nat) (dp : Nat) (dbl : Int32) (hlv : Int32) (spl : Int32) (mrg : Int32) (lfi : Nat → Nat) (lla : Nat → Nat) (lco : Nat → Nat) (lne : Nat → Nat) (lev : Nat) (ptr : Nat) (llo : Nat) (lhi : Nat) (lsp : Int32)  (dep : Nat → Nat) (E L : List Nat) (hCR : CR key val ord tk cp efi ela eco ene ldp dp lfi lla lco lne lev ptr llo lhi dep E L)  : tq_F l yX4_load cX4_load 2 (some .int) 1 20 D cy (wC cy a key val ord tk cp efi ela eco ene ldp dp dbl hlv spl mrg lfi lla lco lne lev ptr llo lhi lsp) [.ref (a 0)] (fun r => r = nI (100 * tk / ((2 ^ lev + ptr) * cp))) := by
  refine tq_F.mk (by decide) (Nat.le_of_ble_eq_true rfl) ?_
  intro p e s m args below meth c C hP hK ls hl
  obtain ⟨hx, hb, hml, hown, hrt, hlk, hT⟩ := id C
  have hl : lv_has ls 2 [(0, .ref (a 0))] := hl
  obtain ⟨hSO, ⟨hcp1, hcp2⟩, ⟨hlo, hh1, hh2⟩, ⟨rX, hXR⟩, ⟨rY, hYR⟩, hEL⟩ := id hCR
  have hky := hSO.keyb
  have hdp := hXR.2.1.1
  have hp8 := p8 hdp
  have hld := hXR.2.2.2.1
  have hY := hYR.2.1
  have hYm := hY.2
  have hYp := hY.1
  have htk9 := hSO.1
  have hm9 := Nat.mul_le_mul hYm hcp2
  have hm8 : 1 * 1 ≤ (2 ^ lev + ptr) * cp := Nat.mul_le_mul (by have := p2_pos lev; omega) hcp1
  have htk := hSO.1
  refine lv_aload_n hx hb dX4_load_0 rfl (lv_at hl 0 rfl) ?_
  refine tq_get (C0 := RX4) (T := TX4) (N := 3) (ci := 4) (k := 2) C gX4 inX4 rfl (by decide) rfl fl_X4_28 hK hP 0 rfl rfl dX4_load_1 ?_
  refine tq_callF (va_runV C.fix (As := []) (rest := []) (c_X1_countBuckets l D cy a key val ord tk cp efi ela eco ene ldp dp dbl hlv spl mrg lfi lla lco lne lev ptr llo lhi lsp hY) (tq_cV (n := 0) C ml_X4_168 im_X1_countBuckets se_X1_countBuckets ini_X1 cd_X1_countBuckets ⟨by decide, by decide, by decide +kernel⟩ ⟨Nat.le_of_ble_eq_true rfl, Nat.le_of_ble_eq_true rfl⟩) ⟨tq_Pf.blind, va_recv hK hP (ci := 1) (q0 := 3) rfl rfl, tq_preF C hK hP⟩ rfl rfl hl.1 rfl (lv_room (Nat.le_of_ble_eq_true rfl)) dX4_load_4 ⟨Nat.le_of_ble_eq_true rfl, Nat.le_of_ble_eq_true rfl⟩) (fun r4 hr4 => ?_)
  obtain rfl := hr4
  refine lv_aload_n hx hb dX4_load_7 rfl (lv_at hl 0 rfl) ?_
  refine tq_get (C0 := RX4) (T := TX4) (N := 3) (ci := 4) (k := 0) C gX4 inX4 rfl (by decide) rfl fl_X4_10 hK hP 0 rfl rfl dX4_load_8 ?_
  refine tq_getN (C0 := RX3) (T := TX3) (N := 5) (ci := 3) (k := 4) C gX3 inX3 rfl (by decide) rfl fn_X4_83 hK hP 1 rfl rfl dX4_load_11 ?_
  refine tq_imul C dX4_load_14 ?_
  refine lv_istore_n (lv' := [(1, .int (nI ((2 ^ lev + ptr) * cp))), (0, .ref (a 0))]) hx hb dX4_load_15 rfl hl (by decide) rfl (fun ls hl => ?_)
  refine lv_iload_n hx hb dX4_load_16 rfl (lv_at hl 0 rfl) ?_
  refine tq_if_le (tgt := 35) C (by omega) dX4_load_17 (by decide) (fun h17 => ?_) (fun h17 => ?_)
  · omega
  · refine lv_bipush (v := nI 100) hx hb dX4_load_20 (by decide) ?_
    refine lv_aload_n hx hb dX4_load_22 rfl (lv_at hl 1 rfl) ?_
    refine tq_get (C0 := RX4) (T := TX4) (N := 3) (ci := 4) (k := 0) C gX4 inX4 rfl (by decide) rfl fl_X4_10 hK hP 0 rfl rfl dX4_load_23 ?_
    refine tq_getN (C0 := RX3) (T := TX3) (N := 5) (ci := 3) (k := 3) C gX3 inX3 rfl (by decide) rfl fn_X4_49 hK hP 1 rfl rfl dX4_load_26 ?_
    refine tq_imul C dX4_load_29 ?_
    refine lv_iload_n hx hb dX4_load_30 rfl (lv_at hl 0 rfl) ?_
    refine tq_idiv C (by omega) (by omega) (by omega) dX4_load_31 ?_
    refine lv_goto (tgt := 36) hx hb dX4_load_32 (by decide) ?_
    exact tq_fret (v := (nI ((100 * tk) / ((2 ^ lev + ptr) * cp)))) C rfl (rfl) dX4_load_36
set_option maxHeartbeats 4000000 in
set_option maxRecDepth 100000 in
theorem c_X4_valueOrAbsent (l : Launch) (D : va_G) (cy : ClassId) (a : Nat → Nat) (key : Nat → Nat) (val : Nat → Nat) (ord : Nat → Nat) (tk : Nat) (cp : Nat) (efi : Nat → Nat) (ela : Nat → Nat) (eco : Nat → Nat) (ene : Nat → Nat) (ldp : Nat → Nat) (dp : Nat) (dbl : Int32) (hlv : Int32) (spl : Int32) (mrg : Int32) (lfi : Nat → Nat) (lla : Nat → Nat) (lco : Nat → Nat) (lne : Nat → Nat) (lev : Nat) (ptr : Nat) (llo : Nat) (lhi : Nat) (lsp : Int32) (en : Nat) (h2 : en ≤ 120) : tq_F l yX4_valueOrAbsent cX4_valueOrAbsent 2 (some .int) 2 41 D cy (wC cy a key val ord tk cp efi ela eco ene ldp dp dbl hlv spl mrg lfi lla lco lne lev ptr llo lhi lsp) [.ref (a 0), .int (nI (en))] (fun r => (en = 0 ∧ r = -1) ∨ (1 ≤ en ∧ r = nI (val en))) := by
  refine tq_F.mk (by decide) (Nat.le_of_ble_eq_true rfl) ?_
  intro p e s m args below meth c C hP hK ls hl
  obtain ⟨hx, hb, hml, hown, hrt, hlk, hT⟩ := id C
  have hl : lv_has ls 2 [(0, .ref (a 0)), (1, .int (nI (en)))] := hl
  refine lv_iload_n hx hb dX4_valueOrAbsent_0 rfl (lv_at hl 1 rfl) ?_
  refine tq_if_ne (tgt := 8) C (by omega) dX4_valueOrAbsent_1 (by decide) (fun h1 => ?_) (fun h1 => ?_)
  · refine lv_aload_n hx hb dX4_valueOrAbsent_8 rfl (lv_at hl 0 rfl) ?_
    refine tq_get (C0 := RX4) (T := TX4) (N := 3) (ci := 4) (k := 0) C gX4 inX4 rfl (by decide) rfl fl_X4_10 hK hP 0 rfl rfl dX4_valueOrAbsent_9 ?_
    refine lv_iload_n hx hb dX4_valueOrAbsent_12 rfl (lv_at hl 1 rfl) ?_
    refine tq_callF (va_runV C.fix (As := [.int (nI (en))]) (rest := []) (c_X3_valueOf l D cy a key val ord tk cp efi ela eco ene ldp dp dbl hlv spl mrg lfi lla lco lne lev ptr llo lhi lsp en (by omega) h2) (tq_cV (n := 1) C ml_X4_73 im_X3_valueOf se_X3_valueOf ini_X3 cd_X3_valueOf ⟨by decide, by decide, by decide +kernel⟩ ⟨Nat.le_of_ble_eq_true rfl, Nat.le_of_ble_eq_true rfl⟩) ⟨tq_Pf.blind, va_recv hK hP (ci := 3) (q0 := 1) rfl rfl, tq_preF C hK hP⟩ rfl rfl hl.1 rfl (lv_room (Nat.le_of_ble_eq_true rfl)) dX4_valueOrAbsent_13 ⟨Nat.le_of_ble_eq_true rfl, Nat.le_of_ble_eq_true rfl⟩) (fun r13 hr13 => ?_)
    obtain rfl := hr13
    exact tq_fret (v := (nI (val en))) C rfl (Or.inr ⟨by omega, rfl⟩) dX4_valueOrAbsent_16
  · refine lv_iconst (v := (-1)) hx hb dX4_valueOrAbsent_4 (by decide) ?_
    refine lv_goto (tgt := 16) hx hb dX4_valueOrAbsent_5 (by decide) ?_
    exact tq_fret (v := ((-1))) C rfl (Or.inl ⟨h1, rfl⟩) dX4_valueOrAbsent_16
set_option maxHeartbeats 4000000 in
set_option maxRecDepth 100000 in
theorem c_X4_get (l : Launch) (hl9 : l.stackTraces = false) (D : va_G) (cy : ClassId) (a : Nat → Nat) (key : Nat → Nat) (val : Nat → Nat) (ord : Nat → Nat) (tk : Nat) (cp : Nat) (efi : Nat → Nat) (ela : Nat → Nat) (eco : Nat → Nat) (ene : Nat → Nat) (ldp : Nat → Nat) (dp : Nat) (dbl : Int32) (hlv : Int32) (spl : Int32) (mrg : Int32) (lfi : Nat → Nat) (lla : Nat → Nat) (lco : Nat → Nat) (lne : Nat → Nat) (lev : Nat) (ptr : Nat) (llo : Nat) (lhi : Nat) (lsp : Int32) (kx : Int32) (dep : Nat → Nat) (E L : List Nat) (hCR : CR key val ord tk cp efi ela eco ene ldp dp lfi lla lco lne lev ptr llo lhi dep E L)  : tq_XF l yX4_get cX4_get 2 (some .int) 8 124 D cy (wC cy a key val ord tk cp efi ela eco ene ldp dp dbl hlv spl mrg lfi lla lco lne lev ptr llo lhi lsp) [.ref (a 0), .int (kx)] (fun r => getP (stl key val ord tk) kx r) (fun E9 => E9 = "java/lang/IllegalArgumentException" ∧ ¬ isKey kx) := by
  refine tq_XF.mk (by decide) (Nat.le_of_ble_eq_true rfl) ?_
  intro p e s m args below meth c A C hX hP hK hD hA hE ls hl
  obtain ⟨hx, hb, hml, hown, hrt, hlk, hT⟩ := id C
  have hl : lv_has ls 2 [(0, .ref (a 0)), (1, .int (kx))] := hl
  obtain ⟨hSO, ⟨hcp1, hcp2⟩, ⟨hlo, hh1, hh2⟩, ⟨rX, hXR⟩, ⟨rY, hYR⟩, hEL⟩ := id hCR
  have hky := hSO.keyb
  have hdp := hXR.2.1.1
  have hp8 := p8 hdp
  have hld := hXR.2.2.2.1
  have hY := hYR.2.1
  have hYm := hY.2
  have hYp := hY.1
  have htk9 := hSO.1
  refine lv_iload_n hx hb dX4_get_0 rfl (lv_at hl 1 rfl) ?_
  refine tq_callXU C hX (vx_runS C.fix (As := [.int (kx)]) (rest := []) ((c_X4_checkKey l hl9 D cy kx) s.heap.size) (tq_cS (n := 1) C ml_X4_32 sm_X4_checkKey ini_X4 cd_X4_checkKey ⟨by decide, by decide, by decide +kernel⟩ ⟨Nat.le_of_ble_eq_true rfl, Nat.le_of_ble_eq_true rfl⟩) ⟨tq_Px.blind, tq_preX C hK hP hD va_S.rf hA hE [] (by decide) rfl⟩ rfl rfl hl.1 rfl (lv_room (Nat.le_of_ble_eq_true rfl)) dX4_get_1 ⟨Nat.le_of_ble_eq_true rfl, Nat.le_of_ble_eq_true rfl⟩) (fun _ h => h) (fun hr1 => ?_)
  obtain ⟨k, hk, rfl⟩ := hr1
  refine lv_aload_n hx hb dX4_get_4 rfl (lv_at hl 0 rfl) ?_
  refine lv_aload_n hx hb dX4_get_5 rfl (lv_at hl 0 rfl) ?_
  refine tq_get (C0 := RX4) (T := TX4) (N := 3) (ci := 4) (k := 1) C gX4 inX4 rfl (by decide) rfl fl_X4_21 hK hP 0 rfl rfl dX4_get_6 ?_
  refine lv_iload_n hx hb dX4_get_9 rfl (lv_at hl 1 rfl) ?_
  refine tq_callF (va_runV C.fix (As := [.int (nI (k))]) (rest := [.ref (a 0)]) (c_X0_find l D cy a key val ord tk cp efi ela eco ene ldp dp dbl hlv spl mrg lfi lla lco lne lev ptr llo lhi lsp k hdp hld rX hXR.1 hky hk) (tq_cV (n := 1) C ml_X4_41 im_X0_find se_X0_find ini_X0 cd_X0_find ⟨by decide, by decide, by decide +kernel⟩ ⟨Nat.le_of_ble_eq_true rfl, Nat.le_of_ble_eq_true rfl⟩) ⟨tq_Pf.blind, va_recv hK hP (ci := 0) (q0 := 2) rfl rfl, tq_preF C hK hP⟩ rfl rfl hl.1 rfl (lv_room (Nat.le_of_ble_eq_true rfl)) dX4_get_10 ⟨Nat.le_of_ble_eq_true rfl, Nat.le_of_ble_eq_true rfl⟩) (fun r10 hr10 => ?_)
  rcases hr10 with ⟨en, hm, hke, rfl⟩ | ⟨hno, rfl⟩
  · have hmm := hXR.mem hm hke
    refine tq_callF (va_runV C.fix (As := [.int (nI (en))]) (rest := []) (c_X4_valueOrAbsent l D cy a key val ord tk cp efi ela eco ene ldp dp dbl hlv spl mrg lfi lla lco lne lev ptr llo lhi lsp en hmm.2.1) (tq_cV (n := 1) C ml_X4_76 im_X4_valueOrAbsent se_X4_valueOrAbsent ini_X4 cd_X4_valueOrAbsent ⟨by decide, by decide, by decide +kernel⟩ ⟨Nat.le_of_ble_eq_true rfl, Nat.le_of_ble_eq_true rfl⟩) ⟨tq_Pf.blind, va_recv hK hP (ci := 4) (q0 := 0) rfl rfl, tq_preF C hK hP⟩ rfl rfl hl.1 rfl (lv_room (Nat.le_of_ble_eq_true rfl)) dX4_get_13 ⟨Nat.le_of_ble_eq_true rfl, Nat.le_of_ble_eq_true rfl⟩) (fun r13 hr13 => ?_)
    exact tq_xfret (v := (r13)) C rfl (⟨k, hk, rfl, Or.inl ⟨val en, (hSO.get hmm.2.2.1 hke _).mpr rfl, (hr13.resolve_left (fun q => by have := hmm.1; omega)).2⟩⟩) dX4_get_16
  · refine tq_callF (va_runV C.fix (As := [.int (nI (0))]) (rest := []) (c_X4_valueOrAbsent l D cy a key val ord tk cp efi ela eco ene ldp dp dbl hlv spl mrg lfi lla lco lne lev ptr llo lhi lsp 0 (by omega)) (tq_cV (n := 1) C ml_X4_76 im_X4_valueOrAbsent se_X4_valueOrAbsent ini_X4 cd_X4_valueOrAbsent ⟨by decide, by decide, by decide +kernel⟩ ⟨Nat.le_of_ble_eq_true rfl, Nat.le_of_ble_eq_true rfl⟩) ⟨tq_Pf.blind, va_recv hK hP (ci := 4) (q0 := 0) rfl rfl, tq_preF C hK hP⟩ rfl rfl hl.1 rfl (lv_room (Nat.le_of_ble_eq_true rfl)) dX4_get_13 ⟨Nat.le_of_ble_eq_true rfl, Nat.le_of_ble_eq_true rfl⟩) (fun r13 hr13 => ?_)
    exact tq_xfret (v := (r13)) C rfl (⟨k, hk, rfl, Or.inr ⟨hCR.none (Or.inl (hXR.nomem hno)), (hr13.resolve_right (fun q => by omega)).2⟩⟩) dX4_get_16
set_option maxHeartbeats 4000000 in
set_option maxRecDepth 100000 in
theorem c_X4_getByLinear (l : Launch) (hl9 : l.stackTraces = false) (D : va_G) (cy : ClassId) (a : Nat → Nat) (key : Nat → Nat) (val : Nat → Nat) (ord : Nat → Nat) (tk : Nat) (cp : Nat) (efi : Nat → Nat) (ela : Nat → Nat) (eco : Nat → Nat) (ene : Nat → Nat) (ldp : Nat → Nat) (dp : Nat) (dbl : Int32) (hlv : Int32) (spl : Int32) (mrg : Int32) (lfi : Nat → Nat) (lla : Nat → Nat) (lco : Nat → Nat) (lne : Nat → Nat) (lev : Nat) (ptr : Nat) (llo : Nat) (lhi : Nat) (lsp : Int32) (kx : Int32) (dep : Nat → Nat) (E L : List Nat) (hCR : CR key val ord tk cp efi ela eco ene ldp dp lfi lla lco lne lev ptr llo lhi dep E L)  : tq_XF l yX4_getByLinear cX4_getByLinear 2 (some .int) 8 124 D cy (wC cy a key val ord tk cp efi ela eco ene ldp dp dbl hlv spl mrg lfi lla lco lne lev ptr llo lhi lsp) [.ref (a 0), .int (kx)] (fun r => getP (stl key val ord tk) kx r) (fun E9 => E9 = "java/lang/IllegalArgumentException" ∧ ¬ isKey kx) := by
  refine tq_XF.mk (by decide) (Nat.le_of_ble_eq_true rfl) ?_
  intro p e s m args below meth c A C hX hP hK hD hA hE ls hl
  obtain ⟨hx, hb, hml, hown, hrt, hlk, hT⟩ := id C
  have hl : lv_has ls 2 [(0, .ref (a 0)), (1, .int (kx))] := hl
  obtain ⟨hSO, ⟨hcp1, hcp2⟩, ⟨hlo, hh1, hh2⟩, ⟨rX, hXR⟩, ⟨rY, hYR⟩, hEL⟩ := id hCR
  have hky := hSO.keyb
  have hdp := hXR.2.1.1
  have hp8 := p8 hdp
  have hld := hXR.2.2.2.1
  have hY := hYR.2.1
  have hYm := hY.2
  have hYp := hY.1
  have htk9 := hSO.1
  refine lv_iload_n hx hb dX4_getByLinear_0 rfl (lv_at hl 1 rfl) ?_
  refine tq_callXU C hX (vx_runS C.fix (As := [.int (kx)]) (rest := []) ((c_X4_checkKey l hl9 D cy kx) s.heap.size) (tq_cS (n := 1) C ml_X4_32 sm_X4_checkKey ini_X4 cd_X4_checkKey ⟨by decide, by decide, by decide +kernel⟩ ⟨Nat.le_of_ble_eq_true rfl, Nat.le_of_ble_eq_true rfl⟩) ⟨tq_Px.blind, tq_preX C hK hP hD va_S.rf hA hE [] (by decide) rfl⟩ rfl rfl hl.1 rfl (lv_room (Nat.le_of_ble_eq_true rfl)) dX4_getByLinear_1 ⟨Nat.le_of_ble_eq_true rfl, Nat.le_of_ble_eq_true rfl⟩) (fun _ h => h) (fun hr1 => ?_)
  obtain ⟨k, hk, rfl⟩ := hr1
  refine lv_aload_n hx hb dX4_getByLinear_4 rfl (lv_at hl 0 rfl) ?_
  refine lv_aload_n hx hb dX4_getByLinear_5 rfl (lv_at hl 0 rfl) ?_
  refine tq_get (C0 := RX4) (T := TX4) (N := 3) (ci := 4) (k := 2) C gX4 inX4 rfl (by decide) rfl fl_X4_28 hK hP 0 rfl rfl dX4_getByLinear_6 ?_
  refine lv_iload_n hx hb dX4_getByLinear_9 rfl (lv_at hl 1 rfl) ?_
  refine tq_callF (va_runV C.fix (As := [.int (nI (k))]) (rest := [.ref (a 0)]) (c_X1_find l D cy a key val ord tk cp efi ela eco ene ldp dp dbl hlv spl mrg lfi lla lco lne lev ptr llo lhi lsp k hY rY hYR.1 hky hk) (tq_cV (n := 1) C ml_X4_79 im_X1_find se_X1_find ini_X1 cd_X1_find ⟨by decide, by decide, by decide +kernel⟩ ⟨Nat.le_of_ble_eq_true rfl, Nat.le_of_ble_eq_true rfl⟩) ⟨tq_Pf.blind, va_recv hK hP (ci := 1) (q0 := 3) rfl rfl, tq_preF C hK hP⟩ rfl rfl hl.1 rfl (lv_room (Nat.le_of_ble_eq_true rfl)) dX4_getByLinear_10 ⟨Nat.le_of_ble_eq_true rfl, Nat.le_of_ble_eq_true rfl⟩) (fun r10 hr10 => ?_)
  rcases hr10 with ⟨en, hm, hke, rfl⟩ | ⟨hno, rfl⟩
  · have hmm := hYR.mem hm hke
    refine tq_callF (va_runV C.fix (As := [.int (nI (en))]) (rest := []) (c_X4_valueOrAbsent l D cy a key val ord tk cp efi ela eco ene ldp dp dbl hlv spl mrg lfi lla lco lne lev ptr llo lhi lsp en hmm.2.1) (tq_cV (n := 1) C ml_X4_76 im_X4_valueOrAbsent se_X4_valueOrAbsent ini_X4 cd_X4_valueOrAbsent ⟨by decide, by decide, by decide +kernel⟩ ⟨Nat.le_of_ble_eq_true rfl, Nat.le_of_ble_eq_true rfl⟩) ⟨tq_Pf.blind, va_recv hK hP (ci := 4) (q0 := 0) rfl rfl, tq_preF C hK hP⟩ rfl rfl hl.1 rfl (lv_room (Nat.le_of_ble_eq_true rfl)) dX4_getByLinear_13 ⟨Nat.le_of_ble_eq_true rfl, Nat.le_of_ble_eq_true rfl⟩) (fun r13 hr13 => ?_)
    exact tq_xfret (v := (r13)) C rfl (⟨k, hk, rfl, Or.inl ⟨val en, (hSO.get hmm.2.2 hke _).mpr rfl, (hr13.resolve_left (fun q => by have := hmm.1; omega)).2⟩⟩) dX4_getByLinear_16
  · refine tq_callF (va_runV C.fix (As := [.int (nI (0))]) (rest := []) (c_X4_valueOrAbsent l D cy a key val ord tk cp efi ela eco ene ldp dp dbl hlv spl mrg lfi lla lco lne lev ptr llo lhi lsp 0 (by omega)) (tq_cV (n := 1) C ml_X4_76 im_X4_valueOrAbsent se_X4_valueOrAbsent ini_X4 cd_X4_valueOrAbsent ⟨by decide, by decide, by decide +kernel⟩ ⟨Nat.le_of_ble_eq_true rfl, Nat.le_of_ble_eq_true rfl⟩) ⟨tq_Pf.blind, va_recv hK hP (ci := 4) (q0 := 0) rfl rfl, tq_preF C hK hP⟩ rfl rfl hl.1 rfl (lv_room (Nat.le_of_ble_eq_true rfl)) dX4_getByLinear_13 ⟨Nat.le_of_ble_eq_true rfl, Nat.le_of_ble_eq_true rfl⟩) (fun r13 hr13 => ?_)
    exact tq_xfret (v := (r13)) C rfl (⟨k, hk, rfl, Or.inr ⟨hCR.none (Or.inr (hYR.nomem hno)), (hr13.resolve_right (fun q => by omega)).2⟩⟩) dX4_getByLinear_16
set_option maxHeartbeats 4000000 in
set_option maxRecDepth 100000 in
theorem c_X4_hashOf (l : Launch) (hl9 : l.stackTraces = false) (D : va_G) (cy : ClassId) (a : Nat → Nat) (key : Nat → Nat) (val : Nat → Nat) (ord : Nat → Nat) (tk : Nat) (cp : Nat) (efi : Nat → Nat) (ela : Nat → Nat) (eco : Nat → Nat) (ene : Nat → Nat) (ldp : Nat → Nat) (dp : Nat) (dbl : Int32) (hlv : Int32) (spl : Int32) (mrg : Int32) (lfi : Nat → Nat) (lla : Nat → Nat) (lco : Nat → Nat) (lne : Nat → Nat) (lev : Nat) (ptr : Nat) (llo : Nat) (lhi : Nat) (lsp : Int32) (kx : Int32)  : tq_XF l yX4_hashOf cX4_hashOf 2 (some .int) 8 124 D cy (wC cy a key val ord tk cp efi ela eco ene ldp dp dbl hlv spl mrg lfi lla lco lne lev ptr llo lhi lsp) [.ref (a 0), .int (kx)] (fun r => ∃ k, k < 65536 ∧ kx = nI k ∧ r = nI (hs k)) (fun E9 => E9 = "java/lang/IllegalArgumentException" ∧ ¬ isKey kx) := by
  refine tq_XF.mk (by decide) (Nat.le_of_ble_eq_true rfl) ?_
  intro p e s m args below meth c A C hX hP hK hD hA hE ls hl
  obtain ⟨hx, hb, hml, hown, hrt, hlk, hT⟩ := id C
  have hl : lv_has ls 2 [(0, .ref (a 0)), (1, .int (kx))] := hl
  refine lv_iload_n hx hb dX4_hashOf_0 rfl (lv_at hl 1 rfl) ?_
  refine tq_callXU C hX (vx_runS C.fix (As := [.int (kx)]) (rest := []) ((c_X4_checkKey l hl9 D cy kx) s.heap.size) (tq_cS (n := 1) C ml_X4_32 sm_X4_checkKey ini_X4 cd_X4_checkKey ⟨by decide, by decide, by decide +kernel⟩ ⟨Nat.le_of_ble_eq_true rfl, Nat.le_of_ble_eq_true rfl⟩) ⟨tq_Px.blind, tq_preX C hK hP hD va_S.rf hA hE [] (by decide) rfl⟩ rfl rfl hl.1 rfl (lv_room (Nat.le_of_ble_eq_true rfl)) dX4_hashOf_1 ⟨Nat.le_of_ble_eq_true rfl, Nat.le_of_ble_eq_true rfl⟩) (fun _ h => h) (fun hr1 => ?_)
  obtain ⟨k, hk, rfl⟩ := hr1
  refine lv_iload_n hx hb dX4_hashOf_4 rfl (lv_at hl 1 rfl) ?_
  refine tq_callF (va_runS C.fix (As := [.int (nI (k))]) (rest := []) (c_X4_hash l D cy k hk) (tq_cS (n := 1) C ml_X4_101 sm_X4_hash ini_X4 cd_X4_hash ⟨by decide, by decide, by decide +kernel⟩ ⟨Nat.le_of_ble_eq_true rfl, Nat.le_of_ble_eq_true rfl⟩) ⟨tq_Pf.blind, tq_preF C hK (hP.sub [] rfl)⟩ rfl rfl hl.1 rfl (lv_room (Nat.le_of_ble_eq_true rfl)) dX4_hashOf_5 ⟨Nat.le_of_ble_eq_true rfl, Nat.le_of_ble_eq_true rfl⟩) (fun r5 hr5 => ?_)
  obtain rfl := hr5
  exact tq_xfret (v := (nI (hs k))) C rfl (⟨k, hk, rfl, rfl⟩) dX4_hashOf_8
set_option maxHeartbeats 4000000 in
set_option maxRecDepth 100000 in
theorem c_X4_localDepth (l : Launch) (hl9 : l.stackTraces = false) (D : va_G) (cy : ClassId) (a : Nat → Nat) (key : Nat → Nat) (val : Nat → Nat) (ord : Nat → Nat) (tk : Nat) (cp : Nat) (efi : Nat → Nat) (ela : Nat → Nat) (eco : Nat → Nat) (ene : Nat → Nat) (ldp : Nat → Nat) (dp : Nat) (dbl : Int32) (hlv : Int32) (spl : Int32) (mrg : Int32) (lfi : Nat → Nat) (lla : Nat → Nat) (lco : Nat → Nat) (lne : Nat → Nat) (lev : Nat) (ptr : Nat) (llo : Nat) (lhi : Nat) (lsp : Int32) (sl : Int32) (dep : Nat → Nat) (E L : List Nat) (hCR : CR key val ord tk cp efi ela eco ene ldp dp lfi lla lco lne lev ptr llo lhi dep E L)  : tq_XF l yX4_localDepth cX4_localDepth 2 (some .int) 8 124 D cy (wC cy a key val ord tk cp efi ela eco ene ldp dp dbl hlv spl mrg lfi lla lco lne lev ptr llo lhi lsp) [.ref (a 0), .int (sl)] (fun r => ∃ k, k < 2 ^ dp ∧ sl = nI k ∧ r = nI (dep k)) (fun E9 => E9 = "java/lang/IndexOutOfBoundsException" ∧ ¬ ∃ k : Nat, k < 2 ^ dp ∧ sl = nI k) := by
  refine tq_XF.mk (by decide) (Nat.le_of_ble_eq_true rfl) ?_
  intro p e s m args below meth c A C hX hP hK hD hA hE ls hl
  obtain ⟨hx, hb, hml, hown, hrt, hlk, hT⟩ := id C
  have hl : lv_has ls 2 [(0, .ref (a 0)), (1, .int (sl))] := hl
  obtain ⟨hSO, ⟨hcp1, hcp2⟩, ⟨hlo, hh1, hh2⟩, ⟨rX, hXR⟩, ⟨rY, hYR⟩, hEL⟩ := id hCR
  have hky := hSO.keyb
  have hdp := hXR.2.1.1
  have hp8 := p8 hdp
  have hld := hXR.2.2.2.1
  have hY := hYR.2.1
  have hYm := hY.2
  have hYp := hY.1
  have htk9 := hSO.1
  refine lv_aload_n hx hb dX4_localDepth_0 rfl (lv_at hl 0 rfl) ?_
  refine lv_iload_n hx hb dX4_localDepth_1 rfl (lv_at hl 1 rfl) ?_
  refine tq_callXU C hX (vx_runV C.fix (As := [.int (sl)]) (rest := []) ((c_X4_checkSlot l hl9 D cy a key val ord tk cp efi ela eco ene ldp dp dbl hlv spl mrg lfi lla lco lne lev ptr llo lhi lsp sl hdp) s.heap.size) (tq_cV (n := 1) C ml_X4_110 im_X4_checkSlot se_X4_checkSlot ini_X4 cd_X4_checkSlot ⟨by decide, by decide, by decide +kernel⟩ ⟨Nat.le_of_ble_eq_true rfl, Nat.le_of_ble_eq_true rfl⟩) ⟨tq_Px.blind, va_recv hK hP (ci := 4) (q0 := 0) rfl rfl, tq_preX C hK hP hD va_S.rf hA hE [0, 1, 2, 3, 4, 5, 6, 7, 8, 9, 10, 11, 12, 13, 14, 15, 16, 17] (by decide) rfl⟩ rfl rfl hl.1 rfl (lv_room (Nat.le_of_ble_eq_true rfl)) dX4_localDepth_2 ⟨Nat.le_of_ble_eq_true rfl, Nat.le_of_ble_eq_true rfl⟩) (fun _ h => h) (fun hr2 => ?_)
  obtain ⟨k, hk, rfl⟩ := hr2
  have hk2 : k < 256 := by omega
  have hlk := hXR.2.2.1 k hk
  have hd8 : dep k ≤ 8 := by have := hXR.2.1.2.1 k hk2; omega
  refine lv_aload_n hx hb dX4_localDepth_5 rfl (lv_at hl 0 rfl) ?_
  refine tq_get (C0 := RX4) (T := TX4) (N := 3) (ci := 4) (k := 1) C gX4 inX4 rfl (by decide) rfl fl_X4_21 hK hP 0 rfl rfl dX4_localDepth_6 ?_
  refine lv_iload_n hx hb dX4_localDepth_9 rfl (lv_at hl 1 rfl) ?_
  refine tq_callF (va_runV C.fix (As := [.int (nI (k))]) (rest := []) (c_X0_depthAt l D cy a key val ord tk cp efi ela eco ene ldp dp dbl hlv spl mrg lfi lla lco lne lev ptr llo lhi lsp k hk2) (tq_cV (n := 1) C ml_X4_113 im_X0_depthAt se_X0_depthAt ini_X0 cd_X0_depthAt ⟨by decide, by decide, by decide +kernel⟩ ⟨Nat.le_of_ble_eq_true rfl, Nat.le_of_ble_eq_true rfl⟩) ⟨tq_Pf.blind, va_recv hK hP (ci := 0) (q0 := 2) rfl rfl, tq_preF C hK hP⟩ rfl rfl hl.1 rfl (lv_room (Nat.le_of_ble_eq_true rfl)) dX4_localDepth_10 ⟨Nat.le_of_ble_eq_true rfl, Nat.le_of_ble_eq_true rfl⟩) (fun r10 hr10 => ?_)
  obtain rfl := hr10
  exact tq_xfret (v := (nI (ldp k))) C rfl (⟨k, hk, rfl, by rw [hlk]⟩) dX4_localDepth_13
set_option maxHeartbeats 4000000 in
set_option maxRecDepth 100000 in
theorem c_X4_bucketSize (l : Launch) (hl9 : l.stackTraces = false) (D : va_G) (cy : ClassId) (a : Nat → Nat) (key : Nat → Nat) (val : Nat → Nat) (ord : Nat → Nat) (tk : Nat) (cp : Nat) (efi : Nat → Nat) (ela : Nat → Nat) (eco : Nat → Nat) (ene : Nat → Nat) (ldp : Nat → Nat) (dp : Nat) (dbl : Int32) (hlv : Int32) (spl : Int32) (mrg : Int32) (lfi : Nat → Nat) (lla : Nat → Nat) (lco : Nat → Nat) (lne : Nat → Nat) (lev : Nat) (ptr : Nat) (llo : Nat) (lhi : Nat) (lsp : Int32) (sl : Int32) (dep : Nat → Nat) (E L : List Nat) (hCR : CR key val ord tk cp efi ela eco ene ldp dp lfi lla lco lne lev ptr llo lhi dep E L)  : tq_XF l yX4_bucketSize cX4_bucketSize 2 (some .int) 8 124 D cy (wC cy a key val ord tk cp efi ela eco ene ldp dp dbl hlv spl mrg lfi lla lco lne lev ptr llo lhi lsp) [.ref (a 0), .int (sl)] (fun r => ∃ k, k < 2 ^ dp ∧ sl = nI k ∧ r = nI (clB E k (dep k)).length) (fun E9 => E9 = "java/lang/IndexOutOfBoundsException" ∧ ¬ ∃ k : Nat, k < 2 ^ dp ∧ sl = nI k) := by
  refine tq_XF.mk (by decide) (Nat.le_of_ble_eq_true rfl) ?_
  intro p e s m args below meth c A C hX hP hK hD hA hE ls hl
  obtain ⟨hx, hb, hml, hown, hrt, hlk, hT⟩ := id C
  have hl : lv_has ls 2 [(0, .ref (a 0)), (1, .int (sl))] := hl
  obtain ⟨hSO, ⟨hcp1, hcp2⟩, ⟨hlo, hh1, hh2⟩, ⟨rX, hXR⟩, ⟨rY, hYR⟩, hEL⟩ := id hCR
  have hky := hSO.keyb
  have hdp := hXR.2.1.1
  have hp8 := p8 hdp
  have hld := hXR.2.2.2.1
  have hY := hYR.2.1
  have hYm := hY.2
  have hYp := hY.1
  have htk9 := hSO.1
  refine lv_aload_n hx hb dX4_bucketSize_0 rfl (lv_at hl 0 rfl) ?_
  refine lv_iload_n hx hb dX4_bucketSize_1 rfl (lv_at hl 1 rfl) ?_
  refine tq_callXU C hX (vx_runV C.fix (As := [.int (sl)]) (rest := []) ((c_X4_checkSlot l hl9 D cy a key val ord tk cp efi ela eco ene ldp dp dbl hlv spl mrg lfi lla lco lne lev ptr llo lhi lsp sl hdp) s.heap.size) (tq_cV (n := 1) C ml_X4_110 im_X4_checkSlot se_X4_checkSlot ini_X4 cd_X4_checkSlot ⟨by decide, by decide, by decide +kernel⟩ ⟨Nat.le_of_ble_eq_true rfl, Nat.le_of_ble_eq_true rfl⟩) ⟨tq_Px.blind, va_recv hK hP (ci := 4) (q0 := 0) rfl rfl, tq_preX C hK hP hD va_S.rf hA hE [0, 1, 2, 3, 4, 5, 6, 7, 8, 9, 10, 11, 12, 13, 14, 15, 16, 17] (by decide) rfl⟩ rfl rfl hl.1 rfl (lv_room (Nat.le_of_ble_eq_true rfl)) dX4_bucketSize_2 ⟨Nat.le_of_ble_eq_true rfl, Nat.le_of_ble_eq_true rfl⟩) (fun _ h => h) (fun hr2 => ?_)
  obtain ⟨k, hk, rfl⟩ := hr2
  have hk2 : k < 256 := by omega
  have hlk := hXR.2.2.1 k hk
  have hd8 : dep k ≤ 8 := by have := hXR.2.1.2.1 k hk2; omega
  refine lv_aload_n hx hb dX4_bucketSize_5 rfl (lv_at hl 0 rfl) ?_
  refine tq_get (C0 := RX4) (T := TX4) (N := 3) (ci := 4) (k := 1) C gX4 inX4 rfl (by decide) rfl fl_X4_21 hK hP 0 rfl rfl dX4_bucketSize_6 ?_
  refine tq_getN (C0 := RX0) (T := TX0) (N := 8) (ci := 0) (k := 1) C gX0 inX0 rfl (by decide) rfl fn_X4_116 hK hP 2 rfl rfl dX4_bucketSize_9 ?_
  refine lv_aload_n hx hb dX4_bucketSize_12 rfl (lv_at hl 0 rfl) ?_
  refine tq_get (C0 := RX4) (T := TX4) (N := 3) (ci := 4) (k := 1) C gX4 inX4 rfl (by decide) rfl fl_X4_21 hK hP 0 rfl rfl dX4_bucketSize_13 ?_
  refine lv_iload_n hx hb dX4_bucketSize_16 rfl (lv_at hl 1 rfl) ?_
  refine tq_callF (va_runV C.fix (As := [.int (nI (k))]) (rest := [.ref (a 7)]) (c_X0_rowAt l D cy a key val ord tk cp efi ela eco ene ldp dp dbl hlv spl mrg lfi lla lco lne lev ptr llo lhi lsp k hld hk2) (tq_cV (n := 1) C ml_X4_120 im_X0_rowAt se_X0_rowAt ini_X0 cd_X0_rowAt ⟨by decide, by decide, by decide +kernel⟩ ⟨Nat.le_of_ble_eq_true rfl, Nat.le_of_ble_eq_true rfl⟩) ⟨tq_Pf.blind, va_recv hK hP (ci := 0) (q0 := 2) rfl rfl, tq_preF C hK hP⟩ rfl rfl hl.1 rfl (lv_room (Nat.le_of_ble_eq_true rfl)) dX4_bucketSize_17 ⟨Nat.le_of_ble_eq_true rfl, Nat.le_of_ble_eq_true rfl⟩) (fun r17 hr17 => ?_)
  obtain rfl := hr17
  refine tq_top (y := nI (k % 2 ^ dep k)) (by rw [hlk]) ?_
  refine tq_callF (va_runV C.fix (As := [.int (nI (k % 2 ^ dep k))]) (rest := []) (c_X2_count l D cy (a 7) (a 10) (a 11) (a 12) (a 13) (a 1) (a 4) (a 5) (a 6) efi ela eco ene key tk cp (k % 2 ^ dep k) (m2 hd8)) (tq_cV (n := 1) C ml_X4_123 im_X2_count se_X2_count ini_X2 cd_X2_count ⟨by decide, by decide, by decide +kernel⟩ ⟨Nat.le_of_ble_eq_true rfl, Nat.le_of_ble_eq_true rfl⟩) ⟨tq_Pf.blind, va_recv hK hP (ci := 2) (q0 := 7) rfl rfl, tq_preF C hK (hP.sub [7, 10, 11, 12, 13, 1, 4] rfl)⟩ rfl rfl hl.1 rfl (lv_room (Nat.le_of_ble_eq_true rfl)) dX4_bucketSize_20 ⟨Nat.le_of_ble_eq_true rfl, Nat.le_of_ble_eq_true rfl⟩) (fun r20 hr20 => ?_)
  obtain rfl := hr20
  exact tq_xfret (v := (nI (eco (k % 2 ^ dep k)))) C rfl (⟨k, hk, rfl, by rw [hXR.cnt hk2]; rfl⟩) dX4_bucketSize_23
set_option maxHeartbeats 4000000 in
set_option maxRecDepth 100000 in
theorem c_X4_keyAt (l : Launch) (hl9 : l.stackTraces = false) (D : va_G) (cy : ClassId) (a : Nat → Nat) (key : Nat → Nat) (val : Nat → Nat) (ord : Nat → Nat) (tk : Nat) (cp : Nat) (efi : Nat → Nat) (ela : Nat → Nat) (eco : Nat → Nat) (ene : Nat → Nat) (ldp : Nat → Nat) (dp : Nat) (dbl : Int32) (hlv : Int32) (spl : Int32) (mrg : Int32) (lfi : Nat → Nat) (lla : Nat → Nat) (lco : Nat → Nat) (lne : Nat → Nat) (lev : Nat) (ptr : Nat) (llo : Nat) (lhi : Nat) (lsp : Int32) (sl : Int32) (pl : Int32) (dep : Nat → Nat) (E L : List Nat) (hCR : CR key val ord tk cp efi ela eco ene ldp dp lfi lla lco lne lev ptr llo lhi dep E L)  : tq_XF l yX4_keyAt cX4_keyAt 3 (some .int) 8 126 D cy (wC cy a key val ord tk cp efi ela eco ene ldp dp dbl hlv spl mrg lfi lla lco lne lev ptr llo lhi lsp) [.ref (a 0), .int (sl), .int (pl)] (fun r => ∃ k, k < 2 ^ dp ∧ sl = nI k ∧ ∃ p, p < (clB E k (dep k)).length ∧ pl = nI p ∧ r = nI ((clB E k (dep k)).getD p 0)) (fun E9 => E9 = "java/lang/IndexOutOfBoundsException" ∧ ¬ ∃ k p : Nat, k < 2 ^ dp ∧ sl = nI k ∧ p < (clB E k (dep k)).length ∧ pl = nI p) := by
  refine tq_XF.mk (by decide) (Nat.le_of_ble_eq_true rfl) ?_
  intro p e s m args below meth c A C hX hP hK hD hA hE ls hl
  obtain ⟨hx, hb, hml, hown, hrt, hlk, hT⟩ := id C
  have hl : lv_has ls 3 [(0, .ref (a 0)), (1, .int (sl)), (2, .int (pl))] := hl
  obtain ⟨hSO, ⟨hcp1, hcp2⟩, ⟨hlo, hh1, hh2⟩, ⟨rX, hXR⟩, ⟨rY, hYR⟩, hEL⟩ := id hCR
  have hky := hSO.keyb
  have hdp := hXR.2.1.1
  have hp8 := p8 hdp
  have hld := hXR.2.2.2.1
  have hY := hYR.2.1
  have hYm := hY.2
  have hYp := hY.1
  have htk9 := hSO.1
  refine lv_aload_n hx hb dX4_keyAt_0 rfl (lv_at hl 0 rfl) ?_
  refine lv_iload_n hx hb dX4_keyAt_1 rfl (lv_at hl 1 rfl) ?_
  refine tq_callXU C hX (vx_runV C.fix (As := [.int (sl)]) (rest := []) ((c_X4_checkSlot l hl9 D cy a key val ord tk cp efi ela eco ene ldp dp dbl hlv spl mrg lfi lla lco lne lev ptr llo lhi lsp sl hdp) s.heap.size) (tq_cV (n := 1) C ml_X4_110 im_X4_checkSlot se_X4_checkSlot ini_X4 cd_X4_checkSlot ⟨by decide, by decide, by decide +kernel⟩ ⟨Nat.le_of_ble_eq_true rfl, Nat.le_of_ble_eq_true rfl⟩) ⟨tq_Px.blind, va_recv hK hP (ci := 4) (q0 := 0) rfl rfl, tq_preX C hK hP hD va_S.rf hA hE [0, 1, 2, 3, 4, 5, 6, 7, 8, 9, 10, 11, 12, 13, 14, 15, 16, 17] (by decide) rfl⟩ rfl rfl hl.1 rfl (lv_room (Nat.le_of_ble_eq_true rfl)) dX4_keyAt_2 ⟨Nat.le_of_ble_eq_true rfl, Nat.le_of_ble_eq_true rfl⟩) (fun E9 h => ⟨h.1, fun ⟨k, p, a, b, _⟩ => h.2 ⟨k, a, b⟩⟩) (fun hr2 => ?_)
  obtain ⟨k, hk, rfl⟩ := hr2
  have hk2 : k < 256 := by omega
  have hlk := hXR.2.2.1 k hk
  have hd8 : dep k ≤ 8 := by have := hXR.2.1.2.1 k hk2; omega
  have hcl := hXR.cls hk2
  have hcn : (clB E k (dep k)).length = (rX (k % 2 ^ dep k)).length := by rw [← hcl, List.length_map]
  refine lv_aload_n hx hb dX4_keyAt_5 rfl (lv_at hl 0 rfl) ?_
  refine lv_aload_n hx hb dX4_keyAt_6 rfl (lv_at hl 0 rfl) ?_
  refine tq_get (C0 := RX4) (T := TX4) (N := 3) (ci := 4) (k := 1) C gX4 inX4 rfl (by decide) rfl fl_X4_21 hK hP 0 rfl rfl dX4_keyAt_7 ?_
  refine tq_getN (C0 := RX0) (T := TX0) (N := 8) (ci := 0) (k := 1) C gX0 inX0 rfl (by decide) rfl fn_X4_116 hK hP 2 rfl rfl dX4_keyAt_10 ?_
  refine lv_aload_n hx hb dX4_keyAt_13 rfl (lv_at hl 0 rfl) ?_
  refine tq_get (C0 := RX4) (T := TX4) (N := 3) (ci := 4) (k := 1) C gX4 inX4 rfl (by decide) rfl fl_X4_21 hK hP 0 rfl rfl dX4_keyAt_14 ?_
  refine lv_iload_n hx hb dX4_keyAt_17 rfl (lv_at hl 1 rfl) ?_
  refine tq_callF (va_runV C.fix (As := [.int (nI (k))]) (rest := [.ref (a 7), .ref (a 0)]) (c_X0_rowAt l D cy a key val ord tk cp efi ela eco ene ldp dp dbl hlv spl mrg lfi lla lco lne lev ptr llo lhi lsp k hld hk2) (tq_cV (n := 1) C ml_X4_120 im_X0_rowAt se_X0_rowAt ini_X0 cd_X0_rowAt ⟨by decide, by decide, by decide +kernel⟩ ⟨Nat.le_of_ble_eq_true rfl, Nat.le_of_ble_eq_true rfl⟩) ⟨tq_Pf.blind, va_recv hK hP (ci := 0) (q0 := 2) rfl rfl, tq_preF C hK hP⟩ rfl rfl hl.1 rfl (lv_room (Nat.le_of_ble_eq_true rfl)) dX4_keyAt_18 ⟨Nat.le_of_ble_eq_true rfl, Nat.le_of_ble_eq_true rfl⟩) (fun r18 hr18 => ?_)
  obtain rfl := hr18
  refine tq_top (y := nI (k % 2 ^ dep k)) (by rw [hlk]) ?_
  refine lv_iload_n hx hb dX4_keyAt_21 rfl (lv_at hl 2 rfl) ?_
  refine tq_callXF C hX (vx_runV C.fix (As := [.ref (a 7), .int (nI (k % 2 ^ dep k)), .int (pl)]) (rest := []) ((c_X4_keyOfRow_x l hl9 D cy a key val ord tk cp efi ela eco ene ldp dp dbl hlv spl mrg lfi lla lco lne lev ptr llo lhi lsp (k % 2 ^ dep k) pl rX hky (m2 hd8) hXR.1) s.heap.size) (tq_cV (n := 3) C ml_X4_128 im_X4_keyOfRow se_X4_keyOfRow ini_X4 cd_X4_keyOfRow ⟨by decide, by decide, by decide +kernel⟩ ⟨Nat.le_of_ble_eq_true rfl, Nat.le_of_ble_eq_true rfl⟩) ⟨tq_Px.blind, va_recv hK hP (ci := 4) (q0 := 0) rfl rfl, tq_preX C hK hP hD va_S.rf hA hE [0, 1, 2, 3, 4, 5, 6, 7, 8, 9, 10, 11, 12, 13, 14, 15, 16, 17] (by decide) rfl⟩ rfl rfl hl.1 rfl (lv_room (Nat.le_of_ble_eq_true rfl)) dX4_keyAt_22 ⟨Nat.le_of_ble_eq_true rfl, Nat.le_of_ble_eq_true rfl⟩) (fun E9 h => ⟨h.1, fun ⟨k7, p, a1, b1, c1, d1⟩ => h.2 ⟨p, by rw [← (nI_eq (by omega) (by omega)).mp b1, hcn] at c1; exact c1, d1⟩⟩) (fun r22 hr22 => ?_)
  exact tq_xfret (v := (r22)) C rfl (by obtain ⟨p, h1, h2, h3⟩ := hr22; exact ⟨k, hk, rfl, p, by rw [hcn]; exact h1, h2, by rw [h3, ← getD_map (key := key) h1, hcl]⟩) dX4_keyAt_25
set_option maxHeartbeats 4000000 in
set_option maxRecDepth 100000 in
theorem c_X4_slotOf (l : Launch) (hl9 : l.stackTraces = false) (D : va_G) (cy : ClassId) (a : Nat → Nat) (key : Nat → Nat) (val : Nat → Nat) (ord : Nat → Nat) (tk : Nat) (cp : Nat) (efi : Nat → Nat) (ela : Nat → Nat) (eco : Nat → Nat) (ene : Nat → Nat) (ldp : Nat → Nat) (dp : Nat) (dbl : Int32) (hlv : Int32) (spl : Int32) (mrg : Int32) (lfi : Nat → Nat) (lla : Nat → Nat) (lco : Nat → Nat) (lne : Nat → Nat) (lev : Nat) (ptr : Nat) (llo : Nat) (lhi : Nat) (lsp : Int32) (kx : Int32) (dep : Nat → Nat) (E L : List Nat) (hCR : CR key val ord tk cp efi ela eco ene ldp dp lfi lla lco lne lev ptr llo lhi dep E L)  : tq_XF l yX4_slotOf cX4_slotOf 2 (some .int) 8 124 D cy (wC cy a key val ord tk cp efi ela eco ene ldp dp dbl hlv spl mrg lfi lla lco lne lev ptr llo lhi lsp) [.ref (a 0), .int (kx)] (fun r => ∃ k, k < 65536 ∧ kx = nI k ∧ r = nI (hs k % 2 ^ dp)) (fun E9 => E9 = "java/lang/IllegalArgumentException" ∧ ¬ isKey kx) := by
  refine tq_XF.mk (by decide) (Nat.le_of_ble_eq_true rfl) ?_
  intro p e s m args below meth c A C hX hP hK hD hA hE ls hl
  obtain ⟨hx, hb, hml, hown, hrt, hlk, hT⟩ := id C
  have hl : lv_has ls 2 [(0, .ref (a 0)), (1, .int (kx))] := hl
  obtain ⟨hSO, ⟨hcp1, hcp2⟩, ⟨hlo, hh1, hh2⟩, ⟨rX, hXR⟩, ⟨rY, hYR⟩, hEL⟩ := id hCR
  have hky := hSO.keyb
  have hdp := hXR.2.1.1
  have hp8 := p8 hdp
  have hld := hXR.2.2.2.1
  have hY := hYR.2.1
  have hYm := hY.2
  have hYp := hY.1
  have htk9 := hSO.1
  refine lv_iload_n hx hb dX4_slotOf_0 rfl (lv_at hl 1 rfl) ?_
  refine tq_callXU C hX (vx_runS C.fix (As := [.int (kx)]) (rest := []) ((c_X4_checkKey l hl9 D cy kx) s.heap.size) (tq_cS (n := 1) C ml_X4_32 sm_X4_checkKey ini_X4 cd_X4_checkKey ⟨by decide, by decide, by decide +kernel⟩ ⟨Nat.le_of_ble_eq_true rfl, Nat.le_of_ble_eq_true rfl⟩) ⟨tq_Px.blind, tq_preX C hK hP hD va_S.rf hA hE [] (by decide) rfl⟩ rfl rfl hl.1 rfl (lv_room (Nat.le_of_ble_eq_true rfl)) dX4_slotOf_1 ⟨Nat.le_of_ble_eq_true rfl, Nat.le_of_ble_eq_true rfl⟩) (fun _ h => h) (fun hr1 => ?_)
  obtain ⟨k, hk, rfl⟩ := hr1
  refine lv_aload_n hx hb dX4_slotOf_4 rfl (lv_at hl 0 rfl) ?_
  refine tq_get (C0 := RX4) (T := TX4) (N := 3) (ci := 4) (k := 1) C gX4 inX4 rfl (by decide) rfl fl_X4_21 hK hP 0 rfl rfl dX4_slotOf_5 ?_
  refine lv_iload_n hx hb dX4_slotOf_8 rfl (lv_at hl 1 rfl) ?_
  refine tq_callF (va_runV C.fix (As := [.int (nI (k))]) (rest := []) (c_X0_slotFor l D cy a key val ord tk cp efi ela eco ene ldp dp dbl hlv spl mrg lfi lla lco lne lev ptr llo lhi lsp k hdp hk) (tq_cV (n := 1) C ml_X4_132 im_X0_slotFor se_X0_slotFor ini_X0 cd_X0_slotFor ⟨by decide, by decide, by decide +kernel⟩ ⟨Nat.le_of_ble_eq_true rfl, Nat.le_of_ble_eq_true rfl⟩) ⟨tq_Pf.blind, va_recv hK hP (ci := 0) (q0 := 2) rfl rfl, tq_preF C hK hP⟩ rfl rfl hl.1 rfl (lv_room (Nat.le_of_ble_eq_true rfl)) dX4_slotOf_9 ⟨Nat.le_of_ble_eq_true rfl, Nat.le_of_ble_eq_true rfl⟩) (fun r9 hr9 => ?_)
  obtain rfl := hr9
  exact tq_xfret (v := (nI (hs k % 2 ^ dp))) C rfl (⟨k, hk, rfl, rfl⟩) dX4_slotOf_12
set_option maxHeartbeats 4000000 in
set_option maxRecDepth 100000 in
theorem c_X4_buddyOf (l : Launch) (hl9 : l.stackTraces = false) (D : va_G) (cy : ClassId) (a : Nat → Nat) (key : Nat → Nat) (val : Nat → Nat) (ord : Nat → Nat) (tk : Nat) (cp : Nat) (efi : Nat → Nat) (ela : Nat → Nat) (eco : Nat → Nat) (ene : Nat → Nat) (ldp : Nat → Nat) (dp : Nat) (dbl : Int32) (hlv : Int32) (spl : Int32) (mrg : Int32) (lfi : Nat → Nat) (lla : Nat → Nat) (lco : Nat → Nat) (lne : Nat → Nat) (lev : Nat) (ptr : Nat) (llo : Nat) (lhi : Nat) (lsp : Int32) (sl : Int32) (dep : Nat → Nat) (E L : List Nat) (hCR : CR key val ord tk cp efi ela eco ene ldp dp lfi lla lco lne lev ptr llo lhi dep E L)  : tq_XF l yX4_buddyOf cX4_buddyOf 2 (some .int) 8 124 D cy (wC cy a key val ord tk cp efi ela eco ene ldp dp dbl hlv spl mrg lfi lla lco lne lev ptr llo lhi lsp) [.ref (a 0), .int (sl)] (fun r => ∃ k, k < 2 ^ dp ∧ sl = nI k ∧ ((dep k = 0 ∧ r = -1) ∨ (0 < dep k ∧ dep (k ^^^ 2 ^ (dep k - 1)) = dep k ∧ r = nI ((k ^^^ 2 ^ (dep k - 1)) % 2 ^ dep k)) ∨ (0 < dep k ∧ dep (k ^^^ 2 ^ (dep k - 1)) ≠ dep k ∧ r = -1))) (fun E9 => E9 = "java/lang/IndexOutOfBoundsException" ∧ ¬ ∃ k : Nat, k < 2 ^ dp ∧ sl = nI k) := by
  refine tq_XF.mk (by decide) (Nat.le_of_ble_eq_true rfl) ?_
  intro p e s m args below meth c A C hX hP hK hD hA hE ls hl
  obtain ⟨hx, hb, hml, hown, hrt, hlk, hT⟩ := id C
  have hl : lv_has ls 2 [(0, .ref (a 0)), (1, .int (sl))] := hl
  obtain ⟨hSO, ⟨hcp1, hcp2⟩, ⟨hlo, hh1, hh2⟩, ⟨rX, hXR⟩, ⟨rY, hYR⟩, hEL⟩ := id hCR
  have hky := hSO.keyb
  have hdp := hXR.2.1.1
  have hp8 := p8 hdp
  have hld := hXR.2.2.2.1
  have hY := hYR.2.1
  have hYm := hY.2
  have hYp := hY.1
  have htk9 := hSO.1
  refine lv_aload_n hx hb dX4_buddyOf_0 rfl (lv_at hl 0 rfl) ?_
  refine lv_iload_n hx hb dX4_buddyOf_1 rfl (lv_at hl 1 rfl) ?_
  refine tq_callXU C hX (vx_runV C.fix (As := [.int (sl)]) (rest := []) ((c_X4_checkSlot l hl9 D cy a key val ord tk cp efi ela eco ene ldp dp dbl hlv spl mrg lfi lla lco lne lev ptr llo lhi lsp sl hdp) s.heap.size) (tq_cV (n := 1) C ml_X4_110 im_X4_checkSlot se_X4_checkSlot ini_X4 cd_X4_checkSlot ⟨by decide, by decide, by decide +kernel⟩ ⟨Nat.le_of_ble_eq_true rfl, Nat.le_of_ble_eq_true rfl⟩) ⟨tq_Px.blind, va_recv hK hP (ci := 4) (q0 := 0) rfl rfl, tq_preX C hK hP hD va_S.rf hA hE [0, 1, 2, 3, 4, 5, 6, 7, 8, 9, 10, 11, 12, 13, 14, 15, 16, 17] (by decide) rfl⟩ rfl rfl hl.1 rfl (lv_room (Nat.le_of_ble_eq_true rfl)) dX4_buddyOf_2 ⟨Nat.le_of_ble_eq_true rfl, Nat.le_of_ble_eq_true rfl⟩) (fun _ h => h) (fun hr2 => ?_)
  obtain ⟨k, hk, rfl⟩ := hr2
  have hk2 : k < 256 := by omega
  have hlk := hXR.2.2.1 k hk
  have hd8 : dep k ≤ 8 := by have := hXR.2.1.2.1 k hk2; omega
  refine lv_aload_n hx hb dX4_buddyOf_5 rfl (lv_at hl 0 rfl) ?_
  refine tq_get (C0 := RX4) (T := TX4) (N := 3) (ci := 4) (k := 1) C gX4 inX4 rfl (by decide) rfl fl_X4_21 hK hP 0 rfl rfl dX4_buddyOf_6 ?_
  refine lv_iload_n hx hb dX4_buddyOf_9 rfl (lv_at hl 1 rfl) ?_
  refine tq_callF (va_runV C.fix (As := [.int (nI (k))]) (rest := []) (c_X0_buddyAt l D cy a key val ord tk cp efi ela eco ene ldp dp dbl hlv spl mrg lfi lla lco lne lev ptr llo lhi lsp k hld hk2) (tq_cV (n := 1) C ml_X4_135 im_X0_buddyAt se_X0_buddyAt ini_X0 cd_X0_buddyAt ⟨by decide, by decide, by decide +kernel⟩ ⟨Nat.le_of_ble_eq_true rfl, Nat.le_of_ble_eq_true rfl⟩) ⟨tq_Pf.blind, va_recv hK hP (ci := 0) (q0 := 2) rfl rfl, tq_preF C hK hP⟩ rfl rfl hl.1 rfl (lv_room (Nat.le_of_ble_eq_true rfl)) dX4_buddyOf_10 ⟨Nat.le_of_ble_eq_true rfl, Nat.le_of_ble_eq_true rfl⟩) (fun r10 hr10 => ?_)
  exact tq_xfret (v := (r10)) C rfl (⟨k, hk, rfl, by rw [hlk] at hr10; exact hr10.imp id (fun q => q.imp (fun w => ⟨w.1, (hXR.bud hk w.1).2.mp w.2.1, by rw [w.2.2, (hXR.bud hk w.1).1]⟩) (fun w => ⟨w.1, fun y => w.2.1 ((hXR.bud hk w.1).2.mpr y), w.2.2⟩))⟩) dX4_buddyOf_13
set_option maxHeartbeats 4000000 in
set_option maxRecDepth 100000 in
theorem c_X4_probes (l : Launch) (hl9 : l.stackTraces = false) (D : va_G) (cy : ClassId) (a : Nat → Nat) (key : Nat → Nat) (val : Nat → Nat) (ord : Nat → Nat) (tk : Nat) (cp : Nat) (efi : Nat → Nat) (ela : Nat → Nat) (eco : Nat → Nat) (ene : Nat → Nat) (ldp : Nat → Nat) (dp : Nat) (dbl : Int32) (hlv : Int32) (spl : Int32) (mrg : Int32) (lfi : Nat → Nat) (lla : Nat → Nat) (lco : Nat → Nat) (lne : Nat → Nat) (lev : Nat) (ptr : Nat) (llo : Nat) (lhi : Nat) (lsp : Int32) (kx : Int32) (dep : Nat → Nat) (E L : List Nat) (hCR : CR key val ord tk cp efi ela eco ene ldp dp lfi lla lco lne lev ptr llo lhi dep E L)  : tq_XF l yX4_probes cX4_probes 2 (some .int) 8 124 D cy (wC cy a key val ord tk cp efi ela eco ene ldp dp dbl hlv spl mrg lfi lla lco lne lev ptr llo lhi lsp) [.ref (a 0), .int (kx)] (fun r => ∃ k, k < 65536 ∧ kx = nI k ∧ prP (clB E (hs k % 256) (dep (hs k % 256))) cp k r) (fun E9 => E9 = "java/lang/IllegalArgumentException" ∧ ¬ isKey kx) := by
  refine tq_XF.mk (by decide) (Nat.le_of_ble_eq_true rfl) ?_
  intro p e s m args below meth c A C hX hP hK hD hA hE ls hl
  obtain ⟨hx, hb, hml, hown, hrt, hlk, hT⟩ := id C
  have hl : lv_has ls 2 [(0, .ref (a 0)), (1, .int (kx))] := hl
  obtain ⟨hSO, ⟨hcp1, hcp2⟩, ⟨hlo, hh1, hh2⟩, ⟨rX, hXR⟩, ⟨rY, hYR⟩, hEL⟩ := id hCR
  have hky := hSO.keyb
  have hdp := hXR.2.1.1
  have hp8 := p8 hdp
  have hld := hXR.2.2.2.1
  have hY := hYR.2.1
  have hYm := hY.2
  have hYp := hY.1
  have htk9 := hSO.1
  refine lv_iload_n hx hb dX4_probes_0 rfl (lv_at hl 1 rfl) ?_
  refine tq_callXU C hX (vx_runS C.fix (As := [.int (kx)]) (rest := []) ((c_X4_checkKey l hl9 D cy kx) s.heap.size) (tq_cS (n := 1) C ml_X4_32 sm_X4_checkKey ini_X4 cd_X4_checkKey ⟨by decide, by decide, by decide +kernel⟩ ⟨Nat.le_of_ble_eq_true rfl, Nat.le_of_ble_eq_true rfl⟩) ⟨tq_Px.blind, tq_preX C hK hP hD va_S.rf hA hE [] (by decide) rfl⟩ rfl rfl hl.1 rfl (lv_room (Nat.le_of_ble_eq_true rfl)) dX4_probes_1 ⟨Nat.le_of_ble_eq_true rfl, Nat.le_of_ble_eq_true rfl⟩) (fun _ h => h) (fun hr1 => ?_)
  obtain ⟨k, hk, rfl⟩ := hr1
  refine lv_aload_n hx hb dX4_probes_4 rfl (lv_at hl 0 rfl) ?_
  refine tq_get (C0 := RX4) (T := TX4) (N := 3) (ci := 4) (k := 1) C gX4 inX4 rfl (by decide) rfl fl_X4_21 hK hP 0 rfl rfl dX4_probes_5 ?_
  refine tq_getN (C0 := RX0) (T := TX0) (N := 8) (ci := 0) (k := 1) C gX0 inX0 rfl (by decide) rfl fn_X4_116 hK hP 2 rfl rfl dX4_probes_8 ?_
  refine lv_aload_n hx hb dX4_probes_11 rfl (lv_at hl 0 rfl) ?_
  refine tq_get (C0 := RX4) (T := TX4) (N := 3) (ci := 4) (k := 1) C gX4 inX4 rfl (by decide) rfl fl_X4_21 hK hP 0 rfl rfl dX4_probes_12 ?_
  refine lv_iload_n hx hb dX4_probes_15 rfl (lv_at hl 1 rfl) ?_
  refine tq_callF (va_runV C.fix (As := [.int (nI (k))]) (rest := [.ref (a 7)]) (c_X0_rowFor l D cy a key val ord tk cp efi ela eco ene ldp dp dbl hlv spl mrg lfi lla lco lne lev ptr llo lhi lsp k hdp hld hk) (tq_cV (n := 1) C ml_X4_144 im_X0_rowFor se_X0_rowFor ini_X0 cd_X0_rowFor ⟨by decide, by decide, by decide +kernel⟩ ⟨Nat.le_of_ble_eq_true rfl, Nat.le_of_ble_eq_true rfl⟩) ⟨tq_Pf.blind, va_recv hK hP (ci := 0) (q0 := 2) rfl rfl, tq_preF C hK hP⟩ rfl rfl hl.1 rfl (lv_room (Nat.le_of_ble_eq_true rfl)) dX4_probes_16 ⟨Nat.le_of_ble_eq_true rfl, Nat.le_of_ble_eq_true rfl⟩) (fun r16 hr16 => ?_)
  obtain rfl := hr16
  refine lv_iload_n hx hb dX4_probes_19 rfl (lv_at hl 1 rfl) ?_
  refine tq_callF (va_runV C.fix (As := [.int (nI (xrow ldp dp k)), .int (nI (k))]) (rest := []) (c_X2_pagesRead l D cy (a 7) (a 10) (a 11) (a 12) (a 13) (a 1) (a 4) (a 5) (a 6) efi ela eco ene key tk cp (xrow ldp dp k) k rX hXR.1 hky hcp1 hcp2 (xrow_lt hdp) hk) (tq_cV (n := 2) C ml_X4_147 im_X2_pagesRead se_X2_pagesRead ini_X2 cd_X2_pagesRead ⟨by decide, by decide, by decide +kernel⟩ ⟨Nat.le_of_ble_eq_true rfl, Nat.le_of_ble_eq_true rfl⟩) ⟨tq_Pf.blind, va_recv hK hP (ci := 2) (q0 := 7) rfl rfl, tq_preF C hK (hP.sub [7, 10, 11, 12, 13, 1, 4] rfl)⟩ rfl rfl hl.1 rfl (lv_room (Nat.le_of_ble_eq_true rfl)) dX4_probes_20 ⟨Nat.le_of_ble_eq_true rfl, Nat.le_of_ble_eq_true rfl⟩) (fun r20 hr20 => ?_)
  exact tq_xfret (v := (r20)) C rfl (⟨k, hk, rfl, by rw [← hXR.cls (mod_lt256 _), ← rowOf_x (by have := hXR.2.1.2.1 _ (mod_lt256 (hs k)); omega), ← (hXR.at k).1]; exact prP_of hr20⟩) dX4_probes_23
set_option maxHeartbeats 4000000 in
set_option maxRecDepth 100000 in
theorem c_X4_slotAt (l : Launch) (hl9 : l.stackTraces = false) (D : va_G) (cy : ClassId) (a : Nat → Nat) (key : Nat → Nat) (val : Nat → Nat) (ord : Nat → Nat) (tk : Nat) (cp : Nat) (efi : Nat → Nat) (ela : Nat → Nat) (eco : Nat → Nat) (ene : Nat → Nat) (ldp : Nat → Nat) (dp : Nat) (dbl : Int32) (hlv : Int32) (spl : Int32) (mrg : Int32) (lfi : Nat → Nat) (lla : Nat → Nat) (lco : Nat → Nat) (lne : Nat → Nat) (lev : Nat) (ptr : Nat) (llo : Nat) (lhi : Nat) (lsp : Int32) (cu : Int32) (dep : Nat → Nat) (E L : List Nat) (hCR : CR key val ord tk cp efi ela eco ene ldp dp lfi lla lco lne lev ptr llo lhi dep E L)  : tq_XF l yX4_slotAt cX4_slotAt 2 (some .int) 7 104 D cy (wC cy a key val ord tk cp efi ela eco ene ldp dp dbl hlv spl mrg lfi lla lco lne lev ptr llo lhi lsp) [.ref (a 0), .int (cu)] (fun r => ∃ k, k < 256 ∧ cu = nI k ∧ r = nI (k % 2 ^ dp)) (fun E9 => E9 = "java/lang/IllegalArgumentException" ∧ ¬ ∃ k : Nat, k < 256 ∧ cu = nI k) := by
  refine tq_XF.mk (by decide) (Nat.le_of_ble_eq_true rfl) ?_
  intro p e s m args below meth c A C hX hP hK hD hA hE ls hl
  obtain ⟨hx, hb, hml, hown, hrt, hlk, hT⟩ := id C
  have hl : lv_has ls 2 [(0, .ref (a 0)), (1, .int (cu))] := hl
  obtain ⟨hSO, ⟨hcp1, hcp2⟩, ⟨hlo, hh1, hh2⟩, ⟨rX, hXR⟩, ⟨rY, hYR⟩, hEL⟩ := id hCR
  have hky := hSO.keyb
  have hdp := hXR.2.1.1
  have hp8 := p8 hdp
  have hld := hXR.2.2.2.1
  have hY := hYR.2.1
  have hYm := hY.2
  have hYp := hY.1
  have htk9 := hSO.1
  refine lv_iload_n hx hb dX4_slotAt_0 rfl (lv_at hl 1 rfl) ?_
  refine lv_iconst (v := nI 0) hx hb dX4_slotAt_1 (by decide) ?_
  refine lv_sipush (v := nI 255) hx hb dX4_slotAt_2 (by decide) ?_
  refine tq_callXU C hX (vx_runS C.fix (As := [.int (cu), .int (nI 0), .int (nI 255)]) (rest := []) ((c_X4_checkRange l hl9 D cy cu (nI 0) (nI 255)) s.heap.size) (tq_cS (n := 3) C ml_X4_37 sm_X4_checkRange ini_X4 cd_X4_checkRange ⟨by decide, by decide, by decide +kernel⟩ ⟨Nat.le_of_ble_eq_true rfl, Nat.le_of_ble_eq_true rfl⟩) ⟨tq_Px.blind, tq_preX C hK hP hD va_S.rf hA hE [] (by decide) rfl⟩ rfl rfl hl.1 rfl (lv_room (Nat.le_of_ble_eq_true rfl)) dX4_slotAt_5 ⟨Nat.le_of_ble_eq_true rfl, Nat.le_of_ble_eq_true rfl⟩) (fun E9 h => ⟨h.1, fun ⟨k, hk, e⟩ => tq_rngN (x := cu) (M := 255) (by decide) (by rw [← nI_0]; exact h.2) ⟨k, by omega, e⟩⟩) (fun hr5 => ?_)
  obtain ⟨k, hk, rfl⟩ := tq_rng (x := cu) (M := 255) (by decide) (by rw [← nI_0]; exact hr5.1) hr5.2
  refine lv_iload_n hx hb dX4_slotAt_8 rfl (lv_at hl 1 rfl) ?_
  refine lv_aload_n hx hb dX4_slotAt_9 rfl (lv_at hl 0 rfl) ?_
  refine tq_get (C0 := RX4) (T := TX4) (N := 3) (ci := 4) (k := 1) C gX4 inX4 rfl (by decide) rfl fl_X4_21 hK hP 0 rfl rfl dX4_slotAt_10 ?_
  refine tq_getN (C0 := RX0) (T := TX0) (N := 8) (ci := 0) (k := 3) C gX0 inX0 rfl (by decide) rfl fn_X4_104 hK hP 2 rfl rfl dX4_slotAt_13 ?_
  refine tq_callF (va_runS C.fix (As := [.int (nI (k)), .int (nI (dp))]) (rest := []) (c_X4_lowBits l D cy k dp (by omega) (by omega)) (tq_cS (n := 2) C ml_X4_162 sm_X4_lowBits ini_X4 cd_X4_lowBits ⟨by decide, by decide, by decide +kernel⟩ ⟨Nat.le_of_ble_eq_true rfl, Nat.le_of_ble_eq_true rfl⟩) ⟨tq_Pf.blind, tq_preF C hK (hP.sub [] rfl)⟩ rfl rfl hl.1 rfl (lv_room (Nat.le_of_ble_eq_true rfl)) dX4_slotAt_16 ⟨Nat.le_of_ble_eq_true rfl, Nat.le_of_ble_eq_true rfl⟩) (fun r16 hr16 => ?_)
  obtain rfl := hr16
  exact tq_xfret (v := (nI (k % 2 ^ dp))) C rfl (⟨k, by omega, rfl, rfl⟩) dX4_slotAt_19
set_option maxHeartbeats 4000000 in
set_option maxRecDepth 100000 in
theorem c_X4_nextCursor (l : Launch) (hl9 : l.stackTraces = false) (D : va_G) (cy : ClassId) (a : Nat → Nat) (key : Nat → Nat) (val : Nat → Nat) (ord : Nat → Nat) (tk : Nat) (cp : Nat) (efi : Nat → Nat) (ela : Nat → Nat) (eco : Nat → Nat) (ene : Nat → Nat) (ldp : Nat → Nat) (dp : Nat) (dbl : Int32) (hlv : Int32) (spl : Int32) (mrg : Int32) (lfi : Nat → Nat) (lla : Nat → Nat) (lco : Nat → Nat) (lne : Nat → Nat) (lev : Nat) (ptr : Nat) (llo : Nat) (lhi : Nat) (lsp : Int32) (cu : Int32) (dep : Nat → Nat) (E L : List Nat) (hCR : CR key val ord tk cp efi ela eco ene ldp dp lfi lla lco lne lev ptr llo lhi dep E L)  : tq_XF l yX4_nextCursor cX4_nextCursor 4 (some .int) 7 104 D cy (wC cy a key val ord tk cp efi ela eco ene ldp dp dbl hlv spl mrg lfi lla lco lne lev ptr llo lhi lsp) [.ref (a 0), .int (cu)] (fun r => ∃ k, k < 256 ∧ cu = nI k ∧ r = nI (nxc (dep (k % 2 ^ dp)) k)) (fun E9 => E9 = "java/lang/IllegalArgumentException" ∧ ¬ ∃ k : Nat, k < 256 ∧ cu = nI k) := by
  refine tq_XF.mk (by decide) (Nat.le_of_ble_eq_true rfl) ?_
  intro p e s m args below meth c A C hX hP hK hD hA hE ls hl
  obtain ⟨hx, hb, hml, hown, hrt, hlk, hT⟩ := id C
  have hl : lv_has ls 4 [(0, .ref (a 0)), (1, .int (cu))] := hl
  obtain ⟨hSO, ⟨hcp1, hcp2⟩, ⟨hlo, hh1, hh2⟩, ⟨rX, hXR⟩, ⟨rY, hYR⟩, hEL⟩ := id hCR
  have hky := hSO.keyb
  have hdp := hXR.2.1.1
  have hp8 := p8 hdp
  have hld := hXR.2.2.2.1
  have hY := hYR.2.1
  have hYm := hY.2
  have hYp := hY.1
  have htk9 := hSO.1
  refine lv_iload_n hx hb dX4_nextCursor_0 rfl (lv_at hl 1 rfl) ?_
  refine lv_iconst (v := nI 0) hx hb dX4_nextCursor_1 (by decide) ?_
  refine lv_sipush (v := nI 255) hx hb dX4_nextCursor_2 (by decide) ?_
  refine tq_callXU C hX (vx_runS C.fix (As := [.int (cu), .int (nI 0), .int (nI 255)]) (rest := []) ((c_X4_checkRange l hl9 D cy cu (nI 0) (nI 255)) s.heap.size) (tq_cS (n := 3) C ml_X4_37 sm_X4_checkRange ini_X4 cd_X4_checkRange ⟨by decide, by decide, by decide +kernel⟩ ⟨Nat.le_of_ble_eq_true rfl, Nat.le_of_ble_eq_true rfl⟩) ⟨tq_Px.blind, tq_preX C hK hP hD va_S.rf hA hE [] (by decide) rfl⟩ rfl rfl hl.1 rfl (lv_room (Nat.le_of_ble_eq_true rfl)) dX4_nextCursor_5 ⟨Nat.le_of_ble_eq_true rfl, Nat.le_of_ble_eq_true rfl⟩) (fun E9 h => ⟨h.1, fun ⟨k, hk, e⟩ => tq_rngN (x := cu) (M := 255) (by decide) (by rw [← nI_0]; exact h.2) ⟨k, by omega, e⟩⟩) (fun hr5 => ?_)
  obtain ⟨k, hk, rfl⟩ := tq_rng (x := cu) (M := 255) (by decide) (by rw [← nI_0]; exact hr5.1) hr5.2
  refine lv_aload_n hx hb dX4_nextCursor_8 rfl (lv_at hl 0 rfl) ?_
  refine tq_get (C0 := RX4) (T := TX4) (N := 3) (ci := 4) (k := 1) C gX4 inX4 rfl (by decide) rfl fl_X4_21 hK hP 0 rfl rfl dX4_nextCursor_9 ?_
  refine lv_iload_n hx hb dX4_nextCursor_12 rfl (lv_at hl 1 rfl) ?_
  refine lv_aload_n hx hb dX4_nextCursor_13 rfl (lv_at hl 0 rfl) ?_
  refine tq_get (C0 := RX4) (T := TX4) (N := 3) (ci := 4) (k := 1) C gX4 inX4 rfl (by decide) rfl fl_X4_21 hK hP 0 rfl rfl dX4_nextCursor_14 ?_
  refine tq_getN (C0 := RX0) (T := TX0) (N := 8) (ci := 0) (k := 3) C gX0 inX0 rfl (by decide) rfl fn_X4_104 hK hP 2 rfl rfl dX4_nextCursor_17 ?_
  refine tq_callF (va_runS C.fix (As := [.int (nI (k)), .int (nI (dp))]) (rest := [.ref (a 2)]) (c_X4_lowBits l D cy k dp (by omega) (by omega)) (tq_cS (n := 2) C ml_X4_162 sm_X4_lowBits ini_X4 cd_X4_lowBits ⟨by decide, by decide, by decide +kernel⟩ ⟨Nat.le_of_ble_eq_true rfl, Nat.le_of_ble_eq_true rfl⟩) ⟨tq_Pf.blind, tq_preF C hK (hP.sub [] rfl)⟩ rfl rfl hl.1 rfl (lv_room (Nat.le_of_ble_eq_true rfl)) dX4_nextCursor_20 ⟨Nat.le_of_ble_eq_true rfl, Nat.le_of_ble_eq_true rfl⟩) (fun r20 hr20 => ?_)
  obtain rfl := hr20
  refine tq_callF (va_runV C.fix (As := [.int (nI (k % 2 ^ dp))]) (rest := []) (c_X0_depthAt l D cy a key val ord tk cp efi ela eco ene ldp dp dbl hlv spl mrg lfi lla lco lne lev ptr llo lhi lsp (k % 2 ^ dp) (m2 hdp)) (tq_cV (n := 1) C ml_X4_113 im_X0_depthAt se_X0_depthAt ini_X0 cd_X0_depthAt ⟨by decide, by decide, by decide +kernel⟩ ⟨Nat.le_of_ble_eq_true rfl, Nat.le_of_ble_eq_true rfl⟩) ⟨tq_Pf.blind, va_recv hK hP (ci := 0) (q0 := 2) rfl rfl, tq_preF C hK hP⟩ rfl rfl hl.1 rfl (lv_room (Nat.le_of_ble_eq_true rfl)) dX4_nextCursor_23 ⟨Nat.le_of_ble_eq_true rfl, Nat.le_of_ble_eq_true rfl⟩) (fun r23 hr23 => ?_)
  obtain rfl := hr23
  refine tq_top (y := nI (dep (k % 2 ^ dp))) (by rw [hXR.2.2.1 _ (Nat.mod_lt _ (Nat.two_pow_pos _))]) ?_
  have hd8 : dep (k % 2 ^ dp) ≤ 8 := by have := hXR.2.1.2.1 (k % 2 ^ dp) (m2 hdp); omega
  have hpd := p8 hd8
  have hrv := rv_lt k (dep (k % 2 ^ dp))
  refine lv_istore_n (lv' := [(2, .int (nI (dep (k % 2 ^ dp)))), (0, .ref (a 0)), (1, .int (nI (k)))]) hx hb dX4_nextCursor_26 rfl hl (by decide) rfl (fun ls hl => ?_)
  refine lv_iload_n hx hb dX4_nextCursor_27 rfl (lv_at hl 2 rfl) ?_
  refine lv_iload_n hx hb dX4_nextCursor_28 rfl (lv_at hl 0 rfl) ?_
  refine tq_callF (va_runS C.fix (As := [.int (nI (k)), .int (nI (dep (k % 2 ^ dp)))]) (rest := []) (c_X4_reverseBits l D cy k (dep (k % 2 ^ dp)) (by omega) (by omega)) (tq_cS (n := 2) C ml_X4_165 sm_X4_reverseBits ini_X4 cd_X4_reverseBits ⟨by decide, by decide, by decide +kernel⟩ ⟨Nat.le_of_ble_eq_true rfl, Nat.le_of_ble_eq_true rfl⟩) ⟨tq_Pf.blind, tq_preF C hK (hP.sub [] rfl)⟩ rfl rfl hl.1 rfl (lv_room (Nat.le_of_ble_eq_true rfl)) dX4_nextCursor_29 ⟨Nat.le_of_ble_eq_true rfl, Nat.le_of_ble_eq_true rfl⟩) (fun r29 hr29 => ?_)
  obtain rfl := hr29
  refine lv_iconst (v := nI 1) hx hb dX4_nextCursor_32 (by decide) ?_
  refine tq_iadd C dX4_nextCursor_33 ?_
  refine lv_istore_n (lv' := [(3, .int (nI ((rv k (dep (k % 2 ^ dp))) + 1))), (2, .int (nI (dep (k % 2 ^ dp)))), (0, .ref (a 0)), (1, .int (nI (k)))]) hx hb dX4_nextCursor_34 rfl hl (by decide) rfl (fun ls hl => ?_)
  refine lv_iload_n hx hb dX4_nextCursor_35 rfl (lv_at hl 0 rfl) ?_
  refine lv_iconst (v := nI 1) hx hb dX4_nextCursor_36 (by decide) ?_
  refine lv_iload_n hx hb dX4_nextCursor_37 rfl (lv_at hl 1 rfl) ?_
  refine tq_ishl C (by omega) (by omega) dX4_nextCursor_38 ?_
  refine tq_top (y := nI (2 ^ (dep (k % 2 ^ dp)))) (by rw [Nat.one_mul]) ?_
  refine tq_icmp_ne (tgt := 46) C (by omega) (by omega) dX4_nextCursor_39 (by decide) (fun h39 => ?_) (fun h39 => ?_)
  · refine lv_iload_n hx hb dX4_nextCursor_46 rfl (lv_at hl 0 rfl) ?_
    refine lv_iload_n hx hb dX4_nextCursor_47 rfl (lv_at hl 1 rfl) ?_
    refine tq_callF (va_runS C.fix (As := [.int (nI ((rv k (dep (k % 2 ^ dp))) + 1)), .int (nI (dep (k % 2 ^ dp)))]) (rest := []) (c_X4_reverseBits l D cy ((rv k (dep (k % 2 ^ dp))) + 1) (dep (k % 2 ^ dp)) (by omega) (by omega)) (tq_cS (n := 2) C ml_X4_165 sm_X4_reverseBits ini_X4 cd_X4_reverseBits ⟨by decide, by decide, by decide +kernel⟩ ⟨Nat.le_of_ble_eq_true rfl, Nat.le_of_ble_eq_true rfl⟩) ⟨tq_Pf.blind, tq_preF C hK (hP.sub [] rfl)⟩ rfl rfl hl.1 rfl (lv_room (Nat.le_of_ble_eq_true rfl)) dX4_nextCursor_48 ⟨Nat.le_of_ble_eq_true rfl, Nat.le_of_ble_eq_true rfl⟩) (fun r48 hr48 => ?_)
    obtain rfl := hr48
    exact tq_xfret (v := (nI (rv ((rv k (dep (k % 2 ^ dp))) + 1) (dep (k % 2 ^ dp))))) C rfl (⟨k, by omega, rfl, by rw [show nxc (dep (k % 2 ^ dp)) k = _ from if_neg h39]⟩) dX4_nextCursor_51
  · refine lv_iconst (v := nI 0) hx hb dX4_nextCursor_42 (by decide) ?_
    refine lv_goto (tgt := 51) hx hb dX4_nextCursor_43 (by decide) ?_
    exact tq_xfret (v := (nI (0))) C rfl (⟨k, by omega, rfl, by rw [show nxc (dep (k % 2 ^ dp)) k = _ from if_pos h39]⟩) dX4_nextCursor_51
set_option maxHeartbeats 4000000 in
set_option maxRecDepth 100000 in
theorem c_X4_linearSize (l : Launch) (hl9 : l.stackTraces = false) (D : va_G) (cy : ClassId) (a : Nat → Nat) (key : Nat → Nat) (val : Nat → Nat) (ord : Nat → Nat) (tk : Nat) (cp : Nat) (efi : Nat → Nat) (ela : Nat → Nat) (eco : Nat → Nat) (ene : Nat → Nat) (ldp : Nat → Nat) (dp : Nat) (dbl : Int32) (hlv : Int32) (spl : Int32) (mrg : Int32) (lfi : Nat → Nat) (lla : Nat → Nat) (lco : Nat → Nat) (lne : Nat → Nat) (lev : Nat) (ptr : Nat) (llo : Nat) (lhi : Nat) (lsp : Int32) (bk : Int32) (dep : Nat → Nat) (E L : List Nat) (hCR : CR key val ord tk cp efi ela eco ene ldp dp lfi lla lco lne lev ptr llo lhi dep E L)  : tq_XF l yX4_linearSize cX4_linearSize 2 (some .int) 7 103 D cy (wC cy a key val ord tk cp efi ela eco ene ldp dp dbl hlv spl mrg lfi lla lco lne lev ptr llo lhi lsp) [.ref (a 0), .int (bk)] (fun r => ∃ k, k < 2 ^ lev + ptr ∧ bk = nI k ∧ r = nI (lnB L lev ptr k).length) (fun E9 => E9 = "java/lang/IndexOutOfBoundsException" ∧ ¬ ∃ k : Nat, k < 2 ^ lev + ptr ∧ bk = nI k) := by
  refine tq_XF.mk (by decide) (Nat.le_of_ble_eq_true rfl) ?_
  intro p e s m args below meth c A C hX hP hK hD hA hE ls hl
  obtain ⟨hx, hb, hml, hown, hrt, hlk, hT⟩ := id C
  have hl : lv_has ls 2 [(0, .ref (a 0)), (1, .int (bk))] := hl
  obtain ⟨hSO, ⟨hcp1, hcp2⟩, ⟨hlo, hh1, hh2⟩, ⟨rX, hXR⟩, ⟨rY, hYR⟩, hEL⟩ := id hCR
  have hky := hSO.keyb
  have hdp := hXR.2.1.1
  have hp8 := p8 hdp
  have hld := hXR.2.2.2.1
  have hY := hYR.2.1
  have hYm := hY.2
  have hYp := hY.1
  have htk9 := hSO.1
  refine lv_iload_n hx hb dX4_linearSize_0 rfl (lv_at hl 1 rfl) ?_
  refine lv_aload_n hx hb dX4_linearSize_1 rfl (lv_at hl 0 rfl) ?_
  refine tq_get (C0 := RX4) (T := TX4) (N := 3) (ci := 4) (k := 2) C gX4 inX4 rfl (by decide) rfl fl_X4_28 hK hP 0 rfl rfl dX4_linearSize_2 ?_
  refine tq_callF (va_runV C.fix (As := []) (rest := [.int (bk)]) (c_X1_countBuckets l D cy a key val ord tk cp efi ela eco ene ldp dp dbl hlv spl mrg lfi lla lco lne lev ptr llo lhi lsp hY) (tq_cV (n := 0) C ml_X4_168 im_X1_countBuckets se_X1_countBuckets ini_X1 cd_X1_countBuckets ⟨by decide, by decide, by decide +kernel⟩ ⟨Nat.le_of_ble_eq_true rfl, Nat.le_of_ble_eq_true rfl⟩) ⟨tq_Pf.blind, va_recv hK hP (ci := 1) (q0 := 3) rfl rfl, tq_preF C hK hP⟩ rfl rfl hl.1 rfl (lv_room (Nat.le_of_ble_eq_true rfl)) dX4_linearSize_5 ⟨Nat.le_of_ble_eq_true rfl, Nat.le_of_ble_eq_true rfl⟩) (fun r5 hr5 => ?_)
  obtain rfl := hr5
  refine tq_callXU C hX (vx_runS C.fix (As := [.int (bk), .int (nI (2 ^ lev + ptr))]) (rest := []) ((c_X4_checkIndex l hl9 D cy bk (2 ^ lev + ptr) (by omega)) s.heap.size) (tq_cS (n := 2) C ml_X4_175 sm_X4_checkIndex ini_X4 cd_X4_checkIndex ⟨by decide, by decide, by decide +kernel⟩ ⟨Nat.le_of_ble_eq_true rfl, Nat.le_of_ble_eq_true rfl⟩) ⟨tq_Px.blind, tq_preX C hK hP hD va_S.rf hA hE [] (by decide) rfl⟩ rfl rfl hl.1 rfl (lv_room (Nat.le_of_ble_eq_true rfl)) dX4_linearSize_8 ⟨Nat.le_of_ble_eq_true rfl, Nat.le_of_ble_eq_true rfl⟩) (fun _ h => h) (fun hr8 => ?_)
  obtain ⟨k, hk, rfl⟩ := hr8
  have hk2 : k < 256 := by omega
  refine lv_aload_n hx hb dX4_linearSize_11 rfl (lv_at hl 0 rfl) ?_
  refine tq_get (C0 := RX4) (T := TX4) (N := 3) (ci := 4) (k := 2) C gX4 inX4 rfl (by decide) rfl fl_X4_28 hK hP 0 rfl rfl dX4_linearSize_12 ?_
  refine tq_getN (C0 := RX1) (T := TX1) (N := 7) (ci := 1) (k := 1) C gX1 inX1 rfl (by decide) rfl fn_X4_179 hK hP 3 rfl rfl dX4_linearSize_15 ?_
  refine lv_iload_n hx hb dX4_linearSize_18 rfl (lv_at hl 1 rfl) ?_
  refine tq_callF (va_runV C.fix (As := [.int (nI (k))]) (rest := []) (c_X2_count l D cy (a 9) (a 14) (a 15) (a 16) (a 17) (a 1) (a 4) (a 5) (a 6) lfi lla lco lne key tk cp k hk2) (tq_cV (n := 1) C ml_X4_123 im_X2_count se_X2_count ini_X2 cd_X2_count ⟨by decide, by decide, by decide +kernel⟩ ⟨Nat.le_of_ble_eq_true rfl, Nat.le_of_ble_eq_true rfl⟩) ⟨tq_Pf.blind, va_recv hK hP (ci := 2) (q0 := 9) rfl rfl, tq_preF C hK (hP.sub [9, 14, 15, 16, 17, 1, 4] rfl)⟩ rfl rfl hl.1 rfl (lv_room (Nat.le_of_ble_eq_true rfl)) dX4_linearSize_19 ⟨Nat.le_of_ble_eq_true rfl, Nat.le_of_ble_eq_true rfl⟩) (fun r19 hr19 => ?_)
  obtain rfl := hr19
  exact tq_xfret (v := (nI (lco k))) C rfl (⟨k, hk, rfl, by rw [(hYR.len hk2).1]⟩) dX4_linearSize_22
set_option maxHeartbeats 4000000 in
set_option maxRecDepth 100000 in
theorem c_X4_linearKeyAt (l : Launch) (hl9 : l.stackTraces = false) (D : va_G) (cy : ClassId) (a : Nat → Nat) (key : Nat → Nat) (val : Nat → Nat) (ord : Nat → Nat) (tk : Nat) (cp : Nat) (efi : Nat → Nat) (ela : Nat → Nat) (eco : Nat → Nat) (ene : Nat → Nat) (ldp : Nat → Nat) (dp : Nat) (dbl : Int32) (hlv : Int32) (spl : Int32) (mrg : Int32) (lfi : Nat → Nat) (lla : Nat → Nat) (lco : Nat → Nat) (lne : Nat → Nat) (lev : Nat) (ptr : Nat) (llo : Nat) (lhi : Nat) (lsp : Int32) (bk : Int32) (pl : Int32) (dep : Nat → Nat) (E L : List Nat) (hCR : CR key val ord tk cp efi ela eco ene ldp dp lfi lla lco lne lev ptr llo lhi dep E L)  : tq_XF l yX4_linearKeyAt cX4_linearKeyAt 3 (some .int) 8 126 D cy (wC cy a key val ord tk cp efi ela eco ene ldp dp dbl hlv spl mrg lfi lla lco lne lev ptr llo lhi lsp) [.ref (a 0), .int (bk), .int (pl)] (fun r => ∃ k, k < 2 ^ lev + ptr ∧ bk = nI k ∧ ∃ p, p < (lnB L lev ptr k).length ∧ pl = nI p ∧ r = nI ((lnB L lev ptr k).getD p 0)) (fun E9 => E9 = "java/lang/IndexOutOfBoundsException" ∧ ¬ ∃ k p : Nat, k < 2 ^ lev + ptr ∧ bk = nI k ∧ p < (lnB L lev ptr k).length ∧ pl = nI p) := by
  refine tq_XF.mk (by decide) (Nat.le_of_ble_eq_true rfl) ?_
  intro p e s m args below meth c A C hX hP hK hD hA hE ls hl
  obtain ⟨hx, hb, hml, hown, hrt, hlk, hT⟩ := id C
  have hl : lv_has ls 3 [(0, .ref (a 0)), (1, .int (bk)), (2, .int (pl))] := hl
  obtain ⟨hSO, ⟨hcp1, hcp2⟩, ⟨hlo, hh1, hh2⟩, ⟨rX, hXR⟩, ⟨rY, hYR⟩, hEL⟩ := id hCR
  have hky := hSO.keyb
  have hdp := hXR.2.1.1
  have hp8 := p8 hdp
  have hld := hXR.2.2.2.1
  have hY := hYR.2.1
  have hYm := hY.2
  have hYp := hY.1
  have htk9 := hSO.1
  refine lv_iload_n hx hb dX4_linearKeyAt_0 rfl (lv_at hl 1 rfl) ?_
  refine lv_aload_n hx hb dX4_linearKeyAt_1 rfl (lv_at hl 0 rfl) ?_
  refine tq_get (C0 := RX4) (T := TX4) (N := 3) (ci := 4) (k := 2) C gX4 inX4 rfl (by decide) rfl fl_X4_28 hK hP 0 rfl rfl dX4_linearKeyAt_2 ?_
  refine tq_callF (va_runV C.fix (As := []) (rest := [.int (bk)]) (c_X1_countBuckets l D cy a key val ord tk cp efi ela eco ene ldp dp dbl hlv spl mrg lfi lla lco lne lev ptr llo lhi lsp hY) (tq_cV (n := 0) C ml_X4_168 im_X1_countBuckets se_X1_countBuckets ini_X1 cd_X1_countBuckets ⟨by decide, by decide, by decide +kernel⟩ ⟨Nat.le_of_ble_eq_true rfl, Nat.le_of_ble_eq_true rfl⟩) ⟨tq_Pf.blind, va_recv hK hP (ci := 1) (q0 := 3) rfl rfl, tq_preF C hK hP⟩ rfl rfl hl.1 rfl (lv_room (Nat.le_of_ble_eq_true rfl)) dX4_linearKeyAt_5 ⟨Nat.le_of_ble_eq_true rfl, Nat.le_of_ble_eq_true rfl⟩) (fun r5 hr5 => ?_)
  obtain rfl := hr5
  refine tq_callXU C hX (vx_runS C.fix (As := [.int (bk), .int (nI (2 ^ lev + ptr))]) (rest := []) ((c_X4_checkIndex l hl9 D cy bk (2 ^ lev + ptr) (by omega)) s.heap.size) (tq_cS (n := 2) C ml_X4_175 sm_X4_checkIndex ini_X4 cd_X4_checkIndex ⟨by decide, by decide, by decide +kernel⟩ ⟨Nat.le_of_ble_eq_true rfl, Nat.le_of_ble_eq_true rfl⟩) ⟨tq_Px.blind, tq_preX C hK hP hD va_S.rf hA hE [] (by decide) rfl⟩ rfl rfl hl.1 rfl (lv_room (Nat.le_of_ble_eq_true rfl)) dX4_linearKeyAt_8 ⟨Nat.le_of_ble_eq_true rfl, Nat.le_of_ble_eq_true rfl⟩) (fun E9 h => ⟨h.1, fun ⟨k, p, a, b, _⟩ => h.2 ⟨k, a, b⟩⟩) (fun hr8 => ?_)
  obtain ⟨k, hk, rfl⟩ := hr8
  have hk2 : k < 256 := by omega
  have hcl : (rY k).map key = lnB L lev ptr k := hYR.2.2.1 k hk2
  have hcn : (lnB L lev ptr k).length = (rY k).length := by rw [← hcl, List.length_map]
  refine lv_aload_n hx hb dX4_linearKeyAt_11 rfl (lv_at hl 0 rfl) ?_
  refine lv_aload_n hx hb dX4_linearKeyAt_12 rfl (lv_at hl 0 rfl) ?_
  refine tq_get (C0 := RX4) (T := TX4) (N := 3) (ci := 4) (k := 2) C gX4 inX4 rfl (by decide) rfl fl_X4_28 hK hP 0 rfl rfl dX4_linearKeyAt_13 ?_
  refine tq_getN (C0 := RX1) (T := TX1) (N := 7) (ci := 1) (k := 1) C gX1 inX1 rfl (by decide) rfl fn_X4_179 hK hP 3 rfl rfl dX4_linearKeyAt_16 ?_
  refine lv_iload_n hx hb dX4_linearKeyAt_19 rfl (lv_at hl 1 rfl) ?_
  refine lv_iload_n hx hb dX4_linearKeyAt_20 rfl (lv_at hl 2 rfl) ?_
  refine tq_callXF C hX (vx_runV C.fix (As := [.ref (a 9), .int (nI (k)), .int (pl)]) (rest := []) ((c_X4_keyOfRow_y l hl9 D cy a key val ord tk cp efi ela eco ene ldp dp dbl hlv spl mrg lfi lla lco lne lev ptr llo lhi lsp k pl rY hky hk2 hYR.1) s.heap.size) (tq_cV (n := 3) C ml_X4_128 im_X4_keyOfRow se_X4_keyOfRow ini_X4 cd_X4_keyOfRow ⟨by decide, by decide, by decide +kernel⟩ ⟨Nat.le_of_ble_eq_true rfl, Nat.le_of_ble_eq_true rfl⟩) ⟨tq_Px.blind, va_recv hK hP (ci := 4) (q0 := 0) rfl rfl, tq_preX C hK hP hD va_S.rf hA hE [0, 1, 2, 3, 4, 5, 6, 7, 8, 9, 10, 11, 12, 13, 14, 15, 16, 17] (by decide) rfl⟩ rfl rfl hl.1 rfl (lv_room (Nat.le_of_ble_eq_true rfl)) dX4_linearKeyAt_21 ⟨Nat.le_of_ble_eq_true rfl, Nat.le_of_ble_eq_true rfl⟩) (fun E9 h => ⟨h.1, fun ⟨k7, p, a1, b1, c1, d1⟩ => h.2 ⟨p, by rw [← (nI_eq (by omega) (by omega)).mp b1, hcn] at c1; exact c1, d1⟩⟩) (fun r21 hr21 => ?_)
  exact tq_xfret (v := (r21)) C rfl (by obtain ⟨p, h1, h2, h3⟩ := hr21; exact ⟨k, hk, rfl, p, by rw [hcn]; exact h1, h2, by rw [h3, ← getD_map (key := key) h1, hcl]⟩) dX4_linearKeyAt_24
set_option maxHeartbeats 4000000 in
set_option maxRecDepth 100000 in
theorem c_X4_linearBucketOf (l : Launch) (hl9 : l.stackTraces = false) (D : va_G) (cy : ClassId) (a : Nat → Nat) (key : Nat → Nat) (val : Nat → Nat) (ord : Nat → Nat) (tk : Nat) (cp : Nat) (efi : Nat → Nat) (ela : Nat → Nat) (eco : Nat → Nat) (ene : Nat → Nat) (ldp : Nat → Nat) (dp : Nat) (dbl : Int32) (hlv : Int32) (spl : Int32) (mrg : Int32) (lfi : Nat → Nat) (lla : Nat → Nat) (lco : Nat → Nat) (lne : Nat → Nat) (lev : Nat) (ptr : Nat) (llo : Nat) (lhi : Nat) (lsp : Int32) (kx : Int32) (dep : Nat → Nat) (E L : List Nat) (hCR : CR key val ord tk cp efi ela eco ene ldp dp lfi lla lco lne lev ptr llo lhi dep E L)  : tq_XF l yX4_linearBucketOf cX4_linearBucketOf 2 (some .int) 8 124 D cy (wC cy a key val ord tk cp efi ela eco ene ldp dp dbl hlv spl mrg lfi lla lco lne lev ptr llo lhi lsp) [.ref (a 0), .int (kx)] (fun r => ∃ k, k < 65536 ∧ kx = nI k ∧ r = nI (linOf lev ptr k)) (fun E9 => E9 = "java/lang/IllegalArgumentException" ∧ ¬ isKey kx) := by
  refine tq_XF.mk (by decide) (Nat.le_of_ble_eq_true rfl) ?_
  intro p e s m args below meth c A C hX hP hK hD hA hE ls hl
  obtain ⟨hx, hb, hml, hown, hrt, hlk, hT⟩ := id C
  have hl : lv_has ls 2 [(0, .ref (a 0)), (1, .int (kx))] := hl
  obtain ⟨hSO, ⟨hcp1, hcp2⟩, ⟨hlo, hh1, hh2⟩, ⟨rX, hXR⟩, ⟨rY, hYR⟩, hEL⟩ := id hCR
  have hky := hSO.keyb
  have hdp := hXR.2.1.1
  have hp8 := p8 hdp
  have hld := hXR.2.2.2.1
  have hY := hYR.2.1
  have hYm := hY.2
  have hYp := hY.1
  have htk9 := hSO.1
  refine lv_iload_n hx hb dX4_linearBucketOf_0 rfl (lv_at hl 1 rfl) ?_
  refine tq_callXU C hX (vx_runS C.fix (As := [.int (kx)]) (rest := []) ((c_X4_checkKey l hl9 D cy kx) s.heap.size) (tq_cS (n := 1) C ml_X4_32 sm_X4_checkKey ini_X4 cd_X4_checkKey ⟨by decide, by decide, by decide +kernel⟩ ⟨Nat.le_of_ble_eq_true rfl, Nat.le_of_ble_eq_true rfl⟩) ⟨tq_Px.blind, tq_preX C hK hP hD va_S.rf hA hE [] (by decide) rfl⟩ rfl rfl hl.1 rfl (lv_room (Nat.le_of_ble_eq_true rfl)) dX4_linearBucketOf_1 ⟨Nat.le_of_ble_eq_true rfl, Nat.le_of_ble_eq_true rfl⟩) (fun _ h => h) (fun hr1 => ?_)
  obtain ⟨k, hk, rfl⟩ := hr1
  refine lv_aload_n hx hb dX4_linearBucketOf_4 rfl (lv_at hl 0 rfl) ?_
  refine tq_get (C0 := RX4) (T := TX4) (N := 3) (ci := 4) (k := 2) C gX4 inX4 rfl (by decide) rfl fl_X4_28 hK hP 0 rfl rfl dX4_linearBucketOf_5 ?_
  refine lv_iload_n hx hb dX4_linearBucketOf_8 rfl (lv_at hl 1 rfl) ?_
  refine tq_callF (va_runV C.fix (As := [.int (nI (k))]) (rest := []) (c_X1_rowFor l D cy a key val ord tk cp efi ela eco ene ldp dp dbl hlv spl mrg lfi lla lco lne lev ptr llo lhi lsp k hY hk) (tq_cV (n := 1) C ml_X4_180 im_X1_rowFor se_X1_rowFor ini_X1 cd_X1_rowFor ⟨by decide, by decide, by decide +kernel⟩ ⟨Nat.le_of_ble_eq_true rfl, Nat.le_of_ble_eq_true rfl⟩) ⟨tq_Pf.blind, va_recv hK hP (ci := 1) (q0 := 3) rfl rfl, tq_preF C hK hP⟩ rfl rfl hl.1 rfl (lv_room (Nat.le_of_ble_eq_true rfl)) dX4_linearBucketOf_9 ⟨Nat.le_of_ble_eq_true rfl, Nat.le_of_ble_eq_true rfl⟩) (fun r9 hr9 => ?_)
  obtain rfl := hr9
  exact tq_xfret (v := (nI (linOf lev ptr k))) C rfl (⟨k, hk, rfl, rfl⟩) dX4_linearBucketOf_12
set_option maxHeartbeats 4000000 in
set_option maxRecDepth 100000 in
theorem c_X4_linearProbes (l : Launch) (hl9 : l.stackTraces = false) (D : va_G) (cy : ClassId) (a : Nat → Nat) (key : Nat → Nat) (val : Nat → Nat) (ord : Nat → Nat) (tk : Nat) (cp : Nat) (efi : Nat → Nat) (ela : Nat → Nat) (eco : Nat → Nat) (ene : Nat → Nat) (ldp : Nat → Nat) (dp : Nat) (dbl : Int32) (hlv : Int32) (spl : Int32) (mrg : Int32) (lfi : Nat → Nat) (lla : Nat → Nat) (lco : Nat → Nat) (lne : Nat → Nat) (lev : Nat) (ptr : Nat) (llo : Nat) (lhi : Nat) (lsp : Int32) (kx : Int32) (dep : Nat → Nat) (E L : List Nat) (hCR : CR key val ord tk cp efi ela eco ene ldp dp lfi lla lco lne lev ptr llo lhi dep E L)  : tq_XF l yX4_linearProbes cX4_linearProbes 2 (some .int) 8 124 D cy (wC cy a key val ord tk cp efi ela eco ene ldp dp dbl hlv spl mrg lfi lla lco lne lev ptr llo lhi lsp) [.ref (a 0), .int (kx)] (fun r => ∃ k, k < 65536 ∧ kx = nI k ∧ prP (lnB L lev ptr (linOf lev ptr k)) cp k r) (fun E9 => E9 = "java/lang/IllegalArgumentException" ∧ ¬ isKey kx) := by
  refine tq_XF.mk (by decide) (Nat.le_of_ble_eq_true rfl) ?_
  intro p e s m args below meth c A C hX hP hK hD hA hE ls hl
  obtain ⟨hx, hb, hml, hown, hrt, hlk, hT⟩ := id C
  have hl : lv_has ls 2 [(0, .ref (a 0)), (1, .int (kx))] := hl
  obtain ⟨hSO, ⟨hcp1, hcp2⟩, ⟨hlo, hh1, hh2⟩, ⟨rX, hXR⟩, ⟨rY, hYR⟩, hEL⟩ := id hCR
  have hky := hSO.keyb
  have hdp := hXR.2.1.1
  have hp8 := p8 hdp
  have hld := hXR.2.2.2.1
  have hY := hYR.2.1
  have hYm := hY.2
  have hYp := hY.1
  have htk9 := hSO.1
  refine lv_iload_n hx hb dX4_linearProbes_0 rfl (lv_at hl 1 rfl) ?_
  refine tq_callXU C hX (vx_runS C.fix (As := [.int (kx)]) (rest := []) ((c_X4_checkKey l hl9 D cy kx) s.heap.size) (tq_cS (n := 1) C ml_X4_32 sm_X4_checkKey ini_X4 cd_X4_checkKey ⟨by decide, by decide, by decide +kernel⟩ ⟨Nat.le_of_ble_eq_true rfl, Nat.le_of_ble_eq_true rfl⟩) ⟨tq_Px.blind, tq_preX C hK hP hD va_S.rf hA hE [] (by decide) rfl⟩ rfl rfl hl.1 rfl (lv_room (Nat.le_of_ble_eq_true rfl)) dX4_linearProbes_1 ⟨Nat.le_of_ble_eq_true rfl, Nat.le_of_ble_eq_true rfl⟩) (fun _ h => h) (fun hr1 => ?_)
  obtain ⟨k, hk, rfl⟩ := hr1
  refine lv_aload_n hx hb dX4_linearProbes_4 rfl (lv_at hl 0 rfl) ?_
  refine tq_get (C0 := RX4) (T := TX4) (N := 3) (ci := 4) (k := 2) C gX4 inX4 rfl (by decide) rfl fl_X4_28 hK hP 0 rfl rfl dX4_linearProbes_5 ?_
  refine tq_getN (C0 := RX1) (T := TX1) (N := 7) (ci := 1) (k := 1) C gX1 inX1 rfl (by decide) rfl fn_X4_179 hK hP 3 rfl rfl dX4_linearProbes_8 ?_
  refine lv_aload_n hx hb dX4_linearProbes_11 rfl (lv_at hl 0 rfl) ?_
  refine tq_get (C0 := RX4) (T := TX4) (N := 3) (ci := 4) (k := 2) C gX4 inX4 rfl (by decide) rfl fl_X4_28 hK hP 0 rfl rfl dX4_linearProbes_12 ?_
  refine lv_iload_n hx hb dX4_linearProbes_15 rfl (lv_at hl 1 rfl) ?_
  refine tq_callF (va_runV C.fix (As := [.int (nI (k))]) (rest := [.ref (a 9)]) (c_X1_rowFor l D cy a key val ord tk cp efi ela eco ene ldp dp dbl hlv spl mrg lfi lla lco lne lev ptr llo lhi lsp k hY hk) (tq_cV (n := 1) C ml_X4_180 im_X1_rowFor se_X1_rowFor ini_X1 cd_X1_rowFor ⟨by decide, by decide, by decide +kernel⟩ ⟨Nat.le_of_ble_eq_true rfl, Nat.le_of_ble_eq_true rfl⟩) ⟨tq_Pf.blind, va_recv hK hP (ci := 1) (q0 := 3) rfl rfl, tq_preF C hK hP⟩ rfl rfl hl.1 rfl (lv_room (Nat.le_of_ble_eq_true rfl)) dX4_linearProbes_16 ⟨Nat.le_of_ble_eq_true rfl, Nat.le_of_ble_eq_true rfl⟩) (fun r16 hr16 => ?_)
  obtain rfl := hr16
  refine lv_iload_n hx hb dX4_linearProbes_19 rfl (lv_at hl 1 rfl) ?_
  refine tq_callF (va_runV C.fix (As := [.int (nI (linOf lev ptr k)), .int (nI (k))]) (rest := []) (c_X2_pagesRead l D cy (a 9) (a 14) (a 15) (a 16) (a 17) (a 1) (a 4) (a 5) (a 6) lfi lla lco lne key tk cp (linOf lev ptr k) k rY hYR.1 hky hcp1 hcp2 (by have := linOf_lt hYp k; omega) hk) (tq_cV (n := 2) C ml_X4_147 im_X2_pagesRead se_X2_pagesRead ini_X2 cd_X2_pagesRead ⟨by decide, by decide, by decide +kernel⟩ ⟨Nat.le_of_ble_eq_true rfl, Nat.le_of_ble_eq_true rfl⟩) ⟨tq_Pf.blind, va_recv hK hP (ci := 2) (q0 := 9) rfl rfl, tq_preF C hK (hP.sub [9, 14, 15, 16, 17, 1, 4] rfl)⟩ rfl rfl hl.1 rfl (lv_room (Nat.le_of_ble_eq_true rfl)) dX4_linearProbes_20 ⟨Nat.le_of_ble_eq_true rfl, Nat.le_of_ble_eq_true rfl⟩) (fun r20 hr20 => ?_)
  exact tq_xfret (v := (r20)) C rfl (⟨k, hk, rfl, by rw [show lnB L lev ptr (linOf lev ptr k) = (rY (linOf lev ptr k)).map key from (hYR.2.2.1 _ (by have := linOf_lt hYp k; omega)).symm]; exact prP_of hr20⟩) dX4_linearProbes_23
