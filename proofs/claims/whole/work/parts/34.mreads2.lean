
def HatP (E : List Nat) (k i : Nat) (C : Nat → Nat) (at1 : Int32) : Prop := (∃ j, j < i ∧ E.getD j 0 = k ∧ at1 = nI (C j)) ∨ ((∀ j, j < i → E.getD j 0 ≠ k) ∧ at1 = -1)

theorem dX5_keyAt_0 : decode cX5_keyAt 0 = .ok (.iload_n 1, 1) := by decide +kernel
theorem dX5_keyAt_1 : decode cX5_keyAt 1 = .ok (.iconst 0, 1) := by decide +kernel
theorem dX5_keyAt_2 : decode cX5_keyAt 2 = .ok (.iconst 1, 1) := by decide +kernel
theorem dX5_keyAt_3 : decode cX5_keyAt 3 = .ok (.aload_n 0, 1) := by decide +kernel
theorem dX5_keyAt_4 : decode cX5_keyAt 4 = .ok (.getfield 68, 3) := by decide +kernel
theorem dX5_keyAt_7 : decode cX5_keyAt 7 = .ok (.ishl, 1) := by decide +kernel
theorem dX5_keyAt_8 : decode cX5_keyAt 8 = .ok (.iconst 1, 1) := by decide +kernel
theorem dX5_keyAt_9 : decode cX5_keyAt 9 = .ok (.isub, 1) := by decide +kernel
theorem dX5_keyAt_10 : decode cX5_keyAt 10 = .ok (.invokestatic 42, 3) := by decide +kernel
theorem dX5_keyAt_13 : decode cX5_keyAt 13 = .ok (.istore_n 3, 1) := by decide +kernel
theorem dX5_keyAt_14 : decode cX5_keyAt 14 = .ok (.aload_n 0, 1) := by decide +kernel
theorem dX5_keyAt_15 : decode cX5_keyAt 15 = .ok (.iload_n 3, 1) := by decide +kernel
theorem dX5_keyAt_16 : decode cX5_keyAt 16 = .ok (.ifCond .eq 28, 3) := by decide +kernel
theorem dX5_keyAt_19 : decode cX5_keyAt 19 = .ok (.iload_n 2, 1) := by decide +kernel
theorem dX5_keyAt_20 : decode cX5_keyAt 20 = .ok (.iconst 0, 1) := by decide +kernel
theorem dX5_keyAt_21 : decode cX5_keyAt 21 = .ok (.aload_n 0, 1) := by decide +kernel
theorem dX5_keyAt_22 : decode cX5_keyAt 22 = .ok (.iload_n 1, 1) := by decide +kernel
theorem dX5_keyAt_23 : decode cX5_keyAt 23 = .ok (.aload_n 0, 1) := by decide +kernel
theorem dX5_keyAt_24 : decode cX5_keyAt 24 = .ok (.getfield 26, 3) := by decide +kernel
theorem dX5_keyAt_27 : decode cX5_keyAt 27 = .ok (.iload_n 1, 1) := by decide +kernel
theorem dX5_keyAt_28 : decode cX5_keyAt 28 = .ok (.iaload, 1) := by decide +kernel
theorem dX5_keyAt_29 : decode cX5_keyAt 29 = .ok (.invokevirtual 65, 3) := by decide +kernel
theorem dX5_keyAt_32 : decode cX5_keyAt 32 = .ok (.iconst 1, 1) := by decide +kernel
theorem dX5_keyAt_33 : decode cX5_keyAt 33 = .ok (.isub, 1) := by decide +kernel
theorem dX5_keyAt_34 : decode cX5_keyAt 34 = .ok (.invokestatic 42, 3) := by decide +kernel
theorem dX5_keyAt_37 : decode cX5_keyAt 37 = .ok (.ifCond .eq 7, 3) := by decide +kernel
theorem dX5_keyAt_40 : decode cX5_keyAt 40 = .ok (.iconst 1, 1) := by decide +kernel
theorem dX5_keyAt_41 : decode cX5_keyAt 41 = .ok (.goto 4, 3) := by decide +kernel
theorem dX5_keyAt_44 : decode cX5_keyAt 44 = .ok (.iconst 0, 1) := by decide +kernel
theorem dX5_keyAt_45 : decode cX5_keyAt 45 = .ok (.invokevirtual 46, 3) := by decide +kernel
theorem dX5_keyAt_48 : decode cX5_keyAt 48 = .ok (.ifCond .ne 5, 3) := by decide +kernel
theorem dX5_keyAt_51 : decode cX5_keyAt 51 = .ok (.iconst 0, 1) := by decide +kernel
theorem dX5_keyAt_52 : decode cX5_keyAt 52 = .ok (.ireturn, 1) := by decide +kernel
theorem dX5_keyAt_53 : decode cX5_keyAt 53 = .ok (.iload_n 2, 1) := by decide +kernel
theorem dX5_keyAt_54 : decode cX5_keyAt 54 = .ok (.istore 4, 2) := by decide +kernel
theorem dX5_keyAt_56 : decode cX5_keyAt 56 = .ok (.iconst 0, 1) := by decide +kernel
theorem dX5_keyAt_57 : decode cX5_keyAt 57 = .ok (.istore 5, 2) := by decide +kernel
theorem dX5_keyAt_59 : decode cX5_keyAt 59 = .ok (.iload 4, 2) := by decide +kernel
theorem dX5_keyAt_61 : decode cX5_keyAt 61 = .ok (.ifCond .lt 39, 3) := by decide +kernel
theorem dX5_keyAt_64 : decode cX5_keyAt 64 = .ok (.iload 4, 2) := by decide +kernel
theorem dX5_keyAt_66 : decode cX5_keyAt 66 = .ok (.aload_n 0, 1) := by decide +kernel
theorem dX5_keyAt_67 : decode cX5_keyAt 67 = .ok (.getfield 29, 3) := by decide +kernel
theorem dX5_keyAt_70 : decode cX5_keyAt 70 = .ok (.iload 5, 2) := by decide +kernel
theorem dX5_keyAt_72 : decode cX5_keyAt 72 = .ok (.iaload, 1) := by decide +kernel
theorem dX5_keyAt_73 : decode cX5_keyAt 73 = .ok (.iload_n 1, 1) := by decide +kernel
theorem dX5_keyAt_74 : decode cX5_keyAt 74 = .ok (.aload_n 0, 1) := by decide +kernel
theorem dX5_keyAt_75 : decode cX5_keyAt 75 = .ok (.getfield 26, 3) := by decide +kernel
theorem dX5_keyAt_78 : decode cX5_keyAt 78 = .ok (.iload_n 1, 1) := by decide +kernel
theorem dX5_keyAt_79 : decode cX5_keyAt 79 = .ok (.iaload, 1) := by decide +kernel
theorem dX5_keyAt_80 : decode cX5_keyAt 80 = .ok (.invokestatic 62, 3) := by decide +kernel
theorem dX5_keyAt_83 : decode cX5_keyAt 83 = .ok (.ifCond .eq 7, 3) := by decide +kernel
theorem dX5_keyAt_86 : decode cX5_keyAt 86 = .ok (.iconst 1, 1) := by decide +kernel
theorem dX5_keyAt_87 : decode cX5_keyAt 87 = .ok (.goto 4, 3) := by decide +kernel
theorem dX5_keyAt_90 : decode cX5_keyAt 90 = .ok (.iconst 0, 1) := by decide +kernel
theorem dX5_keyAt_91 : decode cX5_keyAt 91 = .ok (.isub, 1) := by decide +kernel
theorem dX5_keyAt_92 : decode cX5_keyAt 92 = .ok (.istore 4, 2) := by decide +kernel
theorem dX5_keyAt_94 : decode cX5_keyAt 94 = .ok (.iinc 5 1, 3) := by decide +kernel
theorem dX5_keyAt_97 : decode cX5_keyAt 97 = .ok (.goto (-38), 3) := by decide +kernel
theorem dX5_keyAt_100 : decode cX5_keyAt 100 = .ok (.aload_n 0, 1) := by decide +kernel
theorem dX5_keyAt_101 : decode cX5_keyAt 101 = .ok (.getfield 29, 3) := by decide +kernel
theorem dX5_keyAt_104 : decode cX5_keyAt 104 = .ok (.iload 5, 2) := by decide +kernel
theorem dX5_keyAt_106 : decode cX5_keyAt 106 = .ok (.iconst 1, 1) := by decide +kernel
theorem dX5_keyAt_107 : decode cX5_keyAt 107 = .ok (.isub, 1) := by decide +kernel
theorem dX5_keyAt_108 : decode cX5_keyAt 108 = .ok (.iaload, 1) := by decide +kernel
theorem dX5_keyAt_109 : decode cX5_keyAt 109 = .ok (.ireturn, 1) := by decide +kernel
theorem dX5_linearKeyAt_0 : decode cX5_linearKeyAt 0 = .ok (.aload_n 0, 1) := by decide +kernel
theorem dX5_linearKeyAt_1 : decode cX5_linearKeyAt 1 = .ok (.iload_n 1, 1) := by decide +kernel
theorem dX5_linearKeyAt_2 : decode cX5_linearKeyAt 2 = .ok (.iconst 0, 1) := by decide +kernel
theorem dX5_linearKeyAt_3 : decode cX5_linearKeyAt 3 = .ok (.aload_n 0, 1) := by decide +kernel
theorem dX5_linearKeyAt_4 : decode cX5_linearKeyAt 4 = .ok (.invokevirtual 108, 3) := by decide +kernel
theorem dX5_linearKeyAt_7 : decode cX5_linearKeyAt 7 = .ok (.iconst 1, 1) := by decide +kernel
theorem dX5_linearKeyAt_8 : decode cX5_linearKeyAt 8 = .ok (.isub, 1) := by decide +kernel
theorem dX5_linearKeyAt_9 : decode cX5_linearKeyAt 9 = .ok (.invokestatic 42, 3) := by decide +kernel
theorem dX5_linearKeyAt_12 : decode cX5_linearKeyAt 12 = .ok (.ifCond .eq 22, 3) := by decide +kernel
theorem dX5_linearKeyAt_15 : decode cX5_linearKeyAt 15 = .ok (.iload_n 2, 1) := by decide +kernel
theorem dX5_linearKeyAt_16 : decode cX5_linearKeyAt 16 = .ok (.iconst 0, 1) := by decide +kernel
theorem dX5_linearKeyAt_17 : decode cX5_linearKeyAt 17 = .ok (.aload_n 0, 1) := by decide +kernel
theorem dX5_linearKeyAt_18 : decode cX5_linearKeyAt 18 = .ok (.iload_n 1, 1) := by decide +kernel
theorem dX5_linearKeyAt_19 : decode cX5_linearKeyAt 19 = .ok (.invokevirtual 166, 3) := by decide +kernel
theorem dX5_linearKeyAt_22 : decode cX5_linearKeyAt 22 = .ok (.iconst 1, 1) := by decide +kernel
theorem dX5_linearKeyAt_23 : decode cX5_linearKeyAt 23 = .ok (.isub, 1) := by decide +kernel
theorem dX5_linearKeyAt_24 : decode cX5_linearKeyAt 24 = .ok (.invokestatic 42, 3) := by decide +kernel
theorem dX5_linearKeyAt_27 : decode cX5_linearKeyAt 27 = .ok (.ifCond .eq 7, 3) := by decide +kernel
theorem dX5_linearKeyAt_30 : decode cX5_linearKeyAt 30 = .ok (.iconst 1, 1) := by decide +kernel
theorem dX5_linearKeyAt_31 : decode cX5_linearKeyAt 31 = .ok (.goto 4, 3) := by decide +kernel
theorem dX5_linearKeyAt_34 : decode cX5_linearKeyAt 34 = .ok (.iconst 0, 1) := by decide +kernel
theorem dX5_linearKeyAt_35 : decode cX5_linearKeyAt 35 = .ok (.invokevirtual 46, 3) := by decide +kernel
theorem dX5_linearKeyAt_38 : decode cX5_linearKeyAt 38 = .ok (.ifCond .ne 5, 3) := by decide +kernel
theorem dX5_linearKeyAt_41 : decode cX5_linearKeyAt 41 = .ok (.iconst 0, 1) := by decide +kernel
theorem dX5_linearKeyAt_42 : decode cX5_linearKeyAt 42 = .ok (.ireturn, 1) := by decide +kernel
theorem dX5_linearKeyAt_43 : decode cX5_linearKeyAt 43 = .ok (.iload_n 2, 1) := by decide +kernel
theorem dX5_linearKeyAt_44 : decode cX5_linearKeyAt 44 = .ok (.istore_n 3, 1) := by decide +kernel
theorem dX5_linearKeyAt_45 : decode cX5_linearKeyAt 45 = .ok (.iconst 0, 1) := by decide +kernel
theorem dX5_linearKeyAt_46 : decode cX5_linearKeyAt 46 = .ok (.istore 4, 2) := by decide +kernel
theorem dX5_linearKeyAt_48 : decode cX5_linearKeyAt 48 = .ok (.iload_n 3, 1) := by decide +kernel
theorem dX5_linearKeyAt_49 : decode cX5_linearKeyAt 49 = .ok (.ifCond .lt 32, 3) := by decide +kernel
theorem dX5_linearKeyAt_52 : decode cX5_linearKeyAt 52 = .ok (.iload_n 3, 1) := by decide +kernel
theorem dX5_linearKeyAt_53 : decode cX5_linearKeyAt 53 = .ok (.aload_n 0, 1) := by decide +kernel
theorem dX5_linearKeyAt_54 : decode cX5_linearKeyAt 54 = .ok (.aload_n 0, 1) := by decide +kernel
theorem dX5_linearKeyAt_55 : decode cX5_linearKeyAt 55 = .ok (.getfield 32, 3) := by decide +kernel
theorem dX5_linearKeyAt_58 : decode cX5_linearKeyAt 58 = .ok (.iload 4, 2) := by decide +kernel
theorem dX5_linearKeyAt_60 : decode cX5_linearKeyAt 60 = .ok (.iaload, 1) := by decide +kernel
theorem dX5_linearKeyAt_61 : decode cX5_linearKeyAt 61 = .ok (.invokevirtual 115, 3) := by decide +kernel
theorem dX5_linearKeyAt_64 : decode cX5_linearKeyAt 64 = .ok (.iload_n 1, 1) := by decide +kernel
theorem dX5_linearKeyAt_65 : decode cX5_linearKeyAt 65 = .ok (.if_icmp .ne 7, 3) := by decide +kernel
theorem dX5_linearKeyAt_68 : decode cX5_linearKeyAt 68 = .ok (.iconst 1, 1) := by decide +kernel
theorem dX5_linearKeyAt_69 : decode cX5_linearKeyAt 69 = .ok (.goto 4, 3) := by decide +kernel
theorem dX5_linearKeyAt_72 : decode cX5_linearKeyAt 72 = .ok (.iconst 0, 1) := by decide +kernel
theorem dX5_linearKeyAt_73 : decode cX5_linearKeyAt 73 = .ok (.isub, 1) := by decide +kernel
theorem dX5_linearKeyAt_74 : decode cX5_linearKeyAt 74 = .ok (.istore_n 3, 1) := by decide +kernel
theorem dX5_linearKeyAt_75 : decode cX5_linearKeyAt 75 = .ok (.iinc 4 1, 3) := by decide +kernel
theorem dX5_linearKeyAt_78 : decode cX5_linearKeyAt 78 = .ok (.goto (-30), 3) := by decide +kernel
theorem dX5_linearKeyAt_81 : decode cX5_linearKeyAt 81 = .ok (.aload_n 0, 1) := by decide +kernel
theorem dX5_linearKeyAt_82 : decode cX5_linearKeyAt 82 = .ok (.getfield 32, 3) := by decide +kernel
theorem dX5_linearKeyAt_85 : decode cX5_linearKeyAt 85 = .ok (.iload 4, 2) := by decide +kernel
theorem dX5_linearKeyAt_87 : decode cX5_linearKeyAt 87 = .ok (.iconst 1, 1) := by decide +kernel
theorem dX5_linearKeyAt_88 : decode cX5_linearKeyAt 88 = .ok (.isub, 1) := by decide +kernel
theorem dX5_linearKeyAt_89 : decode cX5_linearKeyAt 89 = .ok (.iaload, 1) := by decide +kernel
theorem dX5_linearKeyAt_90 : decode cX5_linearKeyAt 90 = .ok (.ireturn, 1) := by decide +kernel
theorem dX5_probes_0 : decode cX5_probes 0 = .ok (.aload_n 0, 1) := by decide +kernel
theorem dX5_probes_1 : decode cX5_probes 1 = .ok (.iload_n 1, 1) := by decide +kernel
theorem dX5_probes_2 : decode cX5_probes 2 = .ok (.invokevirtual 132, 3) := by decide +kernel
theorem dX5_probes_5 : decode cX5_probes 5 = .ok (.ifCond .ne 5, 3) := by decide +kernel
theorem dX5_probes_8 : decode cX5_probes 8 = .ok (.iconst 0, 1) := by decide +kernel
theorem dX5_probes_9 : decode cX5_probes 9 = .ok (.ireturn, 1) := by decide +kernel
theorem dX5_probes_10 : decode cX5_probes 10 = .ok (.iload_n 1, 1) := by decide +kernel
theorem dX5_probes_11 : decode cX5_probes 11 = .ok (.invokestatic 54, 3) := by decide +kernel
theorem dX5_probes_14 : decode cX5_probes 14 = .ok (.sipush 255, 3) := by decide +kernel
theorem dX5_probes_17 : decode cX5_probes 17 = .ok (.iand, 1) := by decide +kernel
theorem dX5_probes_18 : decode cX5_probes 18 = .ok (.istore_n 2, 1) := by decide +kernel
theorem dX5_probes_19 : decode cX5_probes 19 = .ok (.iconst 0, 1) := by decide +kernel
theorem dX5_probes_20 : decode cX5_probes 20 = .ok (.istore_n 3, 1) := by decide +kernel
theorem dX5_probes_21 : decode cX5_probes 21 = .ok (.iconst (-1), 1) := by decide +kernel
theorem dX5_probes_22 : decode cX5_probes 22 = .ok (.istore 4, 2) := by decide +kernel
theorem dX5_probes_24 : decode cX5_probes 24 = .ok (.iconst 0, 1) := by decide +kernel
theorem dX5_probes_25 : decode cX5_probes 25 = .ok (.istore 5, 2) := by decide +kernel
theorem dX5_probes_27 : decode cX5_probes 27 = .ok (.iload 5, 2) := by decide +kernel
theorem dX5_probes_29 : decode cX5_probes 29 = .ok (.aload_n 0, 1) := by decide +kernel
theorem dX5_probes_30 : decode cX5_probes 30 = .ok (.getfield 51, 3) := by decide +kernel
theorem dX5_probes_33 : decode cX5_probes 33 = .ok (.if_icmp .ge 56, 3) := by decide +kernel
theorem dX5_probes_36 : decode cX5_probes 36 = .ok (.aload_n 0, 1) := by decide +kernel
theorem dX5_probes_37 : decode cX5_probes 37 = .ok (.getfield 29, 3) := by decide +kernel
theorem dX5_probes_40 : decode cX5_probes 40 = .ok (.iload 5, 2) := by decide +kernel
theorem dX5_probes_42 : decode cX5_probes 42 = .ok (.iaload, 1) := by decide +kernel
theorem dX5_probes_43 : decode cX5_probes 43 = .ok (.iload_n 1, 1) := by decide +kernel
theorem dX5_probes_44 : decode cX5_probes 44 = .ok (.if_icmp .ne 7, 3) := by decide +kernel
theorem dX5_probes_47 : decode cX5_probes 47 = .ok (.iload_n 3, 1) := by decide +kernel
theorem dX5_probes_48 : decode cX5_probes 48 = .ok (.goto 5, 3) := by decide +kernel
theorem dX5_probes_51 : decode cX5_probes 51 = .ok (.iload 4, 2) := by decide +kernel
theorem dX5_probes_53 : decode cX5_probes 53 = .ok (.istore 4, 2) := by decide +kernel
theorem dX5_probes_55 : decode cX5_probes 55 = .ok (.iload_n 3, 1) := by decide +kernel
theorem dX5_probes_56 : decode cX5_probes 56 = .ok (.aload_n 0, 1) := by decide +kernel
theorem dX5_probes_57 : decode cX5_probes 57 = .ok (.getfield 29, 3) := by decide +kernel
theorem dX5_probes_60 : decode cX5_probes 60 = .ok (.iload 5, 2) := by decide +kernel
theorem dX5_probes_62 : decode cX5_probes 62 = .ok (.iaload, 1) := by decide +kernel
theorem dX5_probes_63 : decode cX5_probes 63 = .ok (.iload_n 2, 1) := by decide +kernel
theorem dX5_probes_64 : decode cX5_probes 64 = .ok (.aload_n 0, 1) := by decide +kernel
theorem dX5_probes_65 : decode cX5_probes 65 = .ok (.getfield 26, 3) := by decide +kernel
theorem dX5_probes_68 : decode cX5_probes 68 = .ok (.iload_n 2, 1) := by decide +kernel
theorem dX5_probes_69 : decode cX5_probes 69 = .ok (.iaload, 1) := by decide +kernel
theorem dX5_probes_70 : decode cX5_probes 70 = .ok (.invokestatic 62, 3) := by decide +kernel
theorem dX5_probes_73 : decode cX5_probes 73 = .ok (.ifCond .eq 7, 3) := by decide +kernel
theorem dX5_probes_76 : decode cX5_probes 76 = .ok (.iconst 1, 1) := by decide +kernel
theorem dX5_probes_77 : decode cX5_probes 77 = .ok (.goto 4, 3) := by decide +kernel
theorem dX5_probes_80 : decode cX5_probes 80 = .ok (.iconst 0, 1) := by decide +kernel
theorem dX5_probes_81 : decode cX5_probes 81 = .ok (.iadd, 1) := by decide +kernel
theorem dX5_probes_82 : decode cX5_probes 82 = .ok (.istore_n 3, 1) := by decide +kernel
theorem dX5_probes_83 : decode cX5_probes 83 = .ok (.iinc 5 1, 3) := by decide +kernel
theorem dX5_probes_86 : decode cX5_probes 86 = .ok (.goto (-59), 3) := by decide +kernel
theorem dX5_probes_89 : decode cX5_probes 89 = .ok (.iconst 1, 1) := by decide +kernel
theorem dX5_probes_90 : decode cX5_probes 90 = .ok (.iload 4, 2) := by decide +kernel
theorem dX5_probes_92 : decode cX5_probes 92 = .ok (.iconst (-1), 1) := by decide +kernel
theorem dX5_probes_93 : decode cX5_probes 93 = .ok (.if_icmp .ne 11, 3) := by decide +kernel
theorem dX5_probes_96 : decode cX5_probes 96 = .ok (.aload_n 0, 1) := by decide +kernel
theorem dX5_probes_97 : decode cX5_probes 97 = .ok (.iload_n 3, 1) := by decide +kernel
theorem dX5_probes_98 : decode cX5_probes 98 = .ok (.invokevirtual 160, 3) := by decide +kernel
theorem dX5_probes_101 : decode cX5_probes 101 = .ok (.goto 10, 3) := by decide +kernel
theorem dX5_probes_104 : decode cX5_probes 104 = .ok (.iload 4, 2) := by decide +kernel
theorem dX5_probes_106 : decode cX5_probes 106 = .ok (.aload_n 0, 1) := by decide +kernel
theorem dX5_probes_107 : decode cX5_probes 107 = .ok (.getfield 16, 3) := by decide +kernel
theorem dX5_probes_110 : decode cX5_probes 110 = .ok (.idiv, 1) := by decide +kernel
theorem dX5_probes_111 : decode cX5_probes 111 = .ok (.iadd, 1) := by decide +kernel
theorem dX5_probes_112 : decode cX5_probes 112 = .ok (.ireturn, 1) := by decide +kernel
theorem dX5_linearProbes_0 : decode cX5_linearProbes 0 = .ok (.aload_n 0, 1) := by decide +kernel
theorem dX5_linearProbes_1 : decode cX5_linearProbes 1 = .ok (.iload_n 1, 1) := by decide +kernel
theorem dX5_linearProbes_2 : decode cX5_linearProbes 2 = .ok (.invokevirtual 132, 3) := by decide +kernel
theorem dX5_linearProbes_5 : decode cX5_linearProbes 5 = .ok (.ifCond .ne 5, 3) := by decide +kernel
theorem dX5_linearProbes_8 : decode cX5_linearProbes 8 = .ok (.iconst 0, 1) := by decide +kernel
theorem dX5_linearProbes_9 : decode cX5_linearProbes 9 = .ok (.ireturn, 1) := by decide +kernel
theorem dX5_linearProbes_10 : decode cX5_linearProbes 10 = .ok (.iconst 0, 1) := by decide +kernel
theorem dX5_linearProbes_11 : decode cX5_linearProbes 11 = .ok (.istore_n 2, 1) := by decide +kernel
theorem dX5_linearProbes_12 : decode cX5_linearProbes 12 = .ok (.iconst (-1), 1) := by decide +kernel
theorem dX5_linearProbes_13 : decode cX5_linearProbes 13 = .ok (.istore_n 3, 1) := by decide +kernel
theorem dX5_linearProbes_14 : decode cX5_linearProbes 14 = .ok (.iconst 0, 1) := by decide +kernel
theorem dX5_linearProbes_15 : decode cX5_linearProbes 15 = .ok (.istore 4, 2) := by decide +kernel
theorem dX5_linearProbes_17 : decode cX5_linearProbes 17 = .ok (.iload 4, 2) := by decide +kernel
theorem dX5_linearProbes_19 : decode cX5_linearProbes 19 = .ok (.aload_n 0, 1) := by decide +kernel
theorem dX5_linearProbes_20 : decode cX5_linearProbes 20 = .ok (.getfield 51, 3) := by decide +kernel
theorem dX5_linearProbes_23 : decode cX5_linearProbes 23 = .ok (.if_icmp .ge 53, 3) := by decide +kernel
theorem dX5_linearProbes_26 : decode cX5_linearProbes 26 = .ok (.aload_n 0, 1) := by decide +kernel
theorem dX5_linearProbes_27 : decode cX5_linearProbes 27 = .ok (.getfield 32, 3) := by decide +kernel
theorem dX5_linearProbes_30 : decode cX5_linearProbes 30 = .ok (.iload 4, 2) := by decide +kernel
theorem dX5_linearProbes_32 : decode cX5_linearProbes 32 = .ok (.iaload, 1) := by decide +kernel
theorem dX5_linearProbes_33 : decode cX5_linearProbes 33 = .ok (.iload_n 1, 1) := by decide +kernel
theorem dX5_linearProbes_34 : decode cX5_linearProbes 34 = .ok (.if_icmp .ne 7, 3) := by decide +kernel
theorem dX5_linearProbes_37 : decode cX5_linearProbes 37 = .ok (.iload_n 2, 1) := by decide +kernel
theorem dX5_linearProbes_38 : decode cX5_linearProbes 38 = .ok (.goto 4, 3) := by decide +kernel
theorem dX5_linearProbes_41 : decode cX5_linearProbes 41 = .ok (.iload_n 3, 1) := by decide +kernel
theorem dX5_linearProbes_42 : decode cX5_linearProbes 42 = .ok (.istore_n 3, 1) := by decide +kernel
theorem dX5_linearProbes_43 : decode cX5_linearProbes 43 = .ok (.iload_n 2, 1) := by decide +kernel
theorem dX5_linearProbes_44 : decode cX5_linearProbes 44 = .ok (.aload_n 0, 1) := by decide +kernel
theorem dX5_linearProbes_45 : decode cX5_linearProbes 45 = .ok (.aload_n 0, 1) := by decide +kernel
theorem dX5_linearProbes_46 : decode cX5_linearProbes 46 = .ok (.getfield 32, 3) := by decide +kernel
theorem dX5_linearProbes_49 : decode cX5_linearProbes 49 = .ok (.iload 4, 2) := by decide +kernel
theorem dX5_linearProbes_51 : decode cX5_linearProbes 51 = .ok (.iaload, 1) := by decide +kernel
theorem dX5_linearProbes_52 : decode cX5_linearProbes 52 = .ok (.invokevirtual 115, 3) := by decide +kernel
theorem dX5_linearProbes_55 : decode cX5_linearProbes 55 = .ok (.aload_n 0, 1) := by decide +kernel
theorem dX5_linearProbes_56 : decode cX5_linearProbes 56 = .ok (.iload_n 1, 1) := by decide +kernel
theorem dX5_linearProbes_57 : decode cX5_linearProbes 57 = .ok (.invokevirtual 115, 3) := by decide +kernel
theorem dX5_linearProbes_60 : decode cX5_linearProbes 60 = .ok (.if_icmp .ne 7, 3) := by decide +kernel
theorem dX5_linearProbes_63 : decode cX5_linearProbes 63 = .ok (.iconst 1, 1) := by decide +kernel
theorem dX5_linearProbes_64 : decode cX5_linearProbes 64 = .ok (.goto 4, 3) := by decide +kernel
theorem dX5_linearProbes_67 : decode cX5_linearProbes 67 = .ok (.iconst 0, 1) := by decide +kernel
theorem dX5_linearProbes_68 : decode cX5_linearProbes 68 = .ok (.iadd, 1) := by decide +kernel
theorem dX5_linearProbes_69 : decode cX5_linearProbes 69 = .ok (.istore_n 2, 1) := by decide +kernel
theorem dX5_linearProbes_70 : decode cX5_linearProbes 70 = .ok (.iinc 4 1, 3) := by decide +kernel
theorem dX5_linearProbes_73 : decode cX5_linearProbes 73 = .ok (.goto (-56), 3) := by decide +kernel
theorem dX5_linearProbes_76 : decode cX5_linearProbes 76 = .ok (.iconst 1, 1) := by decide +kernel
theorem dX5_linearProbes_77 : decode cX5_linearProbes 77 = .ok (.iload_n 3, 1) := by decide +kernel
theorem dX5_linearProbes_78 : decode cX5_linearProbes 78 = .ok (.iconst (-1), 1) := by decide +kernel
theorem dX5_linearProbes_79 : decode cX5_linearProbes 79 = .ok (.if_icmp .ne 11, 3) := by decide +kernel
theorem dX5_linearProbes_82 : decode cX5_linearProbes 82 = .ok (.aload_n 0, 1) := by decide +kernel
theorem dX5_linearProbes_83 : decode cX5_linearProbes 83 = .ok (.iload_n 2, 1) := by decide +kernel
theorem dX5_linearProbes_84 : decode cX5_linearProbes 84 = .ok (.invokevirtual 160, 3) := by decide +kernel
theorem dX5_linearProbes_87 : decode cX5_linearProbes 87 = .ok (.goto 9, 3) := by decide +kernel
theorem dX5_linearProbes_90 : decode cX5_linearProbes 90 = .ok (.iload_n 3, 1) := by decide +kernel
theorem dX5_linearProbes_91 : decode cX5_linearProbes 91 = .ok (.aload_n 0, 1) := by decide +kernel
theorem dX5_linearProbes_92 : decode cX5_linearProbes 92 = .ok (.getfield 16, 3) := by decide +kernel
theorem dX5_linearProbes_95 : decode cX5_linearProbes 95 = .ok (.idiv, 1) := by decide +kernel
theorem dX5_linearProbes_96 : decode cX5_linearProbes 96 = .ok (.iadd, 1) := by decide +kernel
theorem dX5_linearProbes_97 : decode cX5_linearProbes 97 = .ok (.ireturn, 1) := by decide +kernel
set_option maxHeartbeats 4000000 in
set_option maxRecDepth 100000 in
theorem c_X5_keyAt (l : Launch) (D : va_G) (cy : ClassId) (bb : Nat → Nat) (sto : Nat → Nat) (vas : Nat → Nat) (sz : Nat) (cap : Nat) (low : Nat) (hig : Nat) (dpt : Nat → Nat) (glo : Nat) (ext : Nat → Nat) (mdb : Int32) (mhl : Int32) (msp : Int32) (mmg : Int32) (lin : Nat → Nat) (mlv : Nat) (mpt : Nat) (mls : Int32) (mov : Nat → Nat) (thr : Nat) (sl : Int32) (pl : Int32) (S : List (Nat × Nat)) (dep : Nat → Nat) (E L : List Nat) (hMR : MR sto vas sz dpt ext lin mov S dep E L) (hMC : MC cap low hig glo mlv mpt dep)  : tq_I (S := Nat) l yX5_keyAt cX5_keyAt 6 (some .int) 3 67 0 0 D cy (wM cy bb sto vas sz cap low hig dpt glo ext mdb mhl msp mmg lin mlv mpt mls mov thr) [.ref (bb 0), .int (sl), .int (pl)] (fun r u => ((∃ k, k < 2 ^ glo ∧ sl = nI k ∧ (∃ p, p < (clB E k (dep k)).length ∧ pl = nI p ∧ r = nI ((clB E k (dep k)).getD p 0))) ∧ u = 0) ∨ (¬ (∃ k p : Nat, k < 2 ^ glo ∧ sl = nI k ∧ p < (clB E k (dep k)).length ∧ pl = nI p) ∧ u = 1)) (fun u => (wM cy bb sto vas sz cap low hig dpt glo ext mdb mhl msp mmg lin mlv mpt mls mov u)) := by
  refine tq_I.mk (by decide) (Nat.le_of_ble_eq_true rfl) ?_
  intro p e s m args below meth c A C hP hK hD hS hA ls hl
  obtain ⟨hx, hb, hml, hown, hrt, hlk, hT⟩ := id C
  have hl : lv_has ls 6 [(0, .ref (bb 0)), (1, .int (sl)), (2, .int (pl))] := hl
  obtain ⟨hzS, hzE, hzL, hz120, hd, hAE, hAL, hPM, hKE, hKL, hSS, hbd⟩ := id hMR
  obtain ⟨hXo, hY, ⟨hcp1, hcp2⟩, ⟨hlo, hh1, hh2⟩⟩ := id hMC
  have hd8 : ∀ q, q < 256 → dpt q ≤ 8 := fun q hq => by have := hd q hq; have := hXo.2.1 q hq; have := hXo.1; omega
  have hg8 := hXo.1
  have hp8 := p8 hg8
  have hp9 := p2_pos glo
  refine lv_iload_n hx hb dX5_keyAt_0 rfl (lv_at hl 1 rfl) ?_
  refine lv_iconst (v := nI 0) hx hb dX5_keyAt_1 (by decide) ?_
  refine lv_iconst (v := nI 1) hx hb dX5_keyAt_2 (by decide) ?_
  refine lv_aload_n hx hb dX5_keyAt_3 rfl (lv_at hl 0 rfl) ?_
  refine tq_get (C0 := RX5) (T := TX5) (N := 19) (ci := 5) (k := 7) C gX5 inX5 rfl (by decide) rfl fl_X5_68 hK hP 0 rfl rfl dX5_keyAt_4 ?_
  refine tq_ishl C (by omega) (by omega) dX5_keyAt_7 ?_
  refine tq_top (y := nI (2 ^ glo)) (by rw [Nat.one_mul]) ?_
  refine lv_iconst (v := nI 1) hx hb dX5_keyAt_8 (by decide) ?_
  refine tq_isub C hp9 dX5_keyAt_9 ?_
  refine tq_callF (va_runS C.fix (As := [.int (sl), .int (nI 0), .int (nI ((2 ^ glo) - 1))]) (rest := []) (c_X5_in l D cy sl (nI 0) (nI ((2 ^ glo) - 1))) (tq_cS (n := 3) C ml_X5_42 sm_X5_in ini_X5 cd_X5_in ⟨by decide, by decide, by decide +kernel⟩ ⟨Nat.le_of_ble_eq_true rfl, Nat.le_of_ble_eq_true rfl⟩) ⟨tq_Pf.blind, tq_preF C hK (hP.sub [] rfl)⟩ rfl rfl hl.1 rfl (lv_room (Nat.le_of_ble_eq_true rfl)) dX5_keyAt_10 ⟨Nat.le_of_ble_eq_true rfl, Nat.le_of_ble_eq_true rfl⟩) (fun r10 hr10 => ?_)
  rcases hr10 with ⟨hr10, rfl⟩ | ⟨hr10, rfl⟩
  · obtain ⟨k, hk0, hkx⟩ := tq_rng (x := sl) (M := 2 ^ glo - 1) (by omega) (Int32.not_lt.mpr hr10.1) hr10.2
    rw [hkx] at hl
    have hk2 : k < 256 := by omega
    have hdk := hd k hk2
    have hk8 := hd8 k hk2
    have hcl : cntB E k (dpt k) ≤ 120 := by unfold cntB; exact Nat.le_trans (List.length_filter_le _ _) (by omega)
    have hcB : cntB E k (dpt k) = (clB E k (dep k)).length := by rw [hdk]; rfl
    refine lv_istore_n (lv' := [(3, .int (nI (1))), (0, .ref (bb 0)), (1, .int (nI (k))), (2, .int (pl))]) hx hb dX5_keyAt_13 rfl hl (by decide) rfl (fun ls hl => ?_)
    refine lv_aload_n hx hb dX5_keyAt_14 rfl (lv_at hl 1 rfl) ?_
    refine lv_iload_n hx hb dX5_keyAt_15 rfl (lv_at hl 0 rfl) ?_
    refine lv_if_eq (tgt := 44) hx hb dX5_keyAt_16 (by decide) (fun h9 => absurd h9 (by decide)) (fun _ => ?_)
    refine lv_iload_n hx hb dX5_keyAt_19 rfl (lv_at hl 3 rfl) ?_
    refine lv_iconst (v := nI 0) hx hb dX5_keyAt_20 (by decide) ?_
    refine lv_aload_n hx hb dX5_keyAt_21 rfl (lv_at hl 1 rfl) ?_
    refine lv_iload_n hx hb dX5_keyAt_22 rfl (lv_at hl 2 rfl) ?_
    refine lv_aload_n hx hb dX5_keyAt_23 rfl (lv_at hl 1 rfl) ?_
    refine tq_get (C0 := RX5) (T := TX5) (N := 19) (ci := 5) (k := 6) C gX5 inX5 rfl (by decide) rfl fl_X5_26 hK hP 0 rfl rfl dX5_keyAt_24 ?_
    refine lv_iload_n hx hb dX5_keyAt_27 rfl (lv_at hl 2 rfl) ?_
    refine tq_iald (n := 256) (i := k) (f := dpt) C hK hP 3 0 rfl rfl hk2 (Nat.le_of_ble_eq_true rfl) dX5_keyAt_28 ?_
    refine tq_callF (va_runV C.fix (As := [.int (nI (k)), .int (nI (dpt k))]) (rest := [.int (nI (0)), .int (pl), .ref (bb 0)]) (c_X5_inBucket l D cy bb sto vas sz cap low hig dpt glo ext mdb mhl msp mmg lin mlv mpt mls mov thr k (dpt k) E hAE hzE hz120 (fun j => (hbd j).2.2.1) (by omega) (by omega)) (tq_cV (n := 2) C ml_X5_65 im_X5_inBucket se_X5_inBucket ini_X5 cd_X5_inBucket ⟨by decide, by decide, by decide +kernel⟩ ⟨Nat.le_of_ble_eq_true rfl, Nat.le_of_ble_eq_true rfl⟩) ⟨tq_Pf.blind, va_recv hK hP (ci := 5) (q0 := 0) rfl rfl, tq_preF C hK hP⟩ rfl rfl hl.1 rfl (lv_room (Nat.le_of_ble_eq_true rfl)) dX5_keyAt_29 ⟨Nat.le_of_ble_eq_true rfl, Nat.le_of_ble_eq_true rfl⟩) (fun r29 hr29 => ?_)
    obtain rfl := hr29
    refine lv_iconst (v := nI 1) hx hb dX5_keyAt_32 (by decide) ?_
    rcases Nat.eq_zero_or_pos (cntB E k (dpt k)) with hz | hz
    · refine lv_isub hx hb dX5_keyAt_33 ?_
      refine tq_top (y := (-1)) (by rw [hz]; decide) ?_
      refine tq_callF (va_runS C.fix (As := [.int (pl), .int (nI 0), .int ((-1))]) (rest := [.ref (bb 0)]) (c_X5_in l D cy pl (nI 0) (-1)) (tq_cS (n := 3) C ml_X5_42 sm_X5_in ini_X5 cd_X5_in ⟨by decide, by decide, by decide +kernel⟩ ⟨Nat.le_of_ble_eq_true rfl, Nat.le_of_ble_eq_true rfl⟩) ⟨tq_Pf.blind, tq_preF C hK (hP.sub [] rfl)⟩ rfl rfl hl.1 rfl (lv_room (Nat.le_of_ble_eq_true rfl)) dX5_keyAt_34 ⟨Nat.le_of_ble_eq_true rfl, Nat.le_of_ble_eq_true rfl⟩) (fun r34 hr34 => ?_)
      rcases hr34 with ⟨hr34, rfl⟩ | ⟨hr34, rfl⟩
      · exact absurd (Int32.lt_of_lt_of_le (by decide : (-1 : Int32) < nI 0) (Int32.le_trans hr34.1 hr34.2)) (by decide)
      · refine lv_if_eq (tgt := 44) hx hb dX5_keyAt_37 (by decide) (fun _ => ?_) (fun h9 => absurd (by decide : nI 0 = 0) h9)
        refine lv_iconst (v := nI 0) hx hb dX5_keyAt_44 (by decide) ?_
        refine tq_callI (W3 := fun u => (wM cy bb sto vas sz cap low hig dpt glo ext mdb mhl msp mmg lin mlv mpt mls mov 1)) (wr := []) (va_runV C.fix (As := [.int (nI (0))]) (rest := []) ((c_X5_asked_0 l D cy bb sto vas sz cap low hig dpt glo ext mdb mhl msp mmg lin mlv mpt mls mov thr 0 rfl) s.heap.size) (tq_cV (n := 1) C ml_X5_46 im_X5_asked se_X5_asked ini_X5 cd_X5_asked ⟨by decide, by decide, by decide +kernel⟩ ⟨Nat.le_of_ble_eq_true rfl, Nat.le_of_ble_eq_true rfl⟩) ⟨tq_Pc.blind, va_recv hK hP (ci := 5) (q0 := 0) rfl rfl, tq_preC C hK hP hD⟩ rfl rfl hl.1 rfl (lv_room (Nat.le_of_ble_eq_true rfl)) dX5_keyAt_45 ⟨Nat.le_of_ble_eq_true rfl, Nat.le_of_ble_eq_true rfl⟩) hP hD hS hA [0, 1, 2, 3, 4, 5, 6] [] [0, 1, 2, 3, 4, 5, 6] rfl rfl (by decide) (by decide) (by decide) (fun _ => rfl) (fun r45 u45 H locs hr45 hP hD hS => ?_)
        have hP : va_P D vwCl (wM cy bb sto vas sz cap low hig dpt glo ext mdb mhl msp mmg lin mlv mpt mls mov 1) H := hP
        have hD : va_D A (wM cy bb sto vas sz cap low hig dpt glo ext mdb mhl msp mmg lin mlv mpt mls mov 1) := hD
        obtain rfl := hr45.symm
        refine lv_if_ne (tgt := 53) hx hb dX5_keyAt_48 (by decide) (fun h9 => absurd (by decide : nI 0 = 0) h9) (fun _ => ?_)
        refine lv_iconst (v := nI 0) hx hb dX5_keyAt_51 (by decide) ?_
        exact tq_iret (v := (nI (0))) C rfl (1) hP hD hS (Or.inr ⟨fun ⟨k7, p7, b1, b2, b3, b4⟩ => (by have h9 := (nI_eq (by omega) (by omega)).mp (hkx.symm.trans b2); subst h9; omega), rfl⟩) (Nat.le_of_ble_eq_true rfl) (Nat.le_of_ble_eq_true rfl) dX5_keyAt_52
    · refine tq_isub C (by omega) dX5_keyAt_33 ?_
      refine tq_callF (va_runS C.fix (As := [.int (pl), .int (nI 0), .int (nI ((cntB E k (dpt k)) - 1))]) (rest := [.ref (bb 0)]) (c_X5_in l D cy pl (nI 0) (nI ((cntB E k (dpt k)) - 1))) (tq_cS (n := 3) C ml_X5_42 sm_X5_in ini_X5 cd_X5_in ⟨by decide, by decide, by decide +kernel⟩ ⟨Nat.le_of_ble_eq_true rfl, Nat.le_of_ble_eq_true rfl⟩) ⟨tq_Pf.blind, tq_preF C hK (hP.sub [] rfl)⟩ rfl rfl hl.1 rfl (lv_room (Nat.le_of_ble_eq_true rfl)) dX5_keyAt_34 ⟨Nat.le_of_ble_eq_true rfl, Nat.le_of_ble_eq_true rfl⟩) (fun r34 hr34 => ?_)
      rcases hr34 with ⟨hr34, rfl⟩ | ⟨hr34, rfl⟩
      · obtain ⟨p9, hp90, hplx⟩ := tq_rng (x := pl) (M := cntB E k (dpt k) - 1) (by omega) (Int32.not_lt.mpr hr34.1) hr34.2
        have hp9b : p9 < (clB E k (dep k)).length := by omega
        rw [hplx] at hl
        refine lv_if_eq (tgt := 44) hx hb dX5_keyAt_37 (by decide) (fun h9 => absurd h9 (by decide)) (fun _ => ?_)
        refine lv_iconst (v := nI 1) hx hb dX5_keyAt_40 (by decide) ?_
        refine lv_goto (tgt := 45) hx hb dX5_keyAt_41 (by decide) ?_
        refine tq_callI (W3 := fun u => (wM cy bb sto vas sz cap low hig dpt glo ext mdb mhl msp mmg lin mlv mpt mls mov 0)) (wr := []) (va_runV C.fix (As := [.int (nI (1))]) (rest := []) ((c_X5_asked_1 l D cy bb sto vas sz cap low hig dpt glo ext mdb mhl msp mmg lin mlv mpt mls mov thr 1 rfl) s.heap.size) (tq_cV (n := 1) C ml_X5_46 im_X5_asked se_X5_asked ini_X5 cd_X5_asked ⟨by decide, by decide, by decide +kernel⟩ ⟨Nat.le_of_ble_eq_true rfl, Nat.le_of_ble_eq_true rfl⟩) ⟨tq_Pc.blind, va_recv hK hP (ci := 5) (q0 := 0) rfl rfl, tq_preC C hK hP hD⟩ rfl rfl hl.1 rfl (lv_room (Nat.le_of_ble_eq_true rfl)) dX5_keyAt_45 ⟨Nat.le_of_ble_eq_true rfl, Nat.le_of_ble_eq_true rfl⟩) hP hD hS hA [0, 1, 2, 3, 4, 5, 6] [] [0, 1, 2, 3, 4, 5, 6] rfl rfl (by decide) (by decide) (by decide) (fun _ => rfl) (fun r45 u45 H locs hr45 hP hD hS => ?_)
        have hP : va_P D vwCl (wM cy bb sto vas sz cap low hig dpt glo ext mdb mhl msp mmg lin mlv mpt mls mov 0) H := hP
        have hD : va_D A (wM cy bb sto vas sz cap low hig dpt glo ext mdb mhl msp mmg lin mlv mpt mls mov 0) := hD
        obtain rfl := hr45.symm
        refine lv_if_ne (tgt := 53) hx hb dX5_keyAt_48 (by decide) (fun _ => ?_) (fun h9 => absurd h9 (by decide))
        refine lv_iload_n hx hb dX5_keyAt_53 rfl (lv_at hl 3 rfl) ?_
        refine lv_istore (lv' := [(4, .int (nI (p9))), (3, .int (nI (1))), (0, .ref (bb 0)), (1, .int (nI (k))), (2, .int (nI (p9)))]) hx hb dX5_keyAt_54 hl (by decide) rfl (fun ls hl => ?_)
        refine lv_iconst (v := nI 0) hx hb dX5_keyAt_56 (by decide) ?_
        refine lv_istore (lv' := [(5, .int (nI (0))), (4, .int (nI (p9))), (3, .int (nI (1))), (0, .ref (bb 0)), (1, .int (nI (k))), (2, .int (nI (p9)))]) hx hb dX5_keyAt_57 hl (by decide) rfl (fun ls hl => ?_)
        suffices hlp59 : ∀ (n59 : Nat) (q : Nat) (left1 : Int32), sz + 1 - q < n59 → (q ≤ sz) → ((cntB (E.take q) k (dep k) ≤ p9 ∧ left1 = nI (p9 - cntB (E.take q) k (dep k))) ∨ (left1 = -1 ∧ 1 ≤ q ∧ E.getD (q - 1) 0 = (clB E k (dep k)).getD p9 0)) → ∀ (H : Heap) (locs : List Loc), va_P D vwCl (wM cy bb sto vas sz cap low hig dpt glo ext mdb mhl msp mmg lin mlv mpt mls mov 0) H → va_D A (wM cy bb sto vas sz cap low hig dpt glo ext mdb mhl msp mmg lin mlv mpt mls mov 0) → va_S A s.heap H locs → ∀ ls : Array Slot, lv_has ls 6 [(0, .ref (bb 0)), (1, .int (nI (k))), (2, .int (nI (p9))), (3, .int (nI (1))), (4, .int (left1)), (5, .int (nI (q)))] → W p l e ({ frames := 3, cells := 0, slots := 0, locals := 67 } : Room) s m args below meth c H locs (0 + 0) (0 + 0) (MQ below (va_Qi (S := Nat) (fun r u => ((∃ k, k < 2 ^ glo ∧ sl = nI k ∧ (∃ p, p < (clB E k (dep k)).length ∧ pl = nI p ∧ r = nI ((clB E k (dep k)).getD p 0))) ∧ u = 0) ∨ (¬ (∃ k p : Nat, k < 2 ^ glo ∧ sl = nI k ∧ p < (clB E k (dep k)).length ∧ pl = nI p) ∧ u = 1)) (tq_B D A (fun u => (wM cy bb sto vas sz cap low hig dpt glo ext mdb mhl msp mmg lin mlv mpt mls mov u))) A) args s 0 0 A) (F0 m 59 ls []) from
          hlp59 (sz + 2) 0 (nI p9) (by omega) (Nat.zero_le _) (Or.inl ⟨by rw [List.take_zero]; exact Nat.zero_le _, by rw [List.take_zero]; rfl⟩) _ _ hP hD hS _ (lv_sub hl [3, 4, 5, 2, 1, 0] rfl)
        intro n59
        induction n59 with
        | zero => intro q left1 hf; exact absurd hf (Nat.not_lt_zero _)
        | succ n59 ih59 =>
          intro q left1 hf59 hq hlf H locs hP hD hS ls hl
          rcases hlf with ⟨hc9, rfl⟩ | ⟨rfl, h1q, hE1⟩
          · have hq2 : q < E.length := by
              rcases Nat.lt_or_ge q E.length with z | z
              · exact z
              · rw [List.take_of_length_le z] at hc9; unfold clB at hp9b; unfold cntB at hc9; omega
            have hct := cnt_take (x := k) (b := dep k) hq2
            have hnt := nth_of (p := fun y => hs y % 2 ^ dep k == k % 2 ^ dep k) hq2
            refine lv_iload hx hb dX5_keyAt_59 (lv_at hl 4 rfl) ?_
            refine tq_if_lt (tgt := 100) C (by omega) dX5_keyAt_61 (by decide) ?_
            refine lv_iload hx hb dX5_keyAt_64 (lv_at hl 4 rfl) ?_
            refine lv_aload_n hx hb dX5_keyAt_66 rfl (lv_at hl 0 rfl) ?_
            refine tq_get (C0 := RX5) (T := TX5) (N := 19) (ci := 5) (k := 8) C gX5 inX5 rfl (by decide) rfl fl_X5_29 hK hP 0 rfl rfl dX5_keyAt_67 ?_
            refine lv_iload hx hb dX5_keyAt_70 (lv_at hl 5 rfl) ?_
            refine tq_iald (n := 120) (i := q) (f := ext) C hK hP 4 0 rfl rfl (by omega) (Nat.le_of_ble_eq_true rfl) dX5_keyAt_72 ?_
            refine lv_iload_n hx hb dX5_keyAt_73 rfl (lv_at hl 1 rfl) ?_
            refine lv_aload_n hx hb dX5_keyAt_74 rfl (lv_at hl 0 rfl) ?_
            refine tq_get (C0 := RX5) (T := TX5) (N := 19) (ci := 5) (k := 6) C gX5 inX5 rfl (by decide) rfl fl_X5_26 hK hP 0 rfl rfl dX5_keyAt_75 ?_
            refine lv_iload_n hx hb dX5_keyAt_78 rfl (lv_at hl 1 rfl) ?_
            refine tq_iald (n := 256) (i := k) (f := dpt) C hK hP 3 0 rfl rfl hk2 (Nat.le_of_ble_eq_true rfl) dX5_keyAt_79 ?_
            refine tq_callF (va_runS C.fix (As := [.int (nI (ext q)), .int (nI (k)), .int (nI (dpt k))]) (rest := [.int (nI (p9 - cntB (E.take q) k (dep k)))]) (c_X5_belongs l D cy (ext q) k (dpt k) ((hbd q).2.2.1) (by omega) (by omega)) (tq_cS (n := 3) C ml_X5_62 sm_X5_belongs ini_X5 cd_X5_belongs ⟨by decide, by decide, by decide +kernel⟩ ⟨Nat.le_of_ble_eq_true rfl, Nat.le_of_ble_eq_true rfl⟩) ⟨tq_Pf.blind, tq_preF C hK (hP.sub [] rfl)⟩ rfl rfl hl.1 rfl (lv_room (Nat.le_of_ble_eq_true rfl)) dX5_keyAt_80 ⟨Nat.le_of_ble_eq_true rfl, Nat.le_of_ble_eq_true rfl⟩) (fun r80 hr80 => ?_)
            rcases hr80 with ⟨hr80, rfl⟩ | ⟨hr80, rfl⟩
            · rw [hdk, hAE q hq2] at hr80
              rw [if_pos hr80] at hct
              have hnt2 := hnt (by simpa using hr80)
              refine lv_if_eq (tgt := 90) hx hb dX5_keyAt_83 (by decide) (fun h9 => absurd h9 (by decide)) (fun _ => ?_)
              refine lv_iconst (v := nI 1) hx hb dX5_keyAt_86 (by decide) ?_
              refine lv_goto (tgt := 91) hx hb dX5_keyAt_87 (by decide) ?_
              rcases Nat.lt_or_eq_of_le hc9 with hz9 | hz9
              · refine tq_isub C (by omega) dX5_keyAt_91 ?_
                refine lv_istore (lv' := [(4, .int (nI ((p9 - cntB (E.take q) k (dep k)) - 1))), (0, .ref (bb 0)), (1, .int (nI (k))), (2, .int (nI (p9))), (3, .int (nI (1))), (5, .int (nI (q)))]) hx hb dX5_keyAt_92 hl (by decide) rfl (fun ls hl => ?_)
                refine lv_iinc (v := (nI (q + 1))) (lv' := [(5, .int (nI (q + 1))), (4, .int (nI ((p9 - cntB (E.take q) k (dep k)) - 1))), (0, .ref (bb 0)), (1, .int (nI (k))), (2, .int (nI (p9))), (3, .int (nI (1)))]) hx hb dX5_keyAt_94 hl (k := 5) rfl (tq_inc1 _) (by decide) rfl (fun ls hl => ?_)
                refine lv_goto (tgt := 59) hx hb dX5_keyAt_97 (by decide) ?_
                exact ih59 (q + 1) (nI (p9 - cntB (E.take q) k (dep k) - 1)) (by omega) (by omega) (Or.inl ⟨by omega, by rw [hct, Nat.sub_sub]⟩) _ _ hP hD hS _ (lv_sub hl [2, 3, 4, 5, 1, 0] rfl)
              · refine lv_isub hx hb dX5_keyAt_91 ?_
                refine tq_top (y := (-1)) (by rw [hz9, Nat.sub_self]; decide) ?_
                refine lv_istore (lv' := [(4, .int ((-1))), (0, .ref (bb 0)), (1, .int (nI (k))), (2, .int (nI (p9))), (3, .int (nI (1))), (5, .int (nI (q)))]) hx hb dX5_keyAt_92 hl (by decide) rfl (fun ls hl => ?_)
                refine lv_iinc (v := (nI (q + 1))) (lv' := [(5, .int (nI (q + 1))), (4, .int ((-1))), (0, .ref (bb 0)), (1, .int (nI (k))), (2, .int (nI (p9))), (3, .int (nI (1)))]) hx hb dX5_keyAt_94 hl (k := 5) rfl (tq_inc1 _) (by decide) rfl (fun ls hl => ?_)
                refine lv_goto (tgt := 59) hx hb dX5_keyAt_97 (by decide) ?_
                exact ih59 (q + 1) (-1) (by omega) (by omega) (Or.inr ⟨rfl, by omega, by rw [Nat.add_sub_cancel, ← hnt2]; unfold cntB at hz9; rw [hz9]; rfl⟩) _ _ hP hD hS _ (lv_sub hl [2, 3, 4, 5, 1, 0] rfl)
            · rw [hdk, hAE q hq2] at hr80
              rw [if_neg hr80] at hct
              refine lv_if_eq (tgt := 90) hx hb dX5_keyAt_83 (by decide) (fun _ => ?_) (fun h9 => absurd (by decide : nI 0 = 0) h9)
              refine lv_iconst (v := nI 0) hx hb dX5_keyAt_90 (by decide) ?_
              refine tq_isub C (by omega) dX5_keyAt_91 ?_
              refine lv_istore (lv' := [(4, .int (nI ((p9 - cntB (E.take q) k (dep k)) - 0))), (0, .ref (bb 0)), (1, .int (nI (k))), (2, .int (nI (p9))), (3, .int (nI (1))), (5, .int (nI (q)))]) hx hb dX5_keyAt_92 hl (by decide) rfl (fun ls hl => ?_)
              refine lv_iinc (v := (nI (q + 1))) (lv' := [(5, .int (nI (q + 1))), (4, .int (nI ((p9 - cntB (E.take q) k (dep k)) - 0))), (0, .ref (bb 0)), (1, .int (nI (k))), (2, .int (nI (p9))), (3, .int (nI (1)))]) hx hb dX5_keyAt_94 hl (k := 5) rfl (tq_inc1 _) (by decide) rfl (fun ls hl => ?_)
              refine lv_goto (tgt := 59) hx hb dX5_keyAt_97 (by decide) ?_
              exact ih59 (q + 1) (nI (p9 - cntB (E.take q) k (dep k) - 0)) (by omega) (by omega) (Or.inl ⟨by omega, by rw [hct, Nat.sub_zero, Nat.add_zero]⟩) _ _ hP hD hS _ (lv_sub hl [2, 3, 4, 5, 1, 0] rfl)
          · refine lv_iload hx hb dX5_keyAt_59 (lv_at hl 4 rfl) ?_
            refine lv_if_lt (tgt := 100) hx hb dX5_keyAt_61 (by decide) (fun h61 => ?_) (fun h61 => ?_)
            · refine lv_aload_n hx hb dX5_keyAt_100 rfl (lv_at hl 0 rfl) ?_
              refine tq_get (C0 := RX5) (T := TX5) (N := 19) (ci := 5) (k := 8) C gX5 inX5 rfl (by decide) rfl fl_X5_29 hK hP 0 rfl rfl dX5_keyAt_101 ?_
              refine lv_iload hx hb dX5_keyAt_104 (lv_at hl 5 rfl) ?_
              refine lv_iconst (v := nI 1) hx hb dX5_keyAt_106 (by decide) ?_
              refine tq_isub C h1q dX5_keyAt_107 ?_
              refine tq_iald (n := 120) (i := (q - 1)) (f := ext) C hK hP 4 0 rfl rfl (by omega) (Nat.le_of_ble_eq_true rfl) dX5_keyAt_108 ?_
              exact tq_iret (v := (nI (ext (q - 1)))) C rfl (0) hP hD hS (Or.inl ⟨⟨k, by omega, hkx, p9, hp9b, hplx, by rw [← hE1, hAE _ (by omega)]⟩, rfl⟩) (Nat.le_of_ble_eq_true rfl) (Nat.le_of_ble_eq_true rfl) dX5_keyAt_109
            · exact absurd (by decide : (-1 : Int32) < 0) h61
      · refine lv_if_eq (tgt := 44) hx hb dX5_keyAt_37 (by decide) (fun _ => ?_) (fun h9 => absurd (by decide : nI 0 = 0) h9)
        refine lv_iconst (v := nI 0) hx hb dX5_keyAt_44 (by decide) ?_
        refine tq_callI (W3 := fun u => (wM cy bb sto vas sz cap low hig dpt glo ext mdb mhl msp mmg lin mlv mpt mls mov 1)) (wr := []) (va_runV C.fix (As := [.int (nI (0))]) (rest := []) ((c_X5_asked_0 l D cy bb sto vas sz cap low hig dpt glo ext mdb mhl msp mmg lin mlv mpt mls mov thr 0 rfl) s.heap.size) (tq_cV (n := 1) C ml_X5_46 im_X5_asked se_X5_asked ini_X5 cd_X5_asked ⟨by decide, by decide, by decide +kernel⟩ ⟨Nat.le_of_ble_eq_true rfl, Nat.le_of_ble_eq_true rfl⟩) ⟨tq_Pc.blind, va_recv hK hP (ci := 5) (q0 := 0) rfl rfl, tq_preC C hK hP hD⟩ rfl rfl hl.1 rfl (lv_room (Nat.le_of_ble_eq_true rfl)) dX5_keyAt_45 ⟨Nat.le_of_ble_eq_true rfl, Nat.le_of_ble_eq_true rfl⟩) hP hD hS hA [0, 1, 2, 3, 4, 5, 6] [] [0, 1, 2, 3, 4, 5, 6] rfl rfl (by decide) (by decide) (by decide) (fun _ => rfl) (fun r45 u45 H locs hr45 hP hD hS => ?_)
        have hP : va_P D vwCl (wM cy bb sto vas sz cap low hig dpt glo ext mdb mhl msp mmg lin mlv mpt mls mov 1) H := hP
        have hD : va_D A (wM cy bb sto vas sz cap low hig dpt glo ext mdb mhl msp mmg lin mlv mpt mls mov 1) := hD
        obtain rfl := hr45.symm
        refine lv_if_ne (tgt := 53) hx hb dX5_keyAt_48 (by decide) (fun h9 => absurd (by decide : nI 0 = 0) h9) (fun _ => ?_)
        refine lv_iconst (v := nI 0) hx hb dX5_keyAt_51 (by decide) ?_
        exact tq_iret (v := (nI (0))) C rfl (1) hP hD hS (Or.inr ⟨fun ⟨k7, p7, b1, b2, b3, b4⟩ => (by have h9 := (nI_eq (by omega) (by omega)).mp (hkx.symm.trans b2); subst h9; exact hr34 (by rw [b4]; exact ⟨nI_le (Nat.zero_le p7) (by omega), nI_le (by omega) (by omega)⟩)), rfl⟩) (Nat.le_of_ble_eq_true rfl) (Nat.le_of_ble_eq_true rfl) dX5_keyAt_52
  · refine lv_istore_n (lv' := [(3, .int (nI (0))), (0, .ref (bb 0)), (1, .int (sl)), (2, .int (pl))]) hx hb dX5_keyAt_13 rfl hl (by decide) rfl (fun ls hl => ?_)
    refine lv_aload_n hx hb dX5_keyAt_14 rfl (lv_at hl 1 rfl) ?_
    refine lv_iload_n hx hb dX5_keyAt_15 rfl (lv_at hl 0 rfl) ?_
    refine lv_if_eq (tgt := 44) hx hb dX5_keyAt_16 (by decide) (fun _ => ?_) (fun h9 => absurd (by decide : nI 0 = 0) h9)
    refine lv_iconst (v := nI 0) hx hb dX5_keyAt_44 (by decide) ?_
    refine tq_callI (W3 := fun u => (wM cy bb sto vas sz cap low hig dpt glo ext mdb mhl msp mmg lin mlv mpt mls mov 1)) (wr := []) (va_runV C.fix (As := [.int (nI (0))]) (rest := []) ((c_X5_asked_0 l D cy bb sto vas sz cap low hig dpt glo ext mdb mhl msp mmg lin mlv mpt mls mov thr 0 rfl) s.heap.size) (tq_cV (n := 1) C ml_X5_46 im_X5_asked se_X5_asked ini_X5 cd_X5_asked ⟨by decide, by decide, by decide +kernel⟩ ⟨Nat.le_of_ble_eq_true rfl, Nat.le_of_ble_eq_true rfl⟩) ⟨tq_Pc.blind, va_recv hK hP (ci := 5) (q0 := 0) rfl rfl, tq_preC C hK hP hD⟩ rfl rfl hl.1 rfl (lv_room (Nat.le_of_ble_eq_true rfl)) dX5_keyAt_45 ⟨Nat.le_of_ble_eq_true rfl, Nat.le_of_ble_eq_true rfl⟩) hP hD hS hA [0, 1, 2, 3, 4, 5, 6] [] [0, 1, 2, 3, 4, 5, 6] rfl rfl (by decide) (by decide) (by decide) (fun _ => rfl) (fun r45 u45 H locs hr45 hP hD hS => ?_)
    have hP : va_P D vwCl (wM cy bb sto vas sz cap low hig dpt glo ext mdb mhl msp mmg lin mlv mpt mls mov 1) H := hP
    have hD : va_D A (wM cy bb sto vas sz cap low hig dpt glo ext mdb mhl msp mmg lin mlv mpt mls mov 1) := hD
    obtain rfl := hr45.symm
    refine lv_if_ne (tgt := 53) hx hb dX5_keyAt_48 (by decide) (fun h9 => absurd (by decide : nI 0 = 0) h9) (fun _ => ?_)
    refine lv_iconst (v := nI 0) hx hb dX5_keyAt_51 (by decide) ?_
    exact tq_iret (v := (nI (0))) C rfl (1) hP hD hS (Or.inr ⟨fun ⟨k7, p7, b1, b2, b3, b4⟩ => hr10 (by rw [b2]; exact ⟨nI_le (Nat.zero_le k7) (by omega), nI_le (by omega) (by omega)⟩), rfl⟩) (Nat.le_of_ble_eq_true rfl) (Nat.le_of_ble_eq_true rfl) dX5_keyAt_52
set_option maxHeartbeats 4000000 in
set_option maxRecDepth 100000 in
theorem c_X5_linearKeyAt (l : Launch) (D : va_G) (cy : ClassId) (bb : Nat → Nat) (sto : Nat → Nat) (vas : Nat → Nat) (sz : Nat) (cap : Nat) (low : Nat) (hig : Nat) (dpt : Nat → Nat) (glo : Nat) (ext : Nat → Nat) (mdb : Int32) (mhl : Int32) (msp : Int32) (mmg : Int32) (lin : Nat → Nat) (mlv : Nat) (mpt : Nat) (mls : Int32) (mov : Nat → Nat) (thr : Nat) (bk : Int32) (pl : Int32) (S : List (Nat × Nat)) (dep : Nat → Nat) (E L : List Nat) (hMR : MR sto vas sz dpt ext lin mov S dep E L) (hMC : MC cap low hig glo mlv mpt dep)  : tq_I (S := Nat) l yX5_linearKeyAt cX5_linearKeyAt 5 (some .int) 3 66 0 0 D cy (wM cy bb sto vas sz cap low hig dpt glo ext mdb mhl msp mmg lin mlv mpt mls mov thr) [.ref (bb 0), .int (bk), .int (pl)] (fun r u => ((∃ k, k < 2 ^ mlv + mpt ∧ bk = nI k ∧ (∃ p, p < (lnB L mlv mpt k).length ∧ pl = nI p ∧ r = nI ((lnB L mlv mpt k).getD p 0))) ∧ u = 0) ∨ (¬ (∃ k p : Nat, k < 2 ^ mlv + mpt ∧ bk = nI k ∧ p < (lnB L mlv mpt k).length ∧ pl = nI p) ∧ u = 1)) (fun u => (wM cy bb sto vas sz cap low hig dpt glo ext mdb mhl msp mmg lin mlv mpt mls mov u)) := by
  refine tq_I.mk (by decide) (Nat.le_of_ble_eq_true rfl) ?_
  intro p e s m args below meth c A C hP hK hD hS hA ls hl
  obtain ⟨hx, hb, hml, hown, hrt, hlk, hT⟩ := id C
  have hl : lv_has ls 5 [(0, .ref (bb 0)), (1, .int (bk)), (2, .int (pl))] := hl
  obtain ⟨hzS, hzE, hzL, hz120, hd, hAE, hAL, hPM, hKE, hKL, hSS, hbd⟩ := id hMR
  obtain ⟨hXo, hY, ⟨hcp1, hcp2⟩, ⟨hlo, hh1, hh2⟩⟩ := id hMC
  have hlv9 := hY.lev
  have hp7 := p2_le (c := 7) hlv9
  have hpt := hY.1
  have hmn := hY.2
  have hp9 := p2_pos mlv
  refine lv_aload_n hx hb dX5_linearKeyAt_0 rfl (lv_at hl 0 rfl) ?_
  refine lv_iload_n hx hb dX5_linearKeyAt_1 rfl (lv_at hl 1 rfl) ?_
  refine lv_iconst (v := nI 0) hx hb dX5_linearKeyAt_2 (by decide) ?_
  refine lv_aload_n hx hb dX5_linearKeyAt_3 rfl (lv_at hl 0 rfl) ?_
  refine tq_callF (va_runV C.fix (As := []) (rest := [.int (nI (0)), .int (bk), .ref (bb 0)]) (c_X5_linearMany l D cy bb sto vas sz cap low hig dpt glo ext mdb mhl msp mmg lin mlv mpt mls mov thr hY) (tq_cV (n := 0) C ml_X5_108 im_X5_linearMany se_X5_linearMany ini_X5 cd_X5_linearMany ⟨by decide, by decide, by decide +kernel⟩ ⟨Nat.le_of_ble_eq_true rfl, Nat.le_of_ble_eq_true rfl⟩) ⟨tq_Pf.blind, va_recv hK hP (ci := 5) (q0 := 0) rfl rfl, tq_preF C hK hP⟩ rfl rfl hl.1 rfl (lv_room (Nat.le_of_ble_eq_true rfl)) dX5_linearKeyAt_4 ⟨Nat.le_of_ble_eq_true rfl, Nat.le_of_ble_eq_true rfl⟩) (fun r4 hr4 => ?_)
  obtain rfl := hr4
  refine lv_iconst (v := nI 1) hx hb dX5_linearKeyAt_7 (by decide) ?_
  refine tq_isub C (by omega) dX5_linearKeyAt_8 ?_
  refine tq_callF (va_runS C.fix (As := [.int (bk), .int (nI 0), .int (nI ((2 ^ mlv + mpt) - 1))]) (rest := [.ref (bb 0)]) (c_X5_in l D cy bk (nI 0) (nI ((2 ^ mlv + mpt) - 1))) (tq_cS (n := 3) C ml_X5_42 sm_X5_in ini_X5 cd_X5_in ⟨by decide, by decide, by decide +kernel⟩ ⟨Nat.le_of_ble_eq_true rfl, Nat.le_of_ble_eq_true rfl⟩) ⟨tq_Pf.blind, tq_preF C hK (hP.sub [] rfl)⟩ rfl rfl hl.1 rfl (lv_room (Nat.le_of_ble_eq_true rfl)) dX5_linearKeyAt_9 ⟨Nat.le_of_ble_eq_true rfl, Nat.le_of_ble_eq_true rfl⟩) (fun r9 hr9 => ?_)
  rcases hr9 with ⟨hr9, rfl⟩ | ⟨hr9, rfl⟩
  · obtain ⟨k, hk0, hkx⟩ := tq_rng (x := bk) (M := 2 ^ mlv + mpt - 1) (by omega) (Int32.not_lt.mpr hr9.1) hr9.2
    rw [hkx] at hl
    have hk2 : k < 256 := by omega
    have hcl : lcnt L mlv mpt k ≤ 120 := by unfold lcnt lnB; exact Nat.le_trans (List.length_filter_le _ _) (by omega)
    have hcB : lcnt L mlv mpt k = (lnB L mlv mpt k).length := rfl
    refine lv_if_eq (tgt := 34) hx hb dX5_linearKeyAt_12 (by decide) (fun h9 => absurd h9 (by decide)) (fun _ => ?_)
    refine lv_iload_n hx hb dX5_linearKeyAt_15 rfl (lv_at hl 2 rfl) ?_
    refine lv_iconst (v := nI 0) hx hb dX5_linearKeyAt_16 (by decide) ?_
    refine lv_aload_n hx hb dX5_linearKeyAt_17 rfl (lv_at hl 0 rfl) ?_
    refine lv_iload_n hx hb dX5_linearKeyAt_18 rfl (lv_at hl 1 rfl) ?_
    refine tq_callF (va_runV C.fix (As := [.int (nI (k))]) (rest := [.int (nI (0)), .int (pl), .ref (bb 0)]) (c_X5_inLinear l D cy bb sto vas sz cap low hig dpt glo ext mdb mhl msp mmg lin mlv mpt mls mov thr k L hAL hzL hz120 (fun j => (hbd j).2.2.2.1) (by omega) hY) (tq_cV (n := 1) C ml_X5_166 im_X5_inLinear se_X5_inLinear ini_X5 cd_X5_inLinear ⟨by decide, by decide, by decide +kernel⟩ ⟨Nat.le_of_ble_eq_true rfl, Nat.le_of_ble_eq_true rfl⟩) ⟨tq_Pf.blind, va_recv hK hP (ci := 5) (q0 := 0) rfl rfl, tq_preF C hK hP⟩ rfl rfl hl.1 rfl (lv_room (Nat.le_of_ble_eq_true rfl)) dX5_linearKeyAt_19 ⟨Nat.le_of_ble_eq_true rfl, Nat.le_of_ble_eq_true rfl⟩) (fun r19 hr19 => ?_)
    obtain rfl := hr19
    refine lv_iconst (v := nI 1) hx hb dX5_linearKeyAt_22 (by decide) ?_
    rcases Nat.eq_zero_or_pos (lcnt L mlv mpt k) with hz | hz
    · refine lv_isub hx hb dX5_linearKeyAt_23 ?_
      refine tq_top (y := (-1)) (by rw [hz]; decide) ?_
      refine tq_callF (va_runS C.fix (As := [.int (pl), .int (nI 0), .int ((-1))]) (rest := [.ref (bb 0)]) (c_X5_in l D cy pl (nI 0) (-1)) (tq_cS (n := 3) C ml_X5_42 sm_X5_in ini_X5 cd_X5_in ⟨by decide, by decide, by decide +kernel⟩ ⟨Nat.le_of_ble_eq_true rfl, Nat.le_of_ble_eq_true rfl⟩) ⟨tq_Pf.blind, tq_preF C hK (hP.sub [] rfl)⟩ rfl rfl hl.1 rfl (lv_room (Nat.le_of_ble_eq_true rfl)) dX5_linearKeyAt_24 ⟨Nat.le_of_ble_eq_true rfl, Nat.le_of_ble_eq_true rfl⟩) (fun r24 hr24 => ?_)
      rcases hr24 with ⟨hr24, rfl⟩ | ⟨hr24, rfl⟩
      · exact absurd (Int32.lt_of_lt_of_le (by decide : (-1 : Int32) < nI 0) (Int32.le_trans hr24.1 hr24.2)) (by decide)
      · refine lv_if_eq (tgt := 34) hx hb dX5_linearKeyAt_27 (by decide) (fun _ => ?_) (fun h9 => absurd (by decide : nI 0 = 0) h9)
        refine lv_iconst (v := nI 0) hx hb dX5_linearKeyAt_34 (by decide) ?_
        refine tq_callI (W3 := fun u => (wM cy bb sto vas sz cap low hig dpt glo ext mdb mhl msp mmg lin mlv mpt mls mov 1)) (wr := []) (va_runV C.fix (As := [.int (nI (0))]) (rest := []) ((c_X5_asked_0 l D cy bb sto vas sz cap low hig dpt glo ext mdb mhl msp mmg lin mlv mpt mls mov thr 0 rfl) s.heap.size) (tq_cV (n := 1) C ml_X5_46 im_X5_asked se_X5_asked ini_X5 cd_X5_asked ⟨by decide, by decide, by decide +kernel⟩ ⟨Nat.le_of_ble_eq_true rfl, Nat.le_of_ble_eq_true rfl⟩) ⟨tq_Pc.blind, va_recv hK hP (ci := 5) (q0 := 0) rfl rfl, tq_preC C hK hP hD⟩ rfl rfl hl.1 rfl (lv_room (Nat.le_of_ble_eq_true rfl)) dX5_linearKeyAt_35 ⟨Nat.le_of_ble_eq_true rfl, Nat.le_of_ble_eq_true rfl⟩) hP hD hS hA [0, 1, 2, 3, 4, 5, 6] [] [0, 1, 2, 3, 4, 5, 6] rfl rfl (by decide) (by decide) (by decide) (fun _ => rfl) (fun r35 u35 H locs hr35 hP hD hS => ?_)
        have hP : va_P D vwCl (wM cy bb sto vas sz cap low hig dpt glo ext mdb mhl msp mmg lin mlv mpt mls mov 1) H := hP
        have hD : va_D A (wM cy bb sto vas sz cap low hig dpt glo ext mdb mhl msp mmg lin mlv mpt mls mov 1) := hD
        obtain rfl := hr35.symm
        refine lv_if_ne (tgt := 43) hx hb dX5_linearKeyAt_38 (by decide) (fun h9 => absurd (by decide : nI 0 = 0) h9) (fun _ => ?_)
        refine lv_iconst (v := nI 0) hx hb dX5_linearKeyAt_41 (by decide) ?_
        exact tq_iret (v := (nI (0))) C rfl (1) hP hD hS (Or.inr ⟨fun ⟨k7, p7, b1, b2, b3, b4⟩ => (by have h9 := (nI_eq (by omega) (by omega)).mp (hkx.symm.trans b2); subst h9; omega), rfl⟩) (Nat.le_of_ble_eq_true rfl) (Nat.le_of_ble_eq_true rfl) dX5_linearKeyAt_42
    · refine tq_isub C (by omega) dX5_linearKeyAt_23 ?_
      refine tq_callF (va_runS C.fix (As := [.int (pl), .int (nI 0), .int (nI ((lcnt L mlv mpt k) - 1))]) (rest := [.ref (bb 0)]) (c_X5_in l D cy pl (nI 0) (nI ((lcnt L mlv mpt k) - 1))) (tq_cS (n := 3) C ml_X5_42 sm_X5_in ini_X5 cd_X5_in ⟨by decide, by decide, by decide +kernel⟩ ⟨Nat.le_of_ble_eq_true rfl, Nat.le_of_ble_eq_true rfl⟩) ⟨tq_Pf.blind, tq_preF C hK (hP.sub [] rfl)⟩ rfl rfl hl.1 rfl (lv_room (Nat.le_of_ble_eq_true rfl)) dX5_linearKeyAt_24 ⟨Nat.le_of_ble_eq_true rfl, Nat.le_of_ble_eq_true rfl⟩) (fun r24 hr24 => ?_)
      rcases hr24 with ⟨hr24, rfl⟩ | ⟨hr24, rfl⟩
      · obtain ⟨p9, hp90, hplx⟩ := tq_rng (x := pl) (M := lcnt L mlv mpt k - 1) (by omega) (Int32.not_lt.mpr hr24.1) hr24.2
        have hp9b : p9 < (lnB L mlv mpt k).length := by omega
        rw [hplx] at hl
        refine lv_if_eq (tgt := 34) hx hb dX5_linearKeyAt_27 (by decide) (fun h9 => absurd h9 (by decide)) (fun _ => ?_)
        refine lv_iconst (v := nI 1) hx hb dX5_linearKeyAt_30 (by decide) ?_
        refine lv_goto (tgt := 35) hx hb dX5_linearKeyAt_31 (by decide) ?_
        refine tq_callI (W3 := fun u => (wM cy bb sto vas sz cap low hig dpt glo ext mdb mhl msp mmg lin mlv mpt mls mov 0)) (wr := []) (va_runV C.fix (As := [.int (nI (1))]) (rest := []) ((c_X5_asked_1 l D cy bb sto vas sz cap low hig dpt glo ext mdb mhl msp mmg lin mlv mpt mls mov thr 1 rfl) s.heap.size) (tq_cV (n := 1) C ml_X5_46 im_X5_asked se_X5_asked ini_X5 cd_X5_asked ⟨by decide, by decide, by decide +kernel⟩ ⟨Nat.le_of_ble_eq_true rfl, Nat.le_of_ble_eq_true rfl⟩) ⟨tq_Pc.blind, va_recv hK hP (ci := 5) (q0 := 0) rfl rfl, tq_preC C hK hP hD⟩ rfl rfl hl.1 rfl (lv_room (Nat.le_of_ble_eq_true rfl)) dX5_linearKeyAt_35 ⟨Nat.le_of_ble_eq_true rfl, Nat.le_of_ble_eq_true rfl⟩) hP hD hS hA [0, 1, 2, 3, 4, 5, 6] [] [0, 1, 2, 3, 4, 5, 6] rfl rfl (by decide) (by decide) (by decide) (fun _ => rfl) (fun r35 u35 H locs hr35 hP hD hS => ?_)
        have hP : va_P D vwCl (wM cy bb sto vas sz cap low hig dpt glo ext mdb mhl msp mmg lin mlv mpt mls mov 0) H := hP
        have hD : va_D A (wM cy bb sto vas sz cap low hig dpt glo ext mdb mhl msp mmg lin mlv mpt mls mov 0) := hD
        obtain rfl := hr35.symm
        refine lv_if_ne (tgt := 43) hx hb dX5_linearKeyAt_38 (by decide) (fun _ => ?_) (fun h9 => absurd h9 (by decide))
        refine lv_iload_n hx hb dX5_linearKeyAt_43 rfl (lv_at hl 2 rfl) ?_
        refine lv_istore_n (lv' := [(3, .int (nI (p9))), (0, .ref (bb 0)), (1, .int (nI (k))), (2, .int (nI (p9)))]) hx hb dX5_linearKeyAt_44 rfl hl (by decide) rfl (fun ls hl => ?_)
        refine lv_iconst (v := nI 0) hx hb dX5_linearKeyAt_45 (by decide) ?_
        refine lv_istore (lv' := [(4, .int (nI (0))), (3, .int (nI (p9))), (0, .ref (bb 0)), (1, .int (nI (k))), (2, .int (nI (p9)))]) hx hb dX5_linearKeyAt_46 hl (by decide) rfl (fun ls hl => ?_)
        suffices hlp48 : ∀ (n48 : Nat) (q : Nat) (left1 : Int32), sz + 1 - q < n48 → (q ≤ sz) → ((lcnt (L.take q) mlv mpt k ≤ p9 ∧ left1 = nI (p9 - lcnt (L.take q) mlv mpt k)) ∨ (left1 = -1 ∧ 1 ≤ q ∧ L.getD (q - 1) 0 = (lnB L mlv mpt k).getD p9 0)) → ∀ (H : Heap) (locs : List Loc), va_P D vwCl (wM cy bb sto vas sz cap low hig dpt glo ext mdb mhl msp mmg lin mlv mpt mls mov 0) H → va_D A (wM cy bb sto vas sz cap low hig dpt glo ext mdb mhl msp mmg lin mlv mpt mls mov 0) → va_S A s.heap H locs → ∀ ls : Array Slot, lv_has ls 5 [(0, .ref (bb 0)), (1, .int (nI (k))), (2, .int (nI (p9))), (3, .int (left1)), (4, .int (nI (q)))] → W p l e ({ frames := 3, cells := 0, slots := 0, locals := 66 } : Room) s m args below meth c H locs (0 + 0) (0 + 0) (MQ below (va_Qi (S := Nat) (fun r u => ((∃ k, k < 2 ^ mlv + mpt ∧ bk = nI k ∧ (∃ p, p < (lnB L mlv mpt k).length ∧ pl = nI p ∧ r = nI ((lnB L mlv mpt k).getD p 0))) ∧ u = 0) ∨ (¬ (∃ k p : Nat, k < 2 ^ mlv + mpt ∧ bk = nI k ∧ p < (lnB L mlv mpt k).length ∧ pl = nI p) ∧ u = 1)) (tq_B D A (fun u => (wM cy bb sto vas sz cap low hig dpt glo ext mdb mhl msp mmg lin mlv mpt mls mov u))) A) args s 0 0 A) (F0 m 48 ls []) from
          hlp48 (sz + 2) 0 (nI p9) (by omega) (Nat.zero_le _) (Or.inl ⟨by rw [List.take_zero]; exact Nat.zero_le _, by rw [List.take_zero]; rfl⟩) _ _ hP hD hS _ (lv_sub hl [2, 3, 4, 1, 0] rfl)
        intro n48
        induction n48 with
        | zero => intro q left1 hf; exact absurd hf (Nat.not_lt_zero _)
        | succ n48 ih48 =>
          intro q left1 hf48 hq hlf H locs hP hD hS ls hl
          rcases hlf with ⟨hc9, rfl⟩ | ⟨rfl, h1q, hE1⟩
          · have hq2 : q < L.length := by
              rcases Nat.lt_or_ge q L.length with z | z
              · exact z
              · rw [List.take_of_length_le z] at hc9; omega
            have hct := lcnt_take (v := mlv) (p := mpt) (r := k) hq2
            have hnt := nth_of (p := fun y => linOf mlv mpt y == k) hq2
            have hlo9 := linOf_lt hpt (lin q)
            refine lv_iload_n hx hb dX5_linearKeyAt_48 rfl (lv_at hl 3 rfl) ?_
            refine tq_if_lt (tgt := 81) C (by omega) dX5_linearKeyAt_49 (by decide) ?_
            refine lv_iload_n hx hb dX5_linearKeyAt_52 rfl (lv_at hl 3 rfl) ?_
            refine lv_aload_n hx hb dX5_linearKeyAt_53 rfl (lv_at hl 0 rfl) ?_
            refine lv_aload_n hx hb dX5_linearKeyAt_54 rfl (lv_at hl 0 rfl) ?_
            refine tq_get (C0 := RX5) (T := TX5) (N := 19) (ci := 5) (k := 13) C gX5 inX5 rfl (by decide) rfl fl_X5_32 hK hP 0 rfl rfl dX5_linearKeyAt_55 ?_
            refine lv_iload hx hb dX5_linearKeyAt_58 (lv_at hl 4 rfl) ?_
            refine tq_iald (n := 120) (i := q) (f := lin) C hK hP 5 0 rfl rfl (by omega) (Nat.le_of_ble_eq_true rfl) dX5_linearKeyAt_60 ?_
            refine tq_callF (va_runV C.fix (As := [.int (nI (lin q))]) (rest := [.int (nI (p9 - lcnt (L.take q) mlv mpt k))]) (c_X5_linearOf l D cy bb sto vas sz cap low hig dpt glo ext mdb mhl msp mmg lin mlv mpt mls mov 0 (lin q) hY ((hbd q).2.2.2.1)) (tq_cV (n := 1) C ml_X5_115 im_X5_linearOf se_X5_linearOf ini_X5 cd_X5_linearOf ⟨by decide, by decide, by decide +kernel⟩ ⟨Nat.le_of_ble_eq_true rfl, Nat.le_of_ble_eq_true rfl⟩) ⟨tq_Pf.blind, va_recv hK hP (ci := 5) (q0 := 0) rfl rfl, tq_preF C hK hP⟩ rfl rfl hl.1 rfl (lv_room (Nat.le_of_ble_eq_true rfl)) dX5_linearKeyAt_61 ⟨Nat.le_of_ble_eq_true rfl, Nat.le_of_ble_eq_true rfl⟩) (fun r61 hr61 => ?_)
            obtain rfl := hr61
            refine lv_iload_n hx hb dX5_linearKeyAt_64 rfl (lv_at hl 1 rfl) ?_
            refine tq_icmp_ne (tgt := 72) C (by omega) (by omega) dX5_linearKeyAt_65 (by decide) (fun h65 => ?_) (fun h65 => ?_)
            · rw [hAL q hq2] at h65
              rw [if_neg h65] at hct
              refine lv_iconst (v := nI 0) hx hb dX5_linearKeyAt_72 (by decide) ?_
              refine tq_isub C (by omega) dX5_linearKeyAt_73 ?_
              refine lv_istore_n (lv' := [(3, .int (nI ((p9 - lcnt (L.take q) mlv mpt k) - 0))), (0, .ref (bb 0)), (1, .int (nI (k))), (2, .int (nI (p9))), (4, .int (nI (q)))]) hx hb dX5_linearKeyAt_74 rfl hl (by decide) rfl (fun ls hl => ?_)
              refine lv_iinc (v := (nI (q + 1))) (lv' := [(4, .int (nI (q + 1))), (3, .int (nI ((p9 - lcnt (L.take q) mlv mpt k) - 0))), (0, .ref (bb 0)), (1, .int (nI (k))), (2, .int (nI (p9)))]) hx hb dX5_linearKeyAt_75 hl (k := 4) rfl (tq_inc1 _) (by decide) rfl (fun ls hl => ?_)
              refine lv_goto (tgt := 48) hx hb dX5_linearKeyAt_78 (by decide) ?_
              exact ih48 (q + 1) (nI (p9 - lcnt (L.take q) mlv mpt k - 0)) (by omega) (by omega) (Or.inl ⟨by omega, by rw [hct, Nat.sub_zero, Nat.add_zero]⟩) _ _ hP hD hS _ (lv_sub hl [2, 3, 4, 1, 0] rfl)
            · rw [hAL q hq2] at h65
              rw [if_pos h65] at hct
              have hnt2 := hnt (by simpa using h65)
              refine lv_iconst (v := nI 1) hx hb dX5_linearKeyAt_68 (by decide) ?_
              refine lv_goto (tgt := 73) hx hb dX5_linearKeyAt_69 (by decide) ?_
              rcases Nat.lt_or_eq_of_le hc9 with hz9 | hz9
              · refine tq_isub C (by omega) dX5_linearKeyAt_73 ?_
                refine lv_istore_n (lv' := [(3, .int (nI ((p9 - lcnt (L.take q) mlv mpt k) - 1))), (0, .ref (bb 0)), (1, .int (nI (k))), (2, .int (nI (p9))), (4, .int (nI (q)))]) hx hb dX5_linearKeyAt_74 rfl hl (by decide) rfl (fun ls hl => ?_)
                refine lv_iinc (v := (nI (q + 1))) (lv' := [(4, .int (nI (q + 1))), (3, .int (nI ((p9 - lcnt (L.take q) mlv mpt k) - 1))), (0, .ref (bb 0)), (1, .int (nI (k))), (2, .int (nI (p9)))]) hx hb dX5_linearKeyAt_75 hl (k := 4) rfl (tq_inc1 _) (by decide) rfl (fun ls hl => ?_)
                refine lv_goto (tgt := 48) hx hb dX5_linearKeyAt_78 (by decide) ?_
                exact ih48 (q + 1) (nI (p9 - lcnt (L.take q) mlv mpt k - 1)) (by omega) (by omega) (Or.inl ⟨by omega, by rw [hct, Nat.sub_sub]⟩) _ _ hP hD hS _ (lv_sub hl [2, 3, 4, 1, 0] rfl)
              · refine lv_isub hx hb dX5_linearKeyAt_73 ?_
                refine tq_top (y := (-1)) (by rw [hz9, Nat.sub_self]; decide) ?_
                refine lv_istore_n (lv' := [(3, .int ((-1))), (0, .ref (bb 0)), (1, .int (nI (k))), (2, .int (nI (p9))), (4, .int (nI (q)))]) hx hb dX5_linearKeyAt_74 rfl hl (by decide) rfl (fun ls hl => ?_)
                refine lv_iinc (v := (nI (q + 1))) (lv' := [(4, .int (nI (q + 1))), (3, .int ((-1))), (0, .ref (bb 0)), (1, .int (nI (k))), (2, .int (nI (p9)))]) hx hb dX5_linearKeyAt_75 hl (k := 4) rfl (tq_inc1 _) (by decide) rfl (fun ls hl => ?_)
                refine lv_goto (tgt := 48) hx hb dX5_linearKeyAt_78 (by decide) ?_
                exact ih48 (q + 1) (-1) (by omega) (by omega) (Or.inr ⟨rfl, by omega, by rw [Nat.add_sub_cancel, ← hnt2]; unfold lcnt lnB at hz9; rw [hz9]; rfl⟩) _ _ hP hD hS _ (lv_sub hl [2, 3, 4, 1, 0] rfl)
          · refine lv_iload_n hx hb dX5_linearKeyAt_48 rfl (lv_at hl 3 rfl) ?_
            refine lv_if_lt (tgt := 81) hx hb dX5_linearKeyAt_49 (by decide) (fun h49 => ?_) (fun h49 => ?_)
            · refine lv_aload_n hx hb dX5_linearKeyAt_81 rfl (lv_at hl 0 rfl) ?_
              refine tq_get (C0 := RX5) (T := TX5) (N := 19) (ci := 5) (k := 13) C gX5 inX5 rfl (by decide) rfl fl_X5_32 hK hP 0 rfl rfl dX5_linearKeyAt_82 ?_
              refine lv_iload hx hb dX5_linearKeyAt_85 (lv_at hl 4 rfl) ?_
              refine lv_iconst (v := nI 1) hx hb dX5_linearKeyAt_87 (by decide) ?_
              refine tq_isub C h1q dX5_linearKeyAt_88 ?_
              refine tq_iald (n := 120) (i := (q - 1)) (f := lin) C hK hP 5 0 rfl rfl (by omega) (Nat.le_of_ble_eq_true rfl) dX5_linearKeyAt_89 ?_
              exact tq_iret (v := (nI (lin (q - 1)))) C rfl (0) hP hD hS (Or.inl ⟨⟨k, by omega, hkx, p9, hp9b, hplx, by rw [← hE1, hAL _ (by omega)]⟩, rfl⟩) (Nat.le_of_ble_eq_true rfl) (Nat.le_of_ble_eq_true rfl) dX5_linearKeyAt_90
            · exact absurd (by decide : (-1 : Int32) < 0) h49
      · refine lv_if_eq (tgt := 34) hx hb dX5_linearKeyAt_27 (by decide) (fun _ => ?_) (fun h9 => absurd (by decide : nI 0 = 0) h9)
        refine lv_iconst (v := nI 0) hx hb dX5_linearKeyAt_34 (by decide) ?_
        refine tq_callI (W3 := fun u => (wM cy bb sto vas sz cap low hig dpt glo ext mdb mhl msp mmg lin mlv mpt mls mov 1)) (wr := []) (va_runV C.fix (As := [.int (nI (0))]) (rest := []) ((c_X5_asked_0 l D cy bb sto vas sz cap low hig dpt glo ext mdb mhl msp mmg lin mlv mpt mls mov thr 0 rfl) s.heap.size) (tq_cV (n := 1) C ml_X5_46 im_X5_asked se_X5_asked ini_X5 cd_X5_asked ⟨by decide, by decide, by decide +kernel⟩ ⟨Nat.le_of_ble_eq_true rfl, Nat.le_of_ble_eq_true rfl⟩) ⟨tq_Pc.blind, va_recv hK hP (ci := 5) (q0 := 0) rfl rfl, tq_preC C hK hP hD⟩ rfl rfl hl.1 rfl (lv_room (Nat.le_of_ble_eq_true rfl)) dX5_linearKeyAt_35 ⟨Nat.le_of_ble_eq_true rfl, Nat.le_of_ble_eq_true rfl⟩) hP hD hS hA [0, 1, 2, 3, 4, 5, 6] [] [0, 1, 2, 3, 4, 5, 6] rfl rfl (by decide) (by decide) (by decide) (fun _ => rfl) (fun r35 u35 H locs hr35 hP hD hS => ?_)
        have hP : va_P D vwCl (wM cy bb sto vas sz cap low hig dpt glo ext mdb mhl msp mmg lin mlv mpt mls mov 1) H := hP
        have hD : va_D A (wM cy bb sto vas sz cap low hig dpt glo ext mdb mhl msp mmg lin mlv mpt mls mov 1) := hD
        obtain rfl := hr35.symm
        refine lv_if_ne (tgt := 43) hx hb dX5_linearKeyAt_38 (by decide) (fun h9 => absurd (by decide : nI 0 = 0) h9) (fun _ => ?_)
        refine lv_iconst (v := nI 0) hx hb dX5_linearKeyAt_41 (by decide) ?_
        exact tq_iret (v := (nI (0))) C rfl (1) hP hD hS (Or.inr ⟨fun ⟨k7, p7, b1, b2, b3, b4⟩ => (by have h9 := (nI_eq (by omega) (by omega)).mp (hkx.symm.trans b2); subst h9; exact hr24 (by rw [b4]; exact ⟨nI_le (Nat.zero_le p7) (by omega), nI_le (by omega) (by omega)⟩)), rfl⟩) (Nat.le_of_ble_eq_true rfl) (Nat.le_of_ble_eq_true rfl) dX5_linearKeyAt_42
  · refine lv_if_eq (tgt := 34) hx hb dX5_linearKeyAt_12 (by decide) (fun _ => ?_) (fun h9 => absurd (by decide : nI 0 = 0) h9)
    refine lv_iconst (v := nI 0) hx hb dX5_linearKeyAt_34 (by decide) ?_
    refine tq_callI (W3 := fun u => (wM cy bb sto vas sz cap low hig dpt glo ext mdb mhl msp mmg lin mlv mpt mls mov 1)) (wr := []) (va_runV C.fix (As := [.int (nI (0))]) (rest := []) ((c_X5_asked_0 l D cy bb sto vas sz cap low hig dpt glo ext mdb mhl msp mmg lin mlv mpt mls mov thr 0 rfl) s.heap.size) (tq_cV (n := 1) C ml_X5_46 im_X5_asked se_X5_asked ini_X5 cd_X5_asked ⟨by decide, by decide, by decide +kernel⟩ ⟨Nat.le_of_ble_eq_true rfl, Nat.le_of_ble_eq_true rfl⟩) ⟨tq_Pc.blind, va_recv hK hP (ci := 5) (q0 := 0) rfl rfl, tq_preC C hK hP hD⟩ rfl rfl hl.1 rfl (lv_room (Nat.le_of_ble_eq_true rfl)) dX5_linearKeyAt_35 ⟨Nat.le_of_ble_eq_true rfl, Nat.le_of_ble_eq_true rfl⟩) hP hD hS hA [0, 1, 2, 3, 4, 5, 6] [] [0, 1, 2, 3, 4, 5, 6] rfl rfl (by decide) (by decide) (by decide) (fun _ => rfl) (fun r35 u35 H locs hr35 hP hD hS => ?_)
    have hP : va_P D vwCl (wM cy bb sto vas sz cap low hig dpt glo ext mdb mhl msp mmg lin mlv mpt mls mov 1) H := hP
    have hD : va_D A (wM cy bb sto vas sz cap low hig dpt glo ext mdb mhl msp mmg lin mlv mpt mls mov 1) := hD
    obtain rfl := hr35.symm
    refine lv_if_ne (tgt := 43) hx hb dX5_linearKeyAt_38 (by decide) (fun h9 => absurd (by decide : nI 0 = 0) h9) (fun _ => ?_)
    refine lv_iconst (v := nI 0) hx hb dX5_linearKeyAt_41 (by decide) ?_
    exact tq_iret (v := (nI (0))) C rfl (1) hP hD hS (Or.inr ⟨fun ⟨k7, p7, b1, b2, b3, b4⟩ => hr9 (by rw [b2]; exact ⟨nI_le (Nat.zero_le k7) (by omega), nI_le (by omega) (by omega)⟩), rfl⟩) (Nat.le_of_ble_eq_true rfl) (Nat.le_of_ble_eq_true rfl) dX5_linearKeyAt_42
set_option maxHeartbeats 4000000 in
set_option maxRecDepth 100000 in
theorem c_X5_probes (l : Launch) (D : va_G) (cy : ClassId) (bb : Nat → Nat) (sto : Nat → Nat) (vas : Nat → Nat) (sz : Nat) (cap : Nat) (low : Nat) (hig : Nat) (dpt : Nat → Nat) (glo : Nat) (ext : Nat → Nat) (mdb : Int32) (mhl : Int32) (msp : Int32) (mmg : Int32) (lin : Nat → Nat) (mlv : Nat) (mpt : Nat) (mls : Int32) (mov : Nat → Nat) (thr : Nat) (kx : Int32) (S : List (Nat × Nat)) (dep : Nat → Nat) (E L : List Nat) (hMR : MR sto vas sz dpt ext lin mov S dep E L) (hMC : MC cap low hig glo mlv mpt dep)  : tq_I (S := Nat) l yX5_probes cX5_probes 6 (some .int) 2 43 0 0 D cy (wM cy bb sto vas sz cap low hig dpt glo ext mdb mhl msp mmg lin mlv mpt mls mov thr) [.ref (bb 0), .int (kx)] (fun r u => ((∃ k, k < 65536 ∧ kx = nI k ∧ (prP (clB E (hs k % 256) (dep (hs k % 256))) cap k r)) ∧ u = 0) ∨ (¬ (isKey kx) ∧ u = 1)) (fun u => (wM cy bb sto vas sz cap low hig dpt glo ext mdb mhl msp mmg lin mlv mpt mls mov u)) := by
  refine tq_I.mk (by decide) (Nat.le_of_ble_eq_true rfl) ?_
  intro p e s m args below meth c A C hP hK hD hS hA ls hl
  obtain ⟨hx, hb, hml, hown, hrt, hlk, hT⟩ := id C
  have hl : lv_has ls 6 [(0, .ref (bb 0)), (1, .int (kx))] := hl
  obtain ⟨hzS, hzE, hzL, hz120, hd, hAE, hAL, hPM, hKE, hKL, hSS, hbd⟩ := id hMR
  obtain ⟨hXo, hY, ⟨hcp1, hcp2⟩, ⟨hlo, hh1, hh2⟩⟩ := id hMC
  have hd8 : ∀ q, q < 256 → dpt q ≤ 8 := fun q hq => by have := hd q hq; have := hXo.2.1 q hq; have := hXo.1; omega
  refine lv_aload_n hx hb dX5_probes_0 rfl (lv_at hl 0 rfl) ?_
  refine lv_iload_n hx hb dX5_probes_1 rfl (lv_at hl 1 rfl) ?_
  refine tq_callI (W3 := fun u => (wM cy bb sto vas sz cap low hig dpt glo ext mdb mhl msp mmg lin mlv mpt mls mov u)) (wr := []) (va_runV C.fix (As := [.int (kx)]) (rest := []) ((c_X5_isKey l D cy bb sto vas sz cap low hig dpt glo ext mdb mhl msp mmg lin mlv mpt mls mov thr kx) s.heap.size) (tq_cV (n := 1) C ml_X5_132 im_X5_isKey se_X5_isKey ini_X5 cd_X5_isKey ⟨by decide, by decide, by decide +kernel⟩ ⟨Nat.le_of_ble_eq_true rfl, Nat.le_of_ble_eq_true rfl⟩) ⟨tq_Pc.blind, va_recv hK hP (ci := 5) (q0 := 0) rfl rfl, tq_preC C hK hP hD⟩ rfl rfl hl.1 rfl (lv_room (Nat.le_of_ble_eq_true rfl)) dX5_probes_2 ⟨Nat.le_of_ble_eq_true rfl, Nat.le_of_ble_eq_true rfl⟩) hP hD hS hA [0, 1, 2, 3, 4, 5, 6] [] [0, 1, 2, 3, 4, 5, 6] rfl rfl (by decide) (by decide) (by decide) (fun _ => rfl) (fun r2 u2 H locs hr2 hP hD hS => ?_)
  obtain ⟨thr2, rfl⟩ : ∃ z, z = u2 := ⟨_, rfl⟩
  try dsimp only at hr2
  have hP : va_P D vwCl (wM cy bb sto vas sz cap low hig dpt glo ext mdb mhl msp mmg lin mlv mpt mls mov thr2) H := hP
  have hD : va_D A (wM cy bb sto vas sz cap low hig dpt glo ext mdb mhl msp mmg lin mlv mpt mls mov thr2) := hD
  rcases hr2 with ⟨⟨k, hk, hkx⟩, rfl, rfl⟩ | ⟨hn, rfl, rfl⟩
  · rw [hkx] at hl
    refine lv_if_ne (tgt := 10) hx hb dX5_probes_5 (by decide) (fun _ => ?_) (fun h9 => absurd h9 (by decide))
    have hxx := mod_lt256 (hs k)
    have hdx := hd _ hxx
    have hx8 := hd8 _ hxx
    refine lv_iload_n hx hb dX5_probes_10 rfl (lv_at hl 1 rfl) ?_
    refine tq_callF (va_runS C.fix (As := [.int (nI (k))]) (rest := []) (c_X5_hash l D cy k hk) (tq_cS (n := 1) C ml_X5_54 sm_X5_hash ini_X5 cd_X5_hash ⟨by decide, by decide, by decide +kernel⟩ ⟨Nat.le_of_ble_eq_true rfl, Nat.le_of_ble_eq_true rfl⟩) ⟨tq_Pf.blind, tq_preF C hK (hP.sub [] rfl)⟩ rfl rfl hl.1 rfl (lv_room (Nat.le_of_ble_eq_true rfl)) dX5_probes_11 ⟨Nat.le_of_ble_eq_true rfl, Nat.le_of_ble_eq_true rfl⟩) (fun r11 hr11 => ?_)
    obtain rfl := hr11
    refine lv_sipush (v := nI 255) hx hb dX5_probes_14 (by decide) ?_
    refine tq_iandM (b := 8) C (by omega) (by decide) (by have := hs_lt k; omega) dX5_probes_17 ?_
    refine tq_top (y := nI ((hs k % 256))) (rfl) ?_
    refine lv_istore_n (lv' := [(2, .int (nI ((hs k % 256)))), (0, .ref (bb 0)), (1, .int (nI (k)))]) hx hb dX5_probes_18 rfl hl (by decide) rfl (fun ls hl => ?_)
    refine lv_iconst (v := nI 0) hx hb dX5_probes_19 (by decide) ?_
    refine lv_istore_n (lv' := [(3, .int (nI (0))), (2, .int (nI ((hs k % 256)))), (0, .ref (bb 0)), (1, .int (nI (k)))]) hx hb dX5_probes_20 rfl hl (by decide) rfl (fun ls hl => ?_)
    refine lv_iconst (v := (-1)) hx hb dX5_probes_21 (by decide) ?_
    refine lv_istore (lv' := [(4, .int ((-1))), (3, .int (nI (0))), (2, .int (nI ((hs k % 256)))), (0, .ref (bb 0)), (1, .int (nI (k)))]) hx hb dX5_probes_22 hl (by decide) rfl (fun ls hl => ?_)
    refine lv_iconst (v := nI 0) hx hb dX5_probes_24 (by decide) ?_
    refine lv_istore (lv' := [(5, .int (nI (0))), (4, .int ((-1))), (3, .int (nI (0))), (2, .int (nI ((hs k % 256)))), (0, .ref (bb 0)), (1, .int (nI (k)))]) hx hb dX5_probes_25 hl (by decide) rfl (fun ls hl => ?_)
    suffices hlp27 : ∀ (n27 : Nat) (i : Nat) (at1 : Int32), sz - i < n27 → (i ≤ sz) → (HatP E k i (fun j => cntB (E.take j) (hs k % 256) (dep (hs k % 256))) at1) → ∀ (H : Heap) (locs : List Loc), va_P D vwCl (wM cy bb sto vas sz cap low hig dpt glo ext mdb mhl msp mmg lin mlv mpt mls mov 0) H → va_D A (wM cy bb sto vas sz cap low hig dpt glo ext mdb mhl msp mmg lin mlv mpt mls mov 0) → va_S A s.heap H locs → ∀ ls : Array Slot, lv_has ls 6 [(0, .ref (bb 0)), (1, .int (nI (k))), (2, .int (nI ((hs k % 256)))), (3, .int (nI (cntB (E.take i) (hs k % 256) (dep (hs k % 256))))), (4, .int (at1)), (5, .int (nI (i)))] → W p l e ({ frames := 2, cells := 0, slots := 0, locals := 43 } : Room) s m args below meth c H locs (0 + 0) (0 + 0) (MQ below (va_Qi (S := Nat) (fun r u => ((∃ k, k < 65536 ∧ kx = nI k ∧ (prP (clB E (hs k % 256) (dep (hs k % 256))) cap k r)) ∧ u = 0) ∨ (¬ (isKey kx) ∧ u = 1)) (tq_B D A (fun u => (wM cy bb sto vas sz cap low hig dpt glo ext mdb mhl msp mmg lin mlv mpt mls mov u))) A) args s 0 0 A) (F0 m 27 ls []) from
      hlp27 (sz + 1) 0 (-1) (by omega) (by omega) (Or.inr ⟨fun j h => absurd h (Nat.not_lt_zero _), rfl⟩) _ _ hP hD hS _ (lv_sub hl [4, 5, 3, 2, 1, 0] rfl)
    intro n27
    induction n27 with
    | zero => intro i at1 hf; exact absurd hf (Nat.not_lt_zero _)
    | succ n27 ih27 =>
      intro i at1 hf27 hi hat1 H locs hP hD hS ls hl
      refine lv_iload hx hb dX5_probes_27 (lv_at hl 5 rfl) ?_
      refine lv_aload_n hx hb dX5_probes_29 rfl (lv_at hl 0 rfl) ?_
      refine tq_get (C0 := RX5) (T := TX5) (N := 19) (ci := 5) (k := 2) C gX5 inX5 rfl (by decide) rfl fl_X5_51 hK hP 0 rfl rfl dX5_probes_30 ?_
      refine tq_icmp_ge (tgt := 89) C (by omega) (by omega) dX5_probes_33 (by decide) (fun h33 => ?_) (fun h33 => ?_)
      · rw [show i = E.length from by omega, List.take_length] at hl
        have hcl : cntB E (hs k % 256) (dep (hs k % 256)) ≤ 120 := by unfold cntB; exact Nat.le_trans (List.length_filter_le _ _) (by omega)
        rcases hat1 with ⟨j, hj, hjk, hje⟩ | ⟨hno, rfl⟩
        · have hjf : at1 = nI (cntB (E.take j) (hs k % 256) (dep (hs k % 256))) := hje
          subst hjf
          have hcj : cntB (E.take j) (hs k % 256) (dep (hs k % 256)) ≤ 120 := by unfold cntB; exact Nat.le_trans flen (by omega)
          refine lv_iconst (v := nI 1) hx hb dX5_probes_89 (by decide) ?_
          refine lv_iload hx hb dX5_probes_90 (lv_at hl 4 rfl) ?_
          refine lv_iconst (v := (-1)) hx hb dX5_probes_92 (by decide) ?_
          refine lv_icmp_ne (tgt := 104) hx hb dX5_probes_93 (by decide) (fun h93 => ?_) (fun h93 => ?_)
          · have hix := idx_of (p := fun y => hs y % 2 ^ dep (hs k % 256) == hs k % 256 % 2 ^ dep (hs k % 256)) hKE.1 (show j < E.length by omega) hjk (by rw [beq_iff_eq, m256 _ (by omega)])
            refine lv_iload hx hb dX5_probes_104 (lv_at hl 4 rfl) ?_
            refine lv_aload_n hx hb dX5_probes_106 rfl (lv_at hl 0 rfl) ?_
            refine tq_get (C0 := RX5) (T := TX5) (N := 19) (ci := 5) (k := 3) C gX5 inX5 rfl (by decide) rfl fl_X5_16 hK hP 0 rfl rfl dX5_probes_107 ?_
            refine tq_idiv C hcp1 (by omega) (by omega) dX5_probes_110 ?_
            refine tq_iadd C dX5_probes_111 ?_
            exact tq_iret (v := (nI (1 + ((cntB (E.take j) (hs k % 256) (dep (hs k % 256))) / cap)))) C rfl (0) hP hD hS (Or.inl ⟨⟨k, hk, hkx, Or.inl ⟨_, hix.1, hix.2.1, hix.2.2, rfl⟩⟩, rfl⟩) (Nat.le_of_ble_eq_true rfl) (Nat.le_of_ble_eq_true rfl) dX5_probes_112
          · exact absurd h93 (tq_neg1 (by omega))
        · refine lv_iconst (v := nI 1) hx hb dX5_probes_89 (by decide) ?_
          refine lv_iload hx hb dX5_probes_90 (lv_at hl 4 rfl) ?_
          refine lv_iconst (v := (-1)) hx hb dX5_probes_92 (by decide) ?_
          refine lv_icmp_ne (tgt := 104) hx hb dX5_probes_93 (by decide) (fun h93 => ?_) (fun h93 => ?_)
          · exact absurd rfl h93
          · refine lv_aload_n hx hb dX5_probes_96 rfl (lv_at hl 0 rfl) ?_
            refine lv_iload_n hx hb dX5_probes_97 rfl (lv_at hl 3 rfl) ?_
            refine tq_callF (va_runV C.fix (As := [.int (nI (cntB E (hs k % 256) (dep (hs k % 256))))]) (rest := [.int (nI (1))]) (c_X5_overflow l D cy bb sto vas sz cap low hig dpt glo ext mdb mhl msp mmg lin mlv mpt mls mov 0 (cntB E (hs k % 256) (dep (hs k % 256))) hcl hcp1 hcp2) (tq_cV (n := 1) C ml_X5_160 im_X5_overflow se_X5_overflow ini_X5 cd_X5_overflow ⟨by decide, by decide, by decide +kernel⟩ ⟨Nat.le_of_ble_eq_true rfl, Nat.le_of_ble_eq_true rfl⟩) ⟨tq_Pf.blind, va_recv hK hP (ci := 5) (q0 := 0) rfl rfl, tq_preF C hK hP⟩ rfl rfl hl.1 rfl (lv_room (Nat.le_of_ble_eq_true rfl)) dX5_probes_98 ⟨Nat.le_of_ble_eq_true rfl, Nat.le_of_ble_eq_true rfl⟩) (fun r98 hr98 => ?_)
            obtain rfl := hr98
            refine lv_goto (tgt := 111) hx hb dX5_probes_101 (by decide) ?_
            refine tq_iadd C dX5_probes_111 ?_
            exact tq_iret (v := (nI (1 + (((cntB E (hs k % 256) (dep (hs k % 256))) - 1) / cap)))) C rfl (0) hP hD hS (Or.inl ⟨⟨k, hk, hkx, Or.inr ⟨not_in (fun j hj => hno j (by omega)), rfl⟩⟩, rfl⟩) (Nat.le_of_ble_eq_true rfl) (Nat.le_of_ble_eq_true rfl) dX5_probes_112
      · have hi2 : i < E.length := by omega
        have hct := cnt_take (x := hs k % 256) (b := dep (hs k % 256)) hi2
        have hei := hAE i hi2
        have hbi := (hbd i).2.2.1
        refine lv_aload_n hx hb dX5_probes_36 rfl (lv_at hl 0 rfl) ?_
        refine tq_get (C0 := RX5) (T := TX5) (N := 19) (ci := 5) (k := 8) C gX5 inX5 rfl (by decide) rfl fl_X5_29 hK hP 0 rfl rfl dX5_probes_37 ?_
        refine lv_iload hx hb dX5_probes_40 (lv_at hl 5 rfl) ?_
        refine tq_iald (n := 120) (i := i) (f := ext) C hK hP 4 0 rfl rfl (by omega) (Nat.le_of_ble_eq_true rfl) dX5_probes_42 ?_
        refine lv_iload_n hx hb dX5_probes_43 rfl (lv_at hl 1 rfl) ?_
        refine tq_icmp_ne (tgt := 51) C (by omega) (by omega) dX5_probes_44 (by decide) (fun h44 => ?_) (fun h44 => ?_)
        · refine lv_iload hx hb dX5_probes_51 (lv_at hl 4 rfl) ?_
          refine lv_istore (lv' := [(4, .int (at1)), (0, .ref (bb 0)), (1, .int (nI (k))), (2, .int (nI ((hs k % 256)))), (3, .int (nI (cntB (E.take i) (hs k % 256) (dep (hs k % 256))))), (5, .int (nI (i)))]) hx hb dX5_probes_53 hl (by decide) rfl (fun ls hl => ?_)
          refine lv_iload_n hx hb dX5_probes_55 rfl (lv_at hl 4 rfl) ?_
          refine lv_aload_n hx hb dX5_probes_56 rfl (lv_at hl 1 rfl) ?_
          refine tq_get (C0 := RX5) (T := TX5) (N := 19) (ci := 5) (k := 8) C gX5 inX5 rfl (by decide) rfl fl_X5_29 hK hP 0 rfl rfl dX5_probes_57 ?_
          refine lv_iload hx hb dX5_probes_60 (lv_at hl 5 rfl) ?_
          refine tq_iald (n := 120) (i := i) (f := ext) C hK hP 4 0 rfl rfl (by omega) (Nat.le_of_ble_eq_true rfl) dX5_probes_62 ?_
          refine lv_iload_n hx hb dX5_probes_63 rfl (lv_at hl 3 rfl) ?_
          refine lv_aload_n hx hb dX5_probes_64 rfl (lv_at hl 1 rfl) ?_
          refine tq_get (C0 := RX5) (T := TX5) (N := 19) (ci := 5) (k := 6) C gX5 inX5 rfl (by decide) rfl fl_X5_26 hK hP 0 rfl rfl dX5_probes_65 ?_
          refine lv_iload_n hx hb dX5_probes_68 rfl (lv_at hl 3 rfl) ?_
          refine tq_iald (n := 256) (i := (hs k % 256)) (f := dpt) C hK hP 3 0 rfl rfl hxx (Nat.le_of_ble_eq_true rfl) dX5_probes_69 ?_
          refine tq_callF (va_runS C.fix (As := [.int (nI (ext i)), .int (nI ((hs k % 256))), .int (nI (dpt (hs k % 256)))]) (rest := [.int (nI (cntB (E.take i) (hs k % 256) (dep (hs k % 256))))]) (c_X5_belongs l D cy (ext i) (hs k % 256) (dpt (hs k % 256)) hbi (by omega) (by omega)) (tq_cS (n := 3) C ml_X5_62 sm_X5_belongs ini_X5 cd_X5_belongs ⟨by decide, by decide, by decide +kernel⟩ ⟨Nat.le_of_ble_eq_true rfl, Nat.le_of_ble_eq_true rfl⟩) ⟨tq_Pf.blind, tq_preF C hK (hP.sub [] rfl)⟩ rfl rfl hl.1 rfl (lv_room (Nat.le_of_ble_eq_true rfl)) dX5_probes_70 ⟨Nat.le_of_ble_eq_true rfl, Nat.le_of_ble_eq_true rfl⟩) (fun r70 hr70 => ?_)
          rcases hr70 with ⟨hr70, rfl⟩ | ⟨hr70, rfl⟩
          · rw [hdx, hei] at hr70
            rw [if_pos hr70] at hct
            clear hr70
            refine lv_if_eq (tgt := 80) hx hb dX5_probes_73 (by decide) (fun h9 => absurd h9 (by decide)) (fun _ => ?_)
            refine lv_iconst (v := nI 1) hx hb dX5_probes_76 (by decide) ?_
            refine lv_goto (tgt := 81) hx hb dX5_probes_77 (by decide) ?_
            refine tq_iadd C dX5_probes_81 ?_
            refine lv_istore_n (lv' := [(3, .int (nI ((cntB (E.take i) (hs k % 256) (dep (hs k % 256))) + 1))), (4, .int (at1)), (0, .ref (bb 0)), (1, .int (nI (k))), (2, .int (nI ((hs k % 256)))), (5, .int (nI (i)))]) hx hb dX5_probes_82 rfl hl (by decide) rfl (fun ls hl => ?_)
            refine lv_iinc (v := (nI (i + 1))) (lv' := [(5, .int (nI (i + 1))), (3, .int (nI ((cntB (E.take i) (hs k % 256) (dep (hs k % 256))) + 1))), (4, .int (at1)), (0, .ref (bb 0)), (1, .int (nI (k))), (2, .int (nI ((hs k % 256))))]) hx hb dX5_probes_83 hl (k := 5) rfl (tq_inc1 _) (by decide) rfl (fun ls hl => ?_)
            refine lv_goto (tgt := 27) hx hb dX5_probes_86 (by decide) ?_
            rw [← hct] at hl
            exact ih27 (i + 1) at1 (by omega) (by omega) (Or.elim hat1 (fun ⟨j, b1, b2, b3⟩ => Or.inl ⟨j, by omega, b2, b3⟩) (fun z => Or.inr ⟨fun j h => (Nat.lt_or_eq_of_le (Nat.le_of_lt_succ h)).elim (z.1 j) (fun y w => (hei ▸ h44) (y ▸ w)), z.2⟩)) _ _ hP hD hS _ (lv_sub hl [3, 4, 5, 1, 2, 0] rfl)
          · rw [hdx, hei] at hr70
            rw [if_neg hr70] at hct
            clear hr70
            refine lv_if_eq (tgt := 80) hx hb dX5_probes_73 (by decide) (fun _ => ?_) (fun h9 => absurd (by decide : nI 0 = 0) h9)
            refine lv_iconst (v := nI 0) hx hb dX5_probes_80 (by decide) ?_
            refine tq_iadd C dX5_probes_81 ?_
            refine lv_istore_n (lv' := [(3, .int (nI ((cntB (E.take i) (hs k % 256) (dep (hs k % 256))) + 0))), (4, .int (at1)), (0, .ref (bb 0)), (1, .int (nI (k))), (2, .int (nI ((hs k % 256)))), (5, .int (nI (i)))]) hx hb dX5_probes_82 rfl hl (by decide) rfl (fun ls hl => ?_)
            refine lv_iinc (v := (nI (i + 1))) (lv' := [(5, .int (nI (i + 1))), (3, .int (nI ((cntB (E.take i) (hs k % 256) (dep (hs k % 256))) + 0))), (4, .int (at1)), (0, .ref (bb 0)), (1, .int (nI (k))), (2, .int (nI ((hs k % 256))))]) hx hb dX5_probes_83 hl (k := 5) rfl (tq_inc1 _) (by decide) rfl (fun ls hl => ?_)
            refine lv_goto (tgt := 27) hx hb dX5_probes_86 (by decide) ?_
            rw [← hct] at hl
            exact ih27 (i + 1) at1 (by omega) (by omega) (Or.elim hat1 (fun ⟨j, b1, b2, b3⟩ => Or.inl ⟨j, by omega, b2, b3⟩) (fun z => Or.inr ⟨fun j h => (Nat.lt_or_eq_of_le (Nat.le_of_lt_succ h)).elim (z.1 j) (fun y w => (hei ▸ h44) (y ▸ w)), z.2⟩)) _ _ hP hD hS _ (lv_sub hl [3, 4, 5, 1, 2, 0] rfl)
        · refine lv_iload_n hx hb dX5_probes_47 rfl (lv_at hl 3 rfl) ?_
          refine lv_goto (tgt := 53) hx hb dX5_probes_48 (by decide) ?_
          refine lv_istore (lv' := [(4, .int (nI (cntB (E.take i) (hs k % 256) (dep (hs k % 256))))), (0, .ref (bb 0)), (1, .int (nI (k))), (2, .int (nI ((hs k % 256)))), (3, .int (nI (cntB (E.take i) (hs k % 256) (dep (hs k % 256))))), (5, .int (nI (i)))]) hx hb dX5_probes_53 hl (by decide) rfl (fun ls hl => ?_)
          refine lv_iload_n hx hb dX5_probes_55 rfl (lv_at hl 4 rfl) ?_
          refine lv_aload_n hx hb dX5_probes_56 rfl (lv_at hl 1 rfl) ?_
          refine tq_get (C0 := RX5) (T := TX5) (N := 19) (ci := 5) (k := 8) C gX5 inX5 rfl (by decide) rfl fl_X5_29 hK hP 0 rfl rfl dX5_probes_57 ?_
          refine lv_iload hx hb dX5_probes_60 (lv_at hl 5 rfl) ?_
          refine tq_iald (n := 120) (i := i) (f := ext) C hK hP 4 0 rfl rfl (by omega) (Nat.le_of_ble_eq_true rfl) dX5_probes_62 ?_
          refine lv_iload_n hx hb dX5_probes_63 rfl (lv_at hl 3 rfl) ?_
          refine lv_aload_n hx hb dX5_probes_64 rfl (lv_at hl 1 rfl) ?_
          refine tq_get (C0 := RX5) (T := TX5) (N := 19) (ci := 5) (k := 6) C gX5 inX5 rfl (by decide) rfl fl_X5_26 hK hP 0 rfl rfl dX5_probes_65 ?_
          refine lv_iload_n hx hb dX5_probes_68 rfl (lv_at hl 3 rfl) ?_
          refine tq_iald (n := 256) (i := (hs k % 256)) (f := dpt) C hK hP 3 0 rfl rfl hxx (Nat.le_of_ble_eq_true rfl) dX5_probes_69 ?_
          refine tq_callF (va_runS C.fix (As := [.int (nI (ext i)), .int (nI ((hs k % 256))), .int (nI (dpt (hs k % 256)))]) (rest := [.int (nI (cntB (E.take i) (hs k % 256) (dep (hs k % 256))))]) (c_X5_belongs l D cy (ext i) (hs k % 256) (dpt (hs k % 256)) hbi (by omega) (by omega)) (tq_cS (n := 3) C ml_X5_62 sm_X5_belongs ini_X5 cd_X5_belongs ⟨by decide, by decide, by decide +kernel⟩ ⟨Nat.le_of_ble_eq_true rfl, Nat.le_of_ble_eq_true rfl⟩) ⟨tq_Pf.blind, tq_preF C hK (hP.sub [] rfl)⟩ rfl rfl hl.1 rfl (lv_room (Nat.le_of_ble_eq_true rfl)) dX5_probes_70 ⟨Nat.le_of_ble_eq_true rfl, Nat.le_of_ble_eq_true rfl⟩) (fun r70 hr70 => ?_)
          rcases hr70 with ⟨hr70, rfl⟩ | ⟨hr70, rfl⟩
          · rw [hdx, hei] at hr70
            rw [if_pos hr70] at hct
            clear hr70
            refine lv_if_eq (tgt := 80) hx hb dX5_probes_73 (by decide) (fun h9 => absurd h9 (by decide)) (fun _ => ?_)
            refine lv_iconst (v := nI 1) hx hb dX5_probes_76 (by decide) ?_
            refine lv_goto (tgt := 81) hx hb dX5_probes_77 (by decide) ?_
            refine tq_iadd C dX5_probes_81 ?_
            refine lv_istore_n (lv' := [(3, .int (nI ((cntB (E.take i) (hs k % 256) (dep (hs k % 256))) + 1))), (4, .int (nI (cntB (E.take i) (hs k % 256) (dep (hs k % 256))))), (0, .ref (bb 0)), (1, .int (nI (k))), (2, .int (nI ((hs k % 256)))), (5, .int (nI (i)))]) hx hb dX5_probes_82 rfl hl (by decide) rfl (fun ls hl => ?_)
            refine lv_iinc (v := (nI (i + 1))) (lv' := [(5, .int (nI (i + 1))), (3, .int (nI ((cntB (E.take i) (hs k % 256) (dep (hs k % 256))) + 1))), (4, .int (nI (cntB (E.take i) (hs k % 256) (dep (hs k % 256))))), (0, .ref (bb 0)), (1, .int (nI (k))), (2, .int (nI ((hs k % 256))))]) hx hb dX5_probes_83 hl (k := 5) rfl (tq_inc1 _) (by decide) rfl (fun ls hl => ?_)
            refine lv_goto (tgt := 27) hx hb dX5_probes_86 (by decide) ?_
            rw [← hct] at hl
            exact ih27 (i + 1) (nI (cntB (E.take i) (hs k % 256) (dep (hs k % 256)))) (by omega) (by omega) (Or.inl ⟨i, by omega, by rw [← hei]; exact h44, rfl⟩) _ _ hP hD hS _ (lv_sub hl [3, 4, 5, 1, 2, 0] rfl)
          · rw [hdx, hei] at hr70
            rw [if_neg hr70] at hct
            clear hr70
            refine lv_if_eq (tgt := 80) hx hb dX5_probes_73 (by decide) (fun _ => ?_) (fun h9 => absurd (by decide : nI 0 = 0) h9)
            refine lv_iconst (v := nI 0) hx hb dX5_probes_80 (by decide) ?_
            refine tq_iadd C dX5_probes_81 ?_
            refine lv_istore_n (lv' := [(3, .int (nI ((cntB (E.take i) (hs k % 256) (dep (hs k % 256))) + 0))), (4, .int (nI (cntB (E.take i) (hs k % 256) (dep (hs k % 256))))), (0, .ref (bb 0)), (1, .int (nI (k))), (2, .int (nI ((hs k % 256)))), (5, .int (nI (i)))]) hx hb dX5_probes_82 rfl hl (by decide) rfl (fun ls hl => ?_)
            refine lv_iinc (v := (nI (i + 1))) (lv' := [(5, .int (nI (i + 1))), (3, .int (nI ((cntB (E.take i) (hs k % 256) (dep (hs k % 256))) + 0))), (4, .int (nI (cntB (E.take i) (hs k % 256) (dep (hs k % 256))))), (0, .ref (bb 0)), (1, .int (nI (k))), (2, .int (nI ((hs k % 256))))]) hx hb dX5_probes_83 hl (k := 5) rfl (tq_inc1 _) (by decide) rfl (fun ls hl => ?_)
            refine lv_goto (tgt := 27) hx hb dX5_probes_86 (by decide) ?_
            rw [← hct] at hl
            exact ih27 (i + 1) (nI (cntB (E.take i) (hs k % 256) (dep (hs k % 256)))) (by omega) (by omega) (Or.inl ⟨i, by omega, by rw [← hei]; exact h44, rfl⟩) _ _ hP hD hS _ (lv_sub hl [3, 4, 5, 1, 2, 0] rfl)
  · refine lv_if_ne (tgt := 10) hx hb dX5_probes_5 (by decide) (fun h9 => absurd (by decide : nI 0 = 0) h9) (fun _ => ?_)
    refine lv_iconst (v := nI 0) hx hb dX5_probes_8 (by decide) ?_
    exact tq_iret (v := (nI (0))) C rfl (1) hP hD hS (Or.inr ⟨hn, rfl⟩) (Nat.le_of_ble_eq_true rfl) (Nat.le_of_ble_eq_true rfl) dX5_probes_9
set_option maxHeartbeats 4000000 in
set_option maxRecDepth 100000 in
theorem c_X5_linearProbes (l : Launch) (D : va_G) (cy : ClassId) (bb : Nat → Nat) (sto : Nat → Nat) (vas : Nat → Nat) (sz : Nat) (cap : Nat) (low : Nat) (hig : Nat) (dpt : Nat → Nat) (glo : Nat) (ext : Nat → Nat) (mdb : Int32) (mhl : Int32) (msp : Int32) (mmg : Int32) (lin : Nat → Nat) (mlv : Nat) (mpt : Nat) (mls : Int32) (mov : Nat → Nat) (thr : Nat) (kx : Int32) (S : List (Nat × Nat)) (dep : Nat → Nat) (E L : List Nat) (hMR : MR sto vas sz dpt ext lin mov S dep E L) (hMC : MC cap low hig glo mlv mpt dep)  : tq_I (S := Nat) l yX5_linearProbes cX5_linearProbes 5 (some .int) 2 43 0 0 D cy (wM cy bb sto vas sz cap low hig dpt glo ext mdb mhl msp mmg lin mlv mpt mls mov thr) [.ref (bb 0), .int (kx)] (fun r u => ((∃ k, k < 65536 ∧ kx = nI k ∧ (prP (lnB L mlv mpt (linOf mlv mpt k)) cap k r)) ∧ u = 0) ∨ (¬ (isKey kx) ∧ u = 1)) (fun u => (wM cy bb sto vas sz cap low hig dpt glo ext mdb mhl msp mmg lin mlv mpt mls mov u)) := by
  refine tq_I.mk (by decide) (Nat.le_of_ble_eq_true rfl) ?_
  intro p e s m args below meth c A C hP hK hD hS hA ls hl
  obtain ⟨hx, hb, hml, hown, hrt, hlk, hT⟩ := id C
  have hl : lv_has ls 5 [(0, .ref (bb 0)), (1, .int (kx))] := hl
  obtain ⟨hzS, hzE, hzL, hz120, hd, hAE, hAL, hPM, hKE, hKL, hSS, hbd⟩ := id hMR
  obtain ⟨hXo, hY, ⟨hcp1, hcp2⟩, ⟨hlo, hh1, hh2⟩⟩ := id hMC
  have hlv9 := hY.lev
  have hp7 := p2_le (c := 7) hlv9
  have hpt := hY.1
  have hmn := hY.2
  refine lv_aload_n hx hb dX5_linearProbes_0 rfl (lv_at hl 0 rfl) ?_
  refine lv_iload_n hx hb dX5_linearProbes_1 rfl (lv_at hl 1 rfl) ?_
  refine tq_callI (W3 := fun u => (wM cy bb sto vas sz cap low hig dpt glo ext mdb mhl msp mmg lin mlv mpt mls mov u)) (wr := []) (va_runV C.fix (As := [.int (kx)]) (rest := []) ((c_X5_isKey l D cy bb sto vas sz cap low hig dpt glo ext mdb mhl msp mmg lin mlv mpt mls mov thr kx) s.heap.size) (tq_cV (n := 1) C ml_X5_132 im_X5_isKey se_X5_isKey ini_X5 cd_X5_isKey ⟨by decide, by decide, by decide +kernel⟩ ⟨Nat.le_of_ble_eq_true rfl, Nat.le_of_ble_eq_true rfl⟩) ⟨tq_Pc.blind, va_recv hK hP (ci := 5) (q0 := 0) rfl rfl, tq_preC C hK hP hD⟩ rfl rfl hl.1 rfl (lv_room (Nat.le_of_ble_eq_true rfl)) dX5_linearProbes_2 ⟨Nat.le_of_ble_eq_true rfl, Nat.le_of_ble_eq_true rfl⟩) hP hD hS hA [0, 1, 2, 3, 4, 5, 6] [] [0, 1, 2, 3, 4, 5, 6] rfl rfl (by decide) (by decide) (by decide) (fun _ => rfl) (fun r2 u2 H locs hr2 hP hD hS => ?_)
  obtain ⟨thr2, rfl⟩ : ∃ z, z = u2 := ⟨_, rfl⟩
  try dsimp only at hr2
  have hP : va_P D vwCl (wM cy bb sto vas sz cap low hig dpt glo ext mdb mhl msp mmg lin mlv mpt mls mov thr2) H := hP
  have hD : va_D A (wM cy bb sto vas sz cap low hig dpt glo ext mdb mhl msp mmg lin mlv mpt mls mov thr2) := hD
  rcases hr2 with ⟨⟨k, hk, hkx⟩, rfl, rfl⟩ | ⟨hn, rfl, rfl⟩
  · rw [hkx] at hl
    refine lv_if_ne (tgt := 10) hx hb dX5_linearProbes_5 (by decide) (fun _ => ?_) (fun h9 => absurd h9 (by decide))
    have hlk := linOf_lt hpt k
    refine lv_iconst (v := nI 0) hx hb dX5_linearProbes_10 (by decide) ?_
    refine lv_istore_n (lv' := [(2, .int (nI (0))), (0, .ref (bb 0)), (1, .int (nI (k)))]) hx hb dX5_linearProbes_11 rfl hl (by decide) rfl (fun ls hl => ?_)
    refine lv_iconst (v := (-1)) hx hb dX5_linearProbes_12 (by decide) ?_
    refine lv_istore_n (lv' := [(3, .int ((-1))), (2, .int (nI (0))), (0, .ref (bb 0)), (1, .int (nI (k)))]) hx hb dX5_linearProbes_13 rfl hl (by decide) rfl (fun ls hl => ?_)
    refine lv_iconst (v := nI 0) hx hb dX5_linearProbes_14 (by decide) ?_
    refine lv_istore (lv' := [(4, .int (nI (0))), (3, .int ((-1))), (2, .int (nI (0))), (0, .ref (bb 0)), (1, .int (nI (k)))]) hx hb dX5_linearProbes_15 hl (by decide) rfl (fun ls hl => ?_)
    suffices hlp17 : ∀ (n17 : Nat) (i : Nat) (at1 : Int32), sz - i < n17 → (i ≤ sz) → (HatP L k i (fun j => lcnt (L.take j) mlv mpt (linOf mlv mpt k)) at1) → ∀ (H : Heap) (locs : List Loc), va_P D vwCl (wM cy bb sto vas sz cap low hig dpt glo ext mdb mhl msp mmg lin mlv mpt mls mov 0) H → va_D A (wM cy bb sto vas sz cap low hig dpt glo ext mdb mhl msp mmg lin mlv mpt mls mov 0) → va_S A s.heap H locs → ∀ ls : Array Slot, lv_has ls 5 [(0, .ref (bb 0)), (1, .int (nI (k))), (2, .int (nI (lcnt (L.take i) mlv mpt (linOf mlv mpt k)))), (3, .int (at1)), (4, .int (nI (i)))] → W p l e ({ frames := 2, cells := 0, slots := 0, locals := 43 } : Room) s m args below meth c H locs (0 + 0) (0 + 0) (MQ below (va_Qi (S := Nat) (fun r u => ((∃ k, k < 65536 ∧ kx = nI k ∧ (prP (lnB L mlv mpt (linOf mlv mpt k)) cap k r)) ∧ u = 0) ∨ (¬ (isKey kx) ∧ u = 1)) (tq_B D A (fun u => (wM cy bb sto vas sz cap low hig dpt glo ext mdb mhl msp mmg lin mlv mpt mls mov u))) A) args s 0 0 A) (F0 m 17 ls []) from
      hlp17 (sz + 1) 0 (-1) (by omega) (by omega) (Or.inr ⟨fun j h => absurd h (Nat.not_lt_zero _), rfl⟩) _ _ hP hD hS _ (lv_sub hl [3, 4, 2, 1, 0] rfl)
    intro n17
    induction n17 with
    | zero => intro i at1 hf; exact absurd hf (Nat.not_lt_zero _)
    | succ n17 ih17 =>
      intro i at1 hf17 hi hat1 H locs hP hD hS ls hl
      refine lv_iload hx hb dX5_linearProbes_17 (lv_at hl 4 rfl) ?_
      refine lv_aload_n hx hb dX5_linearProbes_19 rfl (lv_at hl 0 rfl) ?_
      refine tq_get (C0 := RX5) (T := TX5) (N := 19) (ci := 5) (k := 2) C gX5 inX5 rfl (by decide) rfl fl_X5_51 hK hP 0 rfl rfl dX5_linearProbes_20 ?_
      refine tq_icmp_ge (tgt := 76) C (by omega) (by omega) dX5_linearProbes_23 (by decide) (fun h23 => ?_) (fun h23 => ?_)
      · rw [show i = L.length from by omega, List.take_length] at hl
        have hcl : lcnt L mlv mpt (linOf mlv mpt k) ≤ 120 := by unfold lcnt lnB; exact Nat.le_trans (List.length_filter_le _ _) (by omega)
        rcases hat1 with ⟨j, hj, hjk, hje⟩ | ⟨hno, rfl⟩
        · have hjf : at1 = nI (lcnt (L.take j) mlv mpt (linOf mlv mpt k)) := hje
          subst hjf
          have hcj : lcnt (L.take j) mlv mpt (linOf mlv mpt k) ≤ 120 := by unfold lcnt lnB; exact Nat.le_trans flen (by omega)
          refine lv_iconst (v := nI 1) hx hb dX5_linearProbes_76 (by decide) ?_
          refine lv_iload_n hx hb dX5_linearProbes_77 rfl (lv_at hl 3 rfl) ?_
          refine lv_iconst (v := (-1)) hx hb dX5_linearProbes_78 (by decide) ?_
          refine lv_icmp_ne (tgt := 90) hx hb dX5_linearProbes_79 (by decide) (fun h79 => ?_) (fun h79 => ?_)
          · have hix := idx_of (p := fun y => linOf mlv mpt y == linOf mlv mpt k) hKL.1 (show j < L.length by omega) hjk (by rw [beq_iff_eq])
            refine lv_iload_n hx hb dX5_linearProbes_90 rfl (lv_at hl 3 rfl) ?_
            refine lv_aload_n hx hb dX5_linearProbes_91 rfl (lv_at hl 0 rfl) ?_
            refine tq_get (C0 := RX5) (T := TX5) (N := 19) (ci := 5) (k := 3) C gX5 inX5 rfl (by decide) rfl fl_X5_16 hK hP 0 rfl rfl dX5_linearProbes_92 ?_
            refine tq_idiv C hcp1 (by omega) (by omega) dX5_linearProbes_95 ?_
            refine tq_iadd C dX5_linearProbes_96 ?_
            exact tq_iret (v := (nI (1 + ((lcnt (L.take j) mlv mpt (linOf mlv mpt k)) / cap)))) C rfl (0) hP hD hS (Or.inl ⟨⟨k, hk, hkx, Or.inl ⟨_, hix.1, hix.2.1, hix.2.2, rfl⟩⟩, rfl⟩) (Nat.le_of_ble_eq_true rfl) (Nat.le_of_ble_eq_true rfl) dX5_linearProbes_97
          · exact absurd h79 (tq_neg1 (by omega))
        · refine lv_iconst (v := nI 1) hx hb dX5_linearProbes_76 (by decide) ?_
          refine lv_iload_n hx hb dX5_linearProbes_77 rfl (lv_at hl 3 rfl) ?_
          refine lv_iconst (v := (-1)) hx hb dX5_linearProbes_78 (by decide) ?_
          refine lv_icmp_ne (tgt := 90) hx hb dX5_linearProbes_79 (by decide) (fun h79 => ?_) (fun h79 => ?_)
          · exact absurd rfl h79
          · refine lv_aload_n hx hb dX5_linearProbes_82 rfl (lv_at hl 0 rfl) ?_
            refine lv_iload_n hx hb dX5_linearProbes_83 rfl (lv_at hl 2 rfl) ?_
            refine tq_callF (va_runV C.fix (As := [.int (nI (lcnt L mlv mpt (linOf mlv mpt k)))]) (rest := [.int (nI (1))]) (c_X5_overflow l D cy bb sto vas sz cap low hig dpt glo ext mdb mhl msp mmg lin mlv mpt mls mov 0 (lcnt L mlv mpt (linOf mlv mpt k)) hcl hcp1 hcp2) (tq_cV (n := 1) C ml_X5_160 im_X5_overflow se_X5_overflow ini_X5 cd_X5_overflow ⟨by decide, by decide, by decide +kernel⟩ ⟨Nat.le_of_ble_eq_true rfl, Nat.le_of_ble_eq_true rfl⟩) ⟨tq_Pf.blind, va_recv hK hP (ci := 5) (q0 := 0) rfl rfl, tq_preF C hK hP⟩ rfl rfl hl.1 rfl (lv_room (Nat.le_of_ble_eq_true rfl)) dX5_linearProbes_84 ⟨Nat.le_of_ble_eq_true rfl, Nat.le_of_ble_eq_true rfl⟩) (fun r84 hr84 => ?_)
            obtain rfl := hr84
            refine lv_goto (tgt := 96) hx hb dX5_linearProbes_87 (by decide) ?_
            refine tq_iadd C dX5_linearProbes_96 ?_
            exact tq_iret (v := (nI (1 + (((lcnt L mlv mpt (linOf mlv mpt k)) - 1) / cap)))) C rfl (0) hP hD hS (Or.inl ⟨⟨k, hk, hkx, Or.inr ⟨not_in (fun j hj => hno j (by omega)), rfl⟩⟩, rfl⟩) (Nat.le_of_ble_eq_true rfl) (Nat.le_of_ble_eq_true rfl) dX5_linearProbes_97
      · have hi2 : i < L.length := by omega
        have hct := lcnt_take (v := mlv) (p := mpt) (r := linOf mlv mpt k) hi2
        have hei := hAL i hi2
        have hbi := (hbd i).2.2.2.1
        have hlo9 := linOf_lt hpt (lin i)
        refine lv_aload_n hx hb dX5_linearProbes_26 rfl (lv_at hl 0 rfl) ?_
        refine tq_get (C0 := RX5) (T := TX5) (N := 19) (ci := 5) (k := 13) C gX5 inX5 rfl (by decide) rfl fl_X5_32 hK hP 0 rfl rfl dX5_linearProbes_27 ?_
        refine lv_iload hx hb dX5_linearProbes_30 (lv_at hl 4 rfl) ?_
        refine tq_iald (n := 120) (i := i) (f := lin) C hK hP 5 0 rfl rfl (by omega) (Nat.le_of_ble_eq_true rfl) dX5_linearProbes_32 ?_
        refine lv_iload_n hx hb dX5_linearProbes_33 rfl (lv_at hl 1 rfl) ?_
        refine tq_icmp_ne (tgt := 41) C (by omega) (by omega) dX5_linearProbes_34 (by decide) (fun h34 => ?_) (fun h34 => ?_)
        · refine lv_iload_n hx hb dX5_linearProbes_41 rfl (lv_at hl 3 rfl) ?_
          refine lv_istore_n (lv' := [(3, .int (at1)), (0, .ref (bb 0)), (1, .int (nI (k))), (2, .int (nI (lcnt (L.take i) mlv mpt (linOf mlv mpt k)))), (4, .int (nI (i)))]) hx hb dX5_linearProbes_42 rfl hl (by decide) rfl (fun ls hl => ?_)
          refine lv_iload_n hx hb dX5_linearProbes_43 rfl (lv_at hl 3 rfl) ?_
          refine lv_aload_n hx hb dX5_linearProbes_44 rfl (lv_at hl 1 rfl) ?_
          refine lv_aload_n hx hb dX5_linearProbes_45 rfl (lv_at hl 1 rfl) ?_
          refine tq_get (C0 := RX5) (T := TX5) (N := 19) (ci := 5) (k := 13) C gX5 inX5 rfl (by decide) rfl fl_X5_32 hK hP 0 rfl rfl dX5_linearProbes_46 ?_
          refine lv_iload hx hb dX5_linearProbes_49 (lv_at hl 4 rfl) ?_
          refine tq_iald (n := 120) (i := i) (f := lin) C hK hP 5 0 rfl rfl (by omega) (Nat.le_of_ble_eq_true rfl) dX5_linearProbes_51 ?_
          refine tq_callF (va_runV C.fix (As := [.int (nI (lin i))]) (rest := [.int (nI (lcnt (L.take i) mlv mpt (linOf mlv mpt k)))]) (c_X5_linearOf l D cy bb sto vas sz cap low hig dpt glo ext mdb mhl msp mmg lin mlv mpt mls mov 0 (lin i) hY hbi) (tq_cV (n := 1) C ml_X5_115 im_X5_linearOf se_X5_linearOf ini_X5 cd_X5_linearOf ⟨by decide, by decide, by decide +kernel⟩ ⟨Nat.le_of_ble_eq_true rfl, Nat.le_of_ble_eq_true rfl⟩) ⟨tq_Pf.blind, va_recv hK hP (ci := 5) (q0 := 0) rfl rfl, tq_preF C hK hP⟩ rfl rfl hl.1 rfl (lv_room (Nat.le_of_ble_eq_true rfl)) dX5_linearProbes_52 ⟨Nat.le_of_ble_eq_true rfl, Nat.le_of_ble_eq_true rfl⟩) (fun r52 hr52 => ?_)
          obtain rfl := hr52
          refine lv_aload_n hx hb dX5_linearProbes_55 rfl (lv_at hl 1 rfl) ?_
          refine lv_iload_n hx hb dX5_linearProbes_56 rfl (lv_at hl 2 rfl) ?_
          refine tq_callF (va_runV C.fix (As := [.int (nI (k))]) (rest := [.int (nI (linOf mlv mpt (lin i))), .int (nI (lcnt (L.take i) mlv mpt (linOf mlv mpt k)))]) (c_X5_linearOf l D cy bb sto vas sz cap low hig dpt glo ext mdb mhl msp mmg lin mlv mpt mls mov 0 k hY hk) (tq_cV (n := 1) C ml_X5_115 im_X5_linearOf se_X5_linearOf ini_X5 cd_X5_linearOf ⟨by decide, by decide, by decide +kernel⟩ ⟨Nat.le_of_ble_eq_true rfl, Nat.le_of_ble_eq_true rfl⟩) ⟨tq_Pf.blind, va_recv hK hP (ci := 5) (q0 := 0) rfl rfl, tq_preF C hK hP⟩ rfl rfl hl.1 rfl (lv_room (Nat.le_of_ble_eq_true rfl)) dX5_linearProbes_57 ⟨Nat.le_of_ble_eq_true rfl, Nat.le_of_ble_eq_true rfl⟩) (fun r57 hr57 => ?_)
          obtain rfl := hr57
          refine tq_icmp_ne (tgt := 67) C (by omega) (by omega) dX5_linearProbes_60 (by decide) (fun h60 => ?_) (fun h60 => ?_)
          · rw [hei] at h60
            rw [if_neg h60] at hct
            refine lv_iconst (v := nI 0) hx hb dX5_linearProbes_67 (by decide) ?_
            refine tq_iadd C dX5_linearProbes_68 ?_
            refine lv_istore_n (lv' := [(2, .int (nI ((lcnt (L.take i) mlv mpt (linOf mlv mpt k)) + 0))), (3, .int (at1)), (0, .ref (bb 0)), (1, .int (nI (k))), (4, .int (nI (i)))]) hx hb dX5_linearProbes_69 rfl hl (by decide) rfl (fun ls hl => ?_)
            refine lv_iinc (v := (nI (i + 1))) (lv' := [(4, .int (nI (i + 1))), (2, .int (nI ((lcnt (L.take i) mlv mpt (linOf mlv mpt k)) + 0))), (3, .int (at1)), (0, .ref (bb 0)), (1, .int (nI (k)))]) hx hb dX5_linearProbes_70 hl (k := 4) rfl (tq_inc1 _) (by decide) rfl (fun ls hl => ?_)
            refine lv_goto (tgt := 17) hx hb dX5_linearProbes_73 (by decide) ?_
            rw [← hct] at hl
            exact ih17 (i + 1) at1 (by omega) (by omega) (Or.elim hat1 (fun ⟨j, b1, b2, b3⟩ => Or.inl ⟨j, by omega, b2, b3⟩) (fun z => Or.inr ⟨fun j h => (Nat.lt_or_eq_of_le (Nat.le_of_lt_succ h)).elim (z.1 j) (fun y w => (hei ▸ h34) (y ▸ w)), z.2⟩)) _ _ hP hD hS _ (lv_sub hl [3, 4, 1, 2, 0] rfl)
          · rw [hei] at h60
            rw [if_pos h60] at hct
            refine lv_iconst (v := nI 1) hx hb dX5_linearProbes_63 (by decide) ?_
            refine lv_goto (tgt := 68) hx hb dX5_linearProbes_64 (by decide) ?_
            refine tq_iadd C dX5_linearProbes_68 ?_
            refine lv_istore_n (lv' := [(2, .int (nI ((lcnt (L.take i) mlv mpt (linOf mlv mpt k)) + 1))), (3, .int (at1)), (0, .ref (bb 0)), (1, .int (nI (k))), (4, .int (nI (i)))]) hx hb dX5_linearProbes_69 rfl hl (by decide) rfl (fun ls hl => ?_)
            refine lv_iinc (v := (nI (i + 1))) (lv' := [(4, .int (nI (i + 1))), (2, .int (nI ((lcnt (L.take i) mlv mpt (linOf mlv mpt k)) + 1))), (3, .int (at1)), (0, .ref (bb 0)), (1, .int (nI (k)))]) hx hb dX5_linearProbes_70 hl (k := 4) rfl (tq_inc1 _) (by decide) rfl (fun ls hl => ?_)
            refine lv_goto (tgt := 17) hx hb dX5_linearProbes_73 (by decide) ?_
            rw [← hct] at hl
            exact ih17 (i + 1) at1 (by omega) (by omega) (Or.elim hat1 (fun ⟨j, b1, b2, b3⟩ => Or.inl ⟨j, by omega, b2, b3⟩) (fun z => Or.inr ⟨fun j h => (Nat.lt_or_eq_of_le (Nat.le_of_lt_succ h)).elim (z.1 j) (fun y w => (hei ▸ h34) (y ▸ w)), z.2⟩)) _ _ hP hD hS _ (lv_sub hl [3, 4, 1, 2, 0] rfl)
        · refine lv_iload_n hx hb dX5_linearProbes_37 rfl (lv_at hl 2 rfl) ?_
          refine lv_goto (tgt := 42) hx hb dX5_linearProbes_38 (by decide) ?_
          refine lv_istore_n (lv' := [(3, .int (nI (lcnt (L.take i) mlv mpt (linOf mlv mpt k)))), (0, .ref (bb 0)), (1, .int (nI (k))), (2, .int (nI (lcnt (L.take i) mlv mpt (linOf mlv mpt k)))), (4, .int (nI (i)))]) hx hb dX5_linearProbes_42 rfl hl (by decide) rfl (fun ls hl => ?_)
          refine lv_iload_n hx hb dX5_linearProbes_43 rfl (lv_at hl 3 rfl) ?_
          refine lv_aload_n hx hb dX5_linearProbes_44 rfl (lv_at hl 1 rfl) ?_
          refine lv_aload_n hx hb dX5_linearProbes_45 rfl (lv_at hl 1 rfl) ?_
          refine tq_get (C0 := RX5) (T := TX5) (N := 19) (ci := 5) (k := 13) C gX5 inX5 rfl (by decide) rfl fl_X5_32 hK hP 0 rfl rfl dX5_linearProbes_46 ?_
          refine lv_iload hx hb dX5_linearProbes_49 (lv_at hl 4 rfl) ?_
          refine tq_iald (n := 120) (i := i) (f := lin) C hK hP 5 0 rfl rfl (by omega) (Nat.le_of_ble_eq_true rfl) dX5_linearProbes_51 ?_
          refine tq_callF (va_runV C.fix (As := [.int (nI (lin i))]) (rest := [.int (nI (lcnt (L.take i) mlv mpt (linOf mlv mpt k)))]) (c_X5_linearOf l D cy bb sto vas sz cap low hig dpt glo ext mdb mhl msp mmg lin mlv mpt mls mov 0 (lin i) hY hbi) (tq_cV (n := 1) C ml_X5_115 im_X5_linearOf se_X5_linearOf ini_X5 cd_X5_linearOf ⟨by decide, by decide, by decide +kernel⟩ ⟨Nat.le_of_ble_eq_true rfl, Nat.le_of_ble_eq_true rfl⟩) ⟨tq_Pf.blind, va_recv hK hP (ci := 5) (q0 := 0) rfl rfl, tq_preF C hK hP⟩ rfl rfl hl.1 rfl (lv_room (Nat.le_of_ble_eq_true rfl)) dX5_linearProbes_52 ⟨Nat.le_of_ble_eq_true rfl, Nat.le_of_ble_eq_true rfl⟩) (fun r52 hr52 => ?_)
          obtain rfl := hr52
          refine lv_aload_n hx hb dX5_linearProbes_55 rfl (lv_at hl 1 rfl) ?_
          refine lv_iload_n hx hb dX5_linearProbes_56 rfl (lv_at hl 2 rfl) ?_
          refine tq_callF (va_runV C.fix (As := [.int (nI (k))]) (rest := [.int (nI (linOf mlv mpt (lin i))), .int (nI (lcnt (L.take i) mlv mpt (linOf mlv mpt k)))]) (c_X5_linearOf l D cy bb sto vas sz cap low hig dpt glo ext mdb mhl msp mmg lin mlv mpt mls mov 0 k hY hk) (tq_cV (n := 1) C ml_X5_115 im_X5_linearOf se_X5_linearOf ini_X5 cd_X5_linearOf ⟨by decide, by decide, by decide +kernel⟩ ⟨Nat.le_of_ble_eq_true rfl, Nat.le_of_ble_eq_true rfl⟩) ⟨tq_Pf.blind, va_recv hK hP (ci := 5) (q0 := 0) rfl rfl, tq_preF C hK hP⟩ rfl rfl hl.1 rfl (lv_room (Nat.le_of_ble_eq_true rfl)) dX5_linearProbes_57 ⟨Nat.le_of_ble_eq_true rfl, Nat.le_of_ble_eq_true rfl⟩) (fun r57 hr57 => ?_)
          obtain rfl := hr57
          refine tq_icmp_ne (tgt := 67) C (by omega) (by omega) dX5_linearProbes_60 (by decide) (fun h60 => ?_) (fun h60 => ?_)
          · rw [hei] at h60
            rw [if_neg h60] at hct
            refine lv_iconst (v := nI 0) hx hb dX5_linearProbes_67 (by decide) ?_
            refine tq_iadd C dX5_linearProbes_68 ?_
            refine lv_istore_n (lv' := [(2, .int (nI ((lcnt (L.take i) mlv mpt (linOf mlv mpt k)) + 0))), (3, .int (nI (lcnt (L.take i) mlv mpt (linOf mlv mpt k)))), (0, .ref (bb 0)), (1, .int (nI (k))), (4, .int (nI (i)))]) hx hb dX5_linearProbes_69 rfl hl (by decide) rfl (fun ls hl => ?_)
            refine lv_iinc (v := (nI (i + 1))) (lv' := [(4, .int (nI (i + 1))), (2, .int (nI ((lcnt (L.take i) mlv mpt (linOf mlv mpt k)) + 0))), (3, .int (nI (lcnt (L.take i) mlv mpt (linOf mlv mpt k)))), (0, .ref (bb 0)), (1, .int (nI (k)))]) hx hb dX5_linearProbes_70 hl (k := 4) rfl (tq_inc1 _) (by decide) rfl (fun ls hl => ?_)
            refine lv_goto (tgt := 17) hx hb dX5_linearProbes_73 (by decide) ?_
            rw [← hct] at hl
            exact ih17 (i + 1) (nI (lcnt (L.take i) mlv mpt (linOf mlv mpt k))) (by omega) (by omega) (Or.inl ⟨i, by omega, by rw [← hei]; exact h34, rfl⟩) _ _ hP hD hS _ (lv_sub hl [3, 4, 1, 2, 0] rfl)
          · rw [hei] at h60
            rw [if_pos h60] at hct
            refine lv_iconst (v := nI 1) hx hb dX5_linearProbes_63 (by decide) ?_
            refine lv_goto (tgt := 68) hx hb dX5_linearProbes_64 (by decide) ?_
            refine tq_iadd C dX5_linearProbes_68 ?_
            refine lv_istore_n (lv' := [(2, .int (nI ((lcnt (L.take i) mlv mpt (linOf mlv mpt k)) + 1))), (3, .int (nI (lcnt (L.take i) mlv mpt (linOf mlv mpt k)))), (0, .ref (bb 0)), (1, .int (nI (k))), (4, .int (nI (i)))]) hx hb dX5_linearProbes_69 rfl hl (by decide) rfl (fun ls hl => ?_)
            refine lv_iinc (v := (nI (i + 1))) (lv' := [(4, .int (nI (i + 1))), (2, .int (nI ((lcnt (L.take i) mlv mpt (linOf mlv mpt k)) + 1))), (3, .int (nI (lcnt (L.take i) mlv mpt (linOf mlv mpt k)))), (0, .ref (bb 0)), (1, .int (nI (k)))]) hx hb dX5_linearProbes_70 hl (k := 4) rfl (tq_inc1 _) (by decide) rfl (fun ls hl => ?_)
            refine lv_goto (tgt := 17) hx hb dX5_linearProbes_73 (by decide) ?_
            rw [← hct] at hl
            exact ih17 (i + 1) (nI (lcnt (L.take i) mlv mpt (linOf mlv mpt k))) (by omega) (by omega) (Or.inl ⟨i, by omega, by rw [← hei]; exact h34, rfl⟩) _ _ hP hD hS _ (lv_sub hl [3, 4, 1, 2, 0] rfl)
  · refine lv_if_ne (tgt := 10) hx hb dX5_linearProbes_5 (by decide) (fun h9 => absurd (by decide : nI 0 = 0) h9) (fun _ => ?_)
    refine lv_iconst (v := nI 0) hx hb dX5_linearProbes_8 (by decide) ?_
    exact tq_iret (v := (nI (0))) C rfl (1) hP hD hS (Or.inr ⟨hn, rfl⟩) (Nat.le_of_ble_eq_true rfl) (Nat.le_of_ble_eq_true rfl) dX5_linearProbes_9
