
theorem tq_min {a b : Nat} (ha : a < 2 ^ 31) (hb : b < 2 ^ 31) : (if nI b < nI a then nI b else nI a) = nI (min a b) := by
  by_cases h : b < a
  · rw [if_pos (nI_lt h ha), Nat.min_eq_right (by omega)]
  · rw [if_neg (nI_nlt (by omega) hb), Nat.min_eq_left (by omega)]
theorem mvB_mem {E : List Nat} {p b q : Nat} : q ∈ mvB E p b ↔ q ∈ E := by
  unfold mvB
  rw [List.mem_append, List.mem_filter, List.mem_filter]
  constructor
  · rintro (h | h) <;> exact h.1
  · intro h
    cases z : (hs q % 2 ^ b == p % 2 ^ b)
    · exact Or.inl ⟨h, rfl⟩
    · exact Or.inr ⟨h, rfl⟩
theorem mvL_mem {L : List Nat} {v p r q : Nat} : q ∈ mvL L v p r ↔ q ∈ L := by
  unfold mvL
  rw [List.mem_append, List.mem_filter, List.mem_filter]
  constructor
  · rintro (h | h) <;> exact h.1
  · intro h
    cases z : (linOf v p q == r)
    · exact Or.inl ⟨h, rfl⟩
    · exact Or.inr ⟨h, rfl⟩
theorem mS_mem {cap x q : Nat} : ∀ {k : Nat} {X : (Nat → Nat) × List Nat × Int32}, q ∈ (mS cap x k X).2.1 ↔ q ∈ X.2.1
  | 0, _ => Iff.rfl
  | k + 1, X => by
    show q ∈ (if mcond cap x X = true then mS cap x k (mstep x X) else X).2.1 ↔ _
    split
    · rw [mS_mem (k := k)]; exact mvB_mem
    · exact Iff.rfl
theorem lB_mem {cap lo n q : Nat} : ∀ {k : Nat} {X : List Nat × Nat × Nat × Int32}, q ∈ (lB cap lo n k X).1 ↔ q ∈ X.1
  | 0, _ => Iff.rfl
  | k + 1, X => by
    show q ∈ (if bcond cap lo n X = true then lB cap lo n k (bstep X) else X).1 ↔ _
    split
    · rw [lB_mem (k := k)]; exact mvL_mem
    · exact Iff.rfl
theorem SO.mono {key val ord : Nat → Nat} {tk j : Nat} (h : SO key val ord tk) (hj : j ≤ tk) : SO key val ord j := ⟨by have := h.1; omega, h.2.1, h.2.2.1, fun a b c d => h.2.2.2.1 a b c (by omega), h.2.2.2.2⟩
theorem stl_rep {key val ord : Nat → Nat} {tk en k v : Nat} (h : SO key val ord tk) (hu : US ord tk en) (hk : key en = k) : stl key (va_up val en v) ord tk = repS (stl key val ord tk) k v := by
  unfold stl repS
  rw [List.map_map]
  refine List.map_congr_left (fun i hi => ?_)
  have hi2 := List.mem_range.mp hi
  show (key (ord i), va_up val en v (ord i)) = if key (ord i) = k then (k, v) else (key (ord i), val (ord i))
  by_cases z : ord i = en
  · rw [z, up_s, if_pos hk, hk]
  · rw [up_n _ _ z, if_neg]
    intro y
    exact z (h.injU _ _ ⟨i, hi2, rfl⟩ hu (y.trans hk.symm))
theorem stl_next {key val ord : Nat → Nat} {tk j : Nat} (h : SO key val ord tk) (hj : j < tk) : stl key val ord (j + 1) = insS (stl key val ord j) (key (ord j)) (val (ord j)) ∧ (stl key val ord tk).take (j + 1) = (stl key val ord tk).take j ++ [(key (ord j), val (ord j))] := by
  constructor
  · refine SS_ext (stl_sorted (h.mono (show j + 1 ≤ tk by omega)).2.2.2.1) (insS_sorted (stl_sorted (h.mono (Nat.le_of_lt hj)).2.2.2.1)) (fun q => ?_)
    rw [insS_mem (fun q hq => by
      obtain ⟨i, hi, rfl⟩ := stl_mem.mp hq
      have := h.2.2.2.1 i j hi hj
      show key (ord i) ≠ key (ord j)
      omega), stl_mem, stl_mem]
    constructor
    · rintro ⟨i, hi, rfl⟩
      rcases Nat.lt_or_eq_of_le (Nat.le_of_lt_succ hi) with z | rfl
      · exact Or.inr ⟨i, z, rfl⟩
      · exact Or.inl rfl
    · rintro (rfl | ⟨i, hi, rfl⟩)
      · exact ⟨j, by omega, rfl⟩
      · exact ⟨i, by omega, rfl⟩
  · have hl : j < (stl key val ord tk).length := by rw [stl_len]; exact hj
    rw [List.take_succ_eq_append_getElem hl]
    simp [stl]
theorem CR.added {key val ord : Nat → Nat} {tk cp : Nat} {dp : Nat} {dbl hlv spl mrg : Int32} {lev ptr llo lhi : Nat} {lsp : Int32} {dep : Nat → Nat} {E L : List Nat} {k v : Nat}
    {key2 val2 ord2 : Nat → Nat} {tk2 : Nat} {efi2 ela2 eco2 ene2 ldp2 : Nat → Nat} {dp2 : Nat} {dbl2 spl2 : Int32} {lfi2 lla2 lco2 lne2 : Nat → Nat} {lev2 ptr2 : Nat} {lsp2 : Int32}
    (h1 : SO key2 val2 ord2 tk2) (h2 : stl key2 val2 ord2 tk2 = insS (stl key val ord tk) k v) (h3 : tk2 = tk + 1) (hc : 1 ≤ cp ∧ cp ≤ 5) (hl : llo ≤ 50 ∧ 50 ≤ lhi ∧ lhi ≤ 200)
    (hX : ∃ r, XR key2 ldp2 dp2 efi2 ela2 eco2 ene2 r (pS cp E (hs k % 256) 9 (dep, dp, dbl, spl)).1 (E ++ [k]) (US ord2 tk2)) (e1 : (dp2, dbl2, spl2) = (pS cp E (hs k % 256) 9 (dep, dp, dbl, spl)).2)
    (hY : ∃ r, YR key2 lev2 ptr2 lfi2 lla2 lco2 lne2 r (L ++ [k]) (US ord2 tk2)) (e2 : (lev2, ptr2, lsp2) = lS cp lhi tk2 241 (lev, ptr, lsp)) (hin : ∀ i, i < tk2 → key2 (ord2 i) ∈ E ++ [k] ∧ key2 (ord2 i) ∈ L ++ [k]) :
    ∃ dep3 E3 L3, CR key2 val2 ord2 tk2 cp efi2 ela2 eco2 ene2 ldp2 dp2 lfi2 lla2 lco2 lne2 lev2 ptr2 llo lhi dep3 E3 L3 ∧ mkA key2 val2 ord2 tk2 cp dep3 dp2 E3 dbl2 hlv spl2 mrg L3 lev2 ptr2 llo lhi lsp2 = aadd (mkA key val ord tk cp dep dp E dbl hlv spl mrg L lev ptr llo lhi lsp) k v := by
  refine ⟨_, E ++ [k], L ++ [k], ⟨h1, hc, hl, hX, hY, hin⟩, ?_⟩
  unfold mkA aadd
  dsimp only
  rw [stl_len, ← h3, ← e2, h2, ← e1]
theorem CR.gone {key val ord : Nat → Nat} {tk cp : Nat} {dp : Nat} {dbl hlv spl mrg : Int32} {lev ptr llo lhi : Nat} {lsp : Int32} {dep : Nat → Nat} {E L : List Nat} {k : Nat}
    {ord2 : Nat → Nat} {efi2 ela2 eco2 ene2 ldp2 : Nat → Nat} {dp2 : Nat} {hlv2 mrg2 : Int32} {lfi2 lla2 lco2 lne2 : Nat → Nat} {lev2 ptr2 : Nat} {lsp2 : Int32}
    (h1 : SO key val ord2 (tk - 1)) (h2 : stl key val ord2 (tk - 1) = remS (stl key val ord tk) k) (hc : 1 ≤ cp ∧ cp ≤ 5) (hl : llo ≤ 50 ∧ 50 ≤ lhi ∧ lhi ≤ 200)
    (hX : ∃ r, XR key ldp2 dp2 efi2 ela2 eco2 ene2 r (mS cp (hs k % 256) 9 (dep, E.filter (· != k), mrg)).1 (mS cp (hs k % 256) 9 (dep, E.filter (· != k), mrg)).2.1 (US ord2 (tk - 1))) (e1 : dp2 = mx (mS cp (hs k % 256) 9 (dep, E.filter (· != k), mrg)).1 256) (e3 : mrg2 = (mS cp (hs k % 256) 9 (dep, E.filter (· != k), mrg)).2.2)
    (e4 : hlv2 = hlv + nI (dp - mx (mS cp (hs k % 256) 9 (dep, E.filter (· != k), mrg)).1 256))
    (hY : ∃ r, YR key lev2 ptr2 lfi2 lla2 lco2 lne2 r (lB cp llo (tk - 1) 241 (L.filter (· != k), lev, ptr, lsp)).1 (US ord2 (tk - 1))) (e2 : (lev2, ptr2, lsp2) = (lB cp llo (tk - 1) 241 (L.filter (· != k), lev, ptr, lsp)).2)
    (hin : ∀ i, i < tk - 1 → ∃ j, j < tk ∧ ord2 i = ord j ∧ key (ord j) ≠ k) (hEL : ∀ i, i < tk → key (ord i) ∈ E ∧ key (ord i) ∈ L) :
    ∃ dep3 E3 L3, CR key val ord2 (tk - 1) cp efi2 ela2 eco2 ene2 ldp2 dp2 lfi2 lla2 lco2 lne2 lev2 ptr2 llo lhi dep3 E3 L3 ∧ mkA key val ord2 (tk - 1) cp dep3 dp2 E3 dbl hlv2 spl mrg2 L3 lev2 ptr2 llo lhi lsp2 = adel (mkA key val ord tk cp dep dp E dbl hlv spl mrg L lev ptr llo lhi lsp) k := by
  refine ⟨_, _, _, ⟨h1, hc, hl, hX, hY, fun i hi => ?_⟩, ?_⟩
  · obtain ⟨j, hj, a, b⟩ := hin i hi
    rw [a, mS_mem, lB_mem]
    exact ⟨List.mem_filter.mpr ⟨(hEL j hj).1, by simpa using b⟩, List.mem_filter.mpr ⟨(hEL j hj).2, by simpa using b⟩⟩
  · unfold mkA adel
    dsimp only
    rw [stl_len, h2, e4, e3, e1, e2]
theorem CR.cleared {key val ord : Nat → Nat} {tk cp : Nat} {dp : Nat} {dbl hlv spl mrg : Int32} {lev ptr llo lhi : Nat} {lsp : Int32} {dep : Nat → Nat} {E L : List Nat} {c : Nat}
    {efi2 ela2 eco2 ene2 ldp ldp2 : Nat → Nat} {lfi2 lla2 lco2 lne2 : Nat → Nat} (h1 : SO key val ord tk) (hc : 1 ≤ c ∧ c ≤ 5) (hl : llo ≤ 50 ∧ 50 ≤ lhi ∧ lhi ≤ 200) (hbd : ∀ q, q < 256 → ldp q ≤ 8) (h2 : ldp2 = va_up ldp 0 0)
    (hX : RR efi2 ela2 eco2 ene2 (fun _ => [])) (hY : RR lfi2 lla2 lco2 lne2 (fun _ => [])) :
    CR key val ord 0 c efi2 ela2 eco2 ene2 ldp2 0 lfi2 lla2 lco2 lne2 0 0 llo lhi (fun _ => 0) [] [] ∧ mkA key val ord 0 c (fun _ => 0) 0 [] dbl hlv spl mrg [] 0 0 llo lhi lsp = aclr (mkA key val ord tk cp dep dp E dbl hlv spl mrg L lev ptr llo lhi lsp) c :=
  ⟨⟨h1.mono (Nat.zero_le _), hc, hl, ⟨_, XR.empty0 hX hbd h2⟩, ⟨_, hY, ⟨by decide, by decide⟩, fun r _ => rfl, fun r _ e he => absurd he List.not_mem_nil⟩, fun i hi => absurd hi (Nat.not_lt_zero _)⟩, rfl⟩

theorem dX4_insertIntoBoth_0 : decode cX4_insertIntoBoth 0 = .ok (.aload_n 0, 1) := by decide +kernel
theorem dX4_insertIntoBoth_1 : decode cX4_insertIntoBoth 1 = .ok (.getfield 21, 3) := by decide +kernel
theorem dX4_insertIntoBoth_4 : decode cX4_insertIntoBoth 4 = .ok (.iload_n 1, 1) := by decide +kernel
theorem dX4_insertIntoBoth_5 : decode cX4_insertIntoBoth 5 = .ok (.invokevirtual 184, 3) := by decide +kernel
theorem dX4_insertIntoBoth_8 : decode cX4_insertIntoBoth 8 = .ok (.aload_n 0, 1) := by decide +kernel
theorem dX4_insertIntoBoth_9 : decode cX4_insertIntoBoth 9 = .ok (.getfield 28, 3) := by decide +kernel
theorem dX4_insertIntoBoth_12 : decode cX4_insertIntoBoth 12 = .ok (.iload_n 1, 1) := by decide +kernel
theorem dX4_insertIntoBoth_13 : decode cX4_insertIntoBoth 13 = .ok (.invokevirtual 187, 3) := by decide +kernel
theorem dX4_insertIntoBoth_16 : decode cX4_insertIntoBoth 16 = .ok (.return_, 1) := by decide +kernel
theorem dX4_emptyAll_0 : decode cX4_emptyAll 0 = .ok (.aload_n 0, 1) := by decide +kernel
theorem dX4_emptyAll_1 : decode cX4_emptyAll 1 = .ok (.getfield 10, 3) := by decide +kernel
theorem dX4_emptyAll_4 : decode cX4_emptyAll 4 = .ok (.invokevirtual 188, 3) := by decide +kernel
theorem dX4_emptyAll_7 : decode cX4_emptyAll 7 = .ok (.aload_n 0, 1) := by decide +kernel
theorem dX4_emptyAll_8 : decode cX4_emptyAll 8 = .ok (.getfield 21, 3) := by decide +kernel
theorem dX4_emptyAll_11 : decode cX4_emptyAll 11 = .ok (.invokevirtual 191, 3) := by decide +kernel
theorem dX4_emptyAll_14 : decode cX4_emptyAll 14 = .ok (.aload_n 0, 1) := by decide +kernel
theorem dX4_emptyAll_15 : decode cX4_emptyAll 15 = .ok (.getfield 28, 3) := by decide +kernel
theorem dX4_emptyAll_18 : decode cX4_emptyAll 18 = .ok (.invokevirtual 194, 3) := by decide +kernel
theorem dX4_emptyAll_21 : decode cX4_emptyAll 21 = .ok (.return_, 1) := by decide +kernel
theorem dX4_put_0 : decode cX4_put 0 = .ok (.iload_n 1, 1) := by decide +kernel
theorem dX4_put_1 : decode cX4_put 1 = .ok (.invokestatic 32, 3) := by decide +kernel
theorem dX4_put_4 : decode cX4_put 4 = .ok (.iload_n 2, 1) := by decide +kernel
theorem dX4_put_5 : decode cX4_put 5 = .ok (.iconst 0, 1) := by decide +kernel
theorem dX4_put_6 : decode cX4_put 6 = .ok (.ldc 36, 2) := by decide +kernel
theorem dX4_put_8 : decode cX4_put 8 = .ok (.invokestatic 37, 3) := by decide +kernel
theorem dX4_put_11 : decode cX4_put 11 = .ok (.aload_n 0, 1) := by decide +kernel
theorem dX4_put_12 : decode cX4_put 12 = .ok (.getfield 21, 3) := by decide +kernel
theorem dX4_put_15 : decode cX4_put 15 = .ok (.iload_n 1, 1) := by decide +kernel
theorem dX4_put_16 : decode cX4_put 16 = .ok (.invokevirtual 41, 3) := by decide +kernel
theorem dX4_put_19 : decode cX4_put 19 = .ok (.istore_n 3, 1) := by decide +kernel
theorem dX4_put_20 : decode cX4_put 20 = .ok (.iload_n 3, 1) := by decide +kernel
theorem dX4_put_21 : decode cX4_put 21 = .ok (.ifCond .eq 13, 3) := by decide +kernel
theorem dX4_put_24 : decode cX4_put 24 = .ok (.aload_n 0, 1) := by decide +kernel
theorem dX4_put_25 : decode cX4_put 25 = .ok (.getfield 10, 3) := by decide +kernel
theorem dX4_put_28 : decode cX4_put 28 = .ok (.iload_n 3, 1) := by decide +kernel
theorem dX4_put_29 : decode cX4_put 29 = .ok (.iload_n 2, 1) := by decide +kernel
theorem dX4_put_30 : decode cX4_put 30 = .ok (.invokevirtual 45, 3) := by decide +kernel
theorem dX4_put_33 : decode cX4_put 33 = .ok (.ireturn, 1) := by decide +kernel
theorem dX4_put_34 : decode cX4_put 34 = .ok (.aload_n 0, 1) := by decide +kernel
theorem dX4_put_35 : decode cX4_put 35 = .ok (.getfield 10, 3) := by decide +kernel
theorem dX4_put_38 : decode cX4_put 38 = .ok (.getfield 49, 3) := by decide +kernel
theorem dX4_put_41 : decode cX4_put 41 = .ok (.bipush 120, 2) := by decide +kernel
theorem dX4_put_43 : decode cX4_put 43 = .ok (.if_icmp .lt 13, 3) := by decide +kernel
theorem dX4_put_46 : decode cX4_put 46 = .ok (.new 53, 3) := by decide +kernel
theorem dX4_put_49 : decode cX4_put 49 = .ok (.dup, 1) := by decide +kernel
theorem dX4_put_50 : decode cX4_put 50 = .ok (.ldc 55, 2) := by decide +kernel
theorem dX4_put_52 : decode cX4_put 52 = .ok (.invokespecial 57, 3) := by decide +kernel
theorem dX4_put_55 : decode cX4_put 55 = .ok (.athrow, 1) := by decide +kernel
theorem dX4_put_56 : decode cX4_put 56 = .ok (.aload_n 0, 1) := by decide +kernel
theorem dX4_put_57 : decode cX4_put 57 = .ok (.aload_n 0, 1) := by decide +kernel
theorem dX4_put_58 : decode cX4_put 58 = .ok (.getfield 10, 3) := by decide +kernel
theorem dX4_put_61 : decode cX4_put 61 = .ok (.iload_n 1, 1) := by decide +kernel
theorem dX4_put_62 : decode cX4_put 62 = .ok (.iload_n 2, 1) := by decide +kernel
theorem dX4_put_63 : decode cX4_put 63 = .ok (.invokevirtual 60, 3) := by decide +kernel
theorem dX4_put_66 : decode cX4_put 66 = .ok (.invokevirtual 63, 3) := by decide +kernel
theorem dX4_put_69 : decode cX4_put 69 = .ok (.iconst (-1), 1) := by decide +kernel
theorem dX4_put_70 : decode cX4_put 70 = .ok (.ireturn, 1) := by decide +kernel
theorem dX4_remove_0 : decode cX4_remove 0 = .ok (.iload_n 1, 1) := by decide +kernel
theorem dX4_remove_1 : decode cX4_remove 1 = .ok (.invokestatic 32, 3) := by decide +kernel
theorem dX4_remove_4 : decode cX4_remove 4 = .ok (.aload_n 0, 1) := by decide +kernel
theorem dX4_remove_5 : decode cX4_remove 5 = .ok (.getfield 21, 3) := by decide +kernel
theorem dX4_remove_8 : decode cX4_remove 8 = .ok (.iload_n 1, 1) := by decide +kernel
theorem dX4_remove_9 : decode cX4_remove 9 = .ok (.invokevirtual 41, 3) := by decide +kernel
theorem dX4_remove_12 : decode cX4_remove 12 = .ok (.istore_n 2, 1) := by decide +kernel
theorem dX4_remove_13 : decode cX4_remove 13 = .ok (.iload_n 2, 1) := by decide +kernel
theorem dX4_remove_14 : decode cX4_remove 14 = .ok (.ifCond .ne 5, 3) := by decide +kernel
theorem dX4_remove_17 : decode cX4_remove 17 = .ok (.iconst (-1), 1) := by decide +kernel
theorem dX4_remove_18 : decode cX4_remove 18 = .ok (.ireturn, 1) := by decide +kernel
theorem dX4_remove_19 : decode cX4_remove 19 = .ok (.aload_n 0, 1) := by decide +kernel
theorem dX4_remove_20 : decode cX4_remove 20 = .ok (.getfield 10, 3) := by decide +kernel
theorem dX4_remove_23 : decode cX4_remove 23 = .ok (.iload_n 2, 1) := by decide +kernel
theorem dX4_remove_24 : decode cX4_remove 24 = .ok (.invokevirtual 66, 3) := by decide +kernel
theorem dX4_remove_27 : decode cX4_remove 27 = .ok (.aload_n 0, 1) := by decide +kernel
theorem dX4_remove_28 : decode cX4_remove 28 = .ok (.getfield 21, 3) := by decide +kernel
theorem dX4_remove_31 : decode cX4_remove 31 = .ok (.iload_n 2, 1) := by decide +kernel
theorem dX4_remove_32 : decode cX4_remove 32 = .ok (.invokevirtual 69, 3) := by decide +kernel
theorem dX4_remove_35 : decode cX4_remove 35 = .ok (.aload_n 0, 1) := by decide +kernel
theorem dX4_remove_36 : decode cX4_remove 36 = .ok (.getfield 28, 3) := by decide +kernel
theorem dX4_remove_39 : decode cX4_remove 39 = .ok (.iload_n 2, 1) := by decide +kernel
theorem dX4_remove_40 : decode cX4_remove 40 = .ok (.invokevirtual 72, 3) := by decide +kernel
theorem dX4_remove_43 : decode cX4_remove 43 = .ok (.aload_n 0, 1) := by decide +kernel
theorem dX4_remove_44 : decode cX4_remove 44 = .ok (.getfield 10, 3) := by decide +kernel
theorem dX4_remove_47 : decode cX4_remove 47 = .ok (.iload_n 2, 1) := by decide +kernel
theorem dX4_remove_48 : decode cX4_remove 48 = .ok (.invokevirtual 73, 3) := by decide +kernel
theorem dX4_remove_51 : decode cX4_remove 51 = .ok (.ireturn, 1) := by decide +kernel
theorem dX4_rebuild_0 : decode cX4_rebuild 0 = .ok (.iload_n 1, 1) := by decide +kernel
theorem dX4_rebuild_1 : decode cX4_rebuild 1 = .ok (.iconst 1, 1) := by decide +kernel
theorem dX4_rebuild_2 : decode cX4_rebuild 2 = .ok (.iconst 5, 1) := by decide +kernel
theorem dX4_rebuild_3 : decode cX4_rebuild 3 = .ok (.invokestatic 37, 3) := by decide +kernel
theorem dX4_rebuild_6 : decode cX4_rebuild 6 = .ok (.aload_n 0, 1) := by decide +kernel
theorem dX4_rebuild_7 : decode cX4_rebuild 7 = .ok (.getfield 10, 3) := by decide +kernel
theorem dX4_rebuild_10 : decode cX4_rebuild 10 = .ok (.getfield 83, 3) := by decide +kernel
theorem dX4_rebuild_13 : decode cX4_rebuild 13 = .ok (.istore_n 2, 1) := by decide +kernel
theorem dX4_rebuild_14 : decode cX4_rebuild 14 = .ok (.aload_n 0, 1) := by decide +kernel
theorem dX4_rebuild_15 : decode cX4_rebuild 15 = .ok (.getfield 10, 3) := by decide +kernel
theorem dX4_rebuild_18 : decode cX4_rebuild 18 = .ok (.getfield 49, 3) := by decide +kernel
theorem dX4_rebuild_21 : decode cX4_rebuild 21 = .ok (.istore_n 3, 1) := by decide +kernel
theorem dX4_rebuild_22 : decode cX4_rebuild 22 = .ok (.aload_n 0, 1) := by decide +kernel
theorem dX4_rebuild_23 : decode cX4_rebuild 23 = .ok (.invokevirtual 80, 3) := by decide +kernel
theorem dX4_rebuild_26 : decode cX4_rebuild 26 = .ok (.aload_n 0, 1) := by decide +kernel
theorem dX4_rebuild_27 : decode cX4_rebuild 27 = .ok (.getfield 10, 3) := by decide +kernel
theorem dX4_rebuild_30 : decode cX4_rebuild 30 = .ok (.iload_n 1, 1) := by decide +kernel
theorem dX4_rebuild_31 : decode cX4_rebuild 31 = .ok (.putfield 83, 3) := by decide +kernel
theorem dX4_rebuild_34 : decode cX4_rebuild 34 = .ok (.iconst 0, 1) := by decide +kernel
theorem dX4_rebuild_35 : decode cX4_rebuild 35 = .ok (.istore 4, 2) := by decide +kernel
theorem dX4_rebuild_37 : decode cX4_rebuild 37 = .ok (.iload 4, 2) := by decide +kernel
theorem dX4_rebuild_39 : decode cX4_rebuild 39 = .ok (.iload_n 3, 1) := by decide +kernel
theorem dX4_rebuild_40 : decode cX4_rebuild 40 = .ok (.if_icmp .ge 20, 3) := by decide +kernel
theorem dX4_rebuild_43 : decode cX4_rebuild 43 = .ok (.aload_n 0, 1) := by decide +kernel
theorem dX4_rebuild_44 : decode cX4_rebuild 44 = .ok (.aload_n 0, 1) := by decide +kernel
theorem dX4_rebuild_45 : decode cX4_rebuild 45 = .ok (.getfield 10, 3) := by decide +kernel
theorem dX4_rebuild_48 : decode cX4_rebuild 48 = .ok (.invokevirtual 86, 3) := by decide +kernel
theorem dX4_rebuild_51 : decode cX4_rebuild 51 = .ok (.invokevirtual 63, 3) := by decide +kernel
theorem dX4_rebuild_54 : decode cX4_rebuild 54 = .ok (.iinc 4 1, 3) := by decide +kernel
theorem dX4_rebuild_57 : decode cX4_rebuild 57 = .ok (.goto (-20), 3) := by decide +kernel
theorem dX4_rebuild_60 : decode cX4_rebuild 60 = .ok (.iload_n 2, 1) := by decide +kernel
theorem dX4_rebuild_61 : decode cX4_rebuild 61 = .ok (.ireturn, 1) := by decide +kernel
set_option maxHeartbeats 4000000 in
set_option maxRecDepth 100000 in
theorem c_X4_insertIntoBoth (l : Launch) (D : va_G) (cy : ClassId) (a : Nat → Nat) (key : Nat → Nat) (val : Nat → Nat) (ord : Nat → Nat) (tk : Nat) (cp : Nat) (efi : Nat → Nat) (ela : Nat → Nat) (eco : Nat → Nat) (ene : Nat → Nat) (ldp : Nat → Nat) (dp : Nat) (dbl : Int32) (hlv : Int32) (spl : Int32) (mrg : Int32) (lfi : Nat → Nat) (lla : Nat → Nat) (lco : Nat → Nat) (lne : Nat → Nat) (lev : Nat) (ptr : Nat) (llo : Nat) (lhi : Nat) (lsp : Int32) (en : Nat) (rX rY : Nat → List Nat) (dep : Nat → Nat) (E L : List Nat) (U1 U2 : Nat → Prop) (hXR : XR key ldp dp efi ela eco ene rX dep E U1) (hYR : YR key lev ptr lfi lla lco lne rY L U1) (hkey : ∀ e, 1 ≤ e → e ≤ 120 → key e < 65536) (h1 : 1 ≤ en) (h2 : en ≤ 120) (hnU : ¬ U1 en) (hU1 : ∀ e, U1 e → U2 e) (hU2 : U2 en) (hcp1 : 1 ≤ cp) (hcp2 : cp ≤ 5) (htk : tk ≤ 120) (hlo : llo ≤ 50) (hh1 : 50 ≤ lhi) (hh2 : lhi ≤ 200) : tq_V (S := (Nat → Nat) × (Nat → Nat) × (Nat → Nat) × (Nat → Nat) × (Nat → Nat) × Nat × Int32 × Int32 × (Nat → Nat) × (Nat → Nat) × (Nat → Nat) × (Nat → Nat) × Nat × Nat × Int32) l yX4_insertIntoBoth cX4_insertIntoBoth 2 5 116 0 0 D cy (wC cy a key val ord tk cp efi ela eco ene ldp dp dbl hlv spl mrg lfi lla lco lne lev ptr llo lhi lsp) [.ref (a 0), .int (nI (en))] (fun u => (∃ r, XR key u.2.2.2.2.1 u.2.2.2.2.2.1 u.1 u.2.1 u.2.2.1 u.2.2.2.1 r (pS cp E (hs (key en) % 256) 9 (dep, dp, dbl, spl)).1 (E ++ [key en]) U2) ∧ (u.2.2.2.2.2.1, u.2.2.2.2.2.2.1, u.2.2.2.2.2.2.2.1) = (pS cp E (hs (key en) % 256) 9 (dep, dp, dbl, spl)).2 ∧ (∃ r, YR key u.2.2.2.2.2.2.2.2.2.2.2.2.1 u.2.2.2.2.2.2.2.2.2.2.2.2.2.1 u.2.2.2.2.2.2.2.2.1 u.2.2.2.2.2.2.2.2.2.1 u.2.2.2.2.2.2.2.2.2.2.1 u.2.2.2.2.2.2.2.2.2.2.2.1 r (L ++ [key en]) U2) ∧ (u.2.2.2.2.2.2.2.2.2.2.2.2.1, u.2.2.2.2.2.2.2.2.2.2.2.2.2.1, u.2.2.2.2.2.2.2.2.2.2.2.2.2.2) = (lS cp lhi tk 241 (lev, ptr, lsp))) (fun u => (wC cy a key val ord tk cp u.1 u.2.1 u.2.2.1 u.2.2.2.1 u.2.2.2.2.1 u.2.2.2.2.2.1 u.2.2.2.2.2.2.1 hlv u.2.2.2.2.2.2.2.1 mrg u.2.2.2.2.2.2.2.2.1 u.2.2.2.2.2.2.2.2.2.1 u.2.2.2.2.2.2.2.2.2.2.1 u.2.2.2.2.2.2.2.2.2.2.2.1 u.2.2.2.2.2.2.2.2.2.2.2.2.1 u.2.2.2.2.2.2.2.2.2.2.2.2.2.1 llo lhi u.2.2.2.2.2.2.2.2.2.2.2.2.2.2)) := by
  refine tq_V.mk (by decide) (Nat.le_of_ble_eq_true rfl) ?_
  intro p e s m args below meth c A C hin hP hK hD hS hA ls hl
  obtain ⟨hx, hb, hml, hown, hrt, hlk, hT⟩ := id C
  have hl : lv_has ls 2 [(0, .ref (a 0)), (1, .int (nI (en)))] := hl
  refine lv_aload_n hx hb dX4_insertIntoBoth_0 rfl (lv_at hl 0 rfl) ?_
  refine tq_get (C0 := RX4) (T := TX4) (N := 3) (ci := 4) (k := 1) C gX4 inX4 rfl (by decide) rfl fl_X4_21 hK hP 0 rfl rfl dX4_insertIntoBoth_1 ?_
  refine lv_iload_n hx hb dX4_insertIntoBoth_4 rfl (lv_at hl 1 rfl) ?_
  refine tq_callV (W3 := fun u => (wC cy a key val ord tk cp u.1 u.2.1 u.2.2.1 u.2.2.2.1 u.2.2.2.2.1 u.2.2.2.2.2.1 u.2.2.2.2.2.2.1 hlv u.2.2.2.2.2.2.2 mrg lfi lla lco lne lev ptr llo lhi lsp)) (wr := []) (va_runV C.fix (As := [.int (nI (en))]) (rest := []) ((c_X0_insert l D cy a key val ord tk cp efi ela eco ene ldp dp dbl hlv spl mrg lfi lla lco lne lev ptr llo lhi lsp en rX dep E U1 hXR hkey U2 h1 h2 hnU hU1 hU2 hcp2) s.heap.size) (tq_cV (n := 1) C ml_X4_184 im_X0_insert se_X0_insert ini_X0 cd_X0_insert ⟨by decide, by decide, by decide +kernel⟩ ⟨Nat.le_of_ble_eq_true rfl, Nat.le_of_ble_eq_true rfl⟩) ⟨tq_Pc.blind, va_recv hK hP (ci := 0) (q0 := 2) rfl rfl, tq_preC C hK hP hD⟩ rfl rfl hl.1 rfl (lv_room (Nat.le_of_ble_eq_true rfl)) dX4_insertIntoBoth_5 ⟨Nat.le_of_ble_eq_true rfl, Nat.le_of_ble_eq_true rfl⟩) hP hD hS hA [0, 1, 2, 3, 4, 5, 6, 7, 8, 9, 10, 11, 12, 13, 14, 15, 16, 17] [] [0, 1, 2, 3, 4, 5, 6, 7, 8, 9, 10, 11, 12, 13, 14, 15, 16, 17] rfl rfl (by decide) (by decide) (by decide) (fun _ => rfl) (fun u5 H locs hr5 hP hD hS => ?_)
  obtain ⟨efi2, ela2, eco2, ene2, ldp2, dp2, dbl2, spl2⟩ := u5
  try dsimp only at hr5
  have hP : va_P D vwCl (wC cy a key val ord tk cp efi2 ela2 eco2 ene2 ldp2 dp2 dbl2 hlv spl2 mrg lfi lla lco lne lev ptr llo lhi lsp) H := hP
  have hD : va_D A (wC cy a key val ord tk cp efi2 ela2 eco2 ene2 ldp2 dp2 dbl2 hlv spl2 mrg lfi lla lco lne lev ptr llo lhi lsp) := hD
  refine lv_aload_n hx hb dX4_insertIntoBoth_8 rfl (lv_at hl 0 rfl) ?_
  refine tq_get (C0 := RX4) (T := TX4) (N := 3) (ci := 4) (k := 2) C gX4 inX4 rfl (by decide) rfl fl_X4_28 hK hP 0 rfl rfl dX4_insertIntoBoth_9 ?_
  refine lv_iload_n hx hb dX4_insertIntoBoth_12 rfl (lv_at hl 1 rfl) ?_
  refine tq_callV (W3 := fun u => (wC cy a key val ord tk cp efi2 ela2 eco2 ene2 ldp2 dp2 dbl2 hlv spl2 mrg u.1 u.2.1 u.2.2.1 u.2.2.2.1 u.2.2.2.2.1 u.2.2.2.2.2.1 llo lhi u.2.2.2.2.2.2)) (wr := []) (va_runV C.fix (As := [.int (nI (en))]) (rest := []) ((c_X1_insert l D cy a key val ord tk cp efi2 ela2 eco2 ene2 ldp2 dp2 dbl2 hlv spl2 mrg lfi lla lco lne lev ptr llo lhi lsp en rY L U1 hYR hkey U2 h1 h2 hcp1 hcp2 htk hlo hh1 hh2 hnU hU1 hU2) H.size) (tq_cV (n := 1) C ml_X4_187 im_X1_insert se_X1_insert ini_X1 cd_X1_insert ⟨by decide, by decide, by decide +kernel⟩ ⟨Nat.le_of_ble_eq_true rfl, Nat.le_of_ble_eq_true rfl⟩) ⟨tq_Pc.blind, va_recv hK hP (ci := 1) (q0 := 3) rfl rfl, tq_preC C hK hP hD⟩ rfl rfl hl.1 rfl (lv_room (Nat.le_of_ble_eq_true rfl)) dX4_insertIntoBoth_13 ⟨Nat.le_of_ble_eq_true rfl, Nat.le_of_ble_eq_true rfl⟩) hP hD hS hA [0, 1, 2, 3, 4, 5, 6, 7, 8, 9, 10, 11, 12, 13, 14, 15, 16, 17] [] [0, 1, 2, 3, 4, 5, 6, 7, 8, 9, 10, 11, 12, 13, 14, 15, 16, 17] rfl rfl (by decide) (by decide) (by decide) (fun _ => rfl) (fun u13 H locs hr13 hP hD hS => ?_)
  obtain ⟨lfi2, lla2, lco2, lne2, lev2, ptr2, lsp2⟩ := u13
  try dsimp only at hr13
  have hP : va_P D vwCl (wC cy a key val ord tk cp efi2 ela2 eco2 ene2 ldp2 dp2 dbl2 hlv spl2 mrg lfi2 lla2 lco2 lne2 lev2 ptr2 llo lhi lsp2) H := hP
  have hD : va_D A (wC cy a key val ord tk cp efi2 ela2 eco2 ene2 ldp2 dp2 dbl2 hlv spl2 mrg lfi2 lla2 lco2 lne2 lev2 ptr2 llo lhi lsp2) := hD
  exact tq_vret C (efi2, ela2, eco2, ene2, ldp2, dp2, dbl2, spl2, lfi2, lla2, lco2, lne2, lev2, ptr2, lsp2) hP hD hS (⟨hr5.1, hr5.2, hr13.1, hr13.2⟩) (Nat.le_of_ble_eq_true rfl) (Nat.le_of_ble_eq_true rfl) dX4_insertIntoBoth_16
set_option maxHeartbeats 4000000 in
set_option maxRecDepth 100000 in
theorem c_X4_emptyAll (l : Launch) (D : va_G) (cy : ClassId) (a : Nat → Nat) (key : Nat → Nat) (val : Nat → Nat) (ord : Nat → Nat) (tk : Nat) (cp : Nat) (efi : Nat → Nat) (ela : Nat → Nat) (eco : Nat → Nat) (ene : Nat → Nat) (ldp : Nat → Nat) (dp : Nat) (dbl : Int32) (hlv : Int32) (spl : Int32) (mrg : Int32) (lfi : Nat → Nat) (lla : Nat → Nat) (lco : Nat → Nat) (lne : Nat → Nat) (lev : Nat) (ptr : Nat) (llo : Nat) (lhi : Nat) (lsp : Int32)   : tq_V (S := (Nat → Nat) × (Nat → Nat) × (Nat → Nat) × (Nat → Nat) × (Nat → Nat) × (Nat → Nat)) l yX4_emptyAll cX4_emptyAll 1 4 82 0 0 D cy (wC cy a key val ord tk cp efi ela eco ene ldp dp dbl hlv spl mrg lfi lla lco lne lev ptr llo lhi lsp) [.ref (a 0)] (fun u => RR u.1 u.2.1 u.2.2.1 ene (fun _ => []) ∧ RR u.2.2.2.1 u.2.2.2.2.1 u.2.2.2.2.2 lne (fun _ => [])) (fun u => (wC cy a key val ord 0 cp u.1 u.2.1 u.2.2.1 ene (va_up ldp 0 0) 0 dbl hlv spl mrg u.2.2.2.1 u.2.2.2.2.1 u.2.2.2.2.2 lne 0 0 llo lhi lsp)) := by
  refine tq_V.mk (by decide) (Nat.le_of_ble_eq_true rfl) ?_
  intro p e s m args below meth c A C hin hP hK hD hS hA ls hl
  obtain ⟨hx, hb, hml, hown, hrt, hlk, hT⟩ := id C
  have hl : lv_has ls 1 [(0, .ref (a 0))] := hl
  refine lv_aload_n hx hb dX4_emptyAll_0 rfl (lv_at hl 0 rfl) ?_
  refine tq_get (C0 := RX4) (T := TX4) (N := 3) (ci := 4) (k := 0) C gX4 inX4 rfl (by decide) rfl fl_X4_10 hK hP 0 rfl rfl dX4_emptyAll_1 ?_
  refine tq_callV (W3 := fun u => (wC cy a key val ord 0 cp efi ela eco ene ldp dp dbl hlv spl mrg lfi lla lco lne lev ptr llo lhi lsp)) (wr := []) (va_runV C.fix (As := []) (rest := []) ((c_X3_releaseAll l D cy a key val ord tk cp efi ela eco ene ldp dp dbl hlv spl mrg lfi lla lco lne lev ptr llo lhi lsp) s.heap.size) (tq_cV (n := 0) C ml_X4_188 im_X3_releaseAll se_X3_releaseAll ini_X3 cd_X3_releaseAll ⟨by decide, by decide, by decide +kernel⟩ ⟨Nat.le_of_ble_eq_true rfl, Nat.le_of_ble_eq_true rfl⟩) ⟨tq_Pc.blind, va_recv hK hP (ci := 3) (q0 := 1) rfl rfl, tq_preC C hK hP hD⟩ rfl rfl hl.1 rfl (lv_room (Nat.le_of_ble_eq_true rfl)) dX4_emptyAll_4 ⟨Nat.le_of_ble_eq_true rfl, Nat.le_of_ble_eq_true rfl⟩) hP hD hS hA [0, 1, 2, 3, 4, 5, 6, 7, 8, 9, 10, 11, 12, 13, 14, 15, 16, 17] [] [0, 1, 2, 3, 4, 5, 6, 7, 8, 9, 10, 11, 12, 13, 14, 15, 16, 17] rfl rfl (by decide) (by decide) (by decide) (fun _ => rfl) (fun u4 H locs hr4 hP hD hS => ?_)
  have hP : va_P D vwCl (wC cy a key val ord 0 cp efi ela eco ene ldp dp dbl hlv spl mrg lfi lla lco lne lev ptr llo lhi lsp) H := hP
  have hD : va_D A (wC cy a key val ord 0 cp efi ela eco ene ldp dp dbl hlv spl mrg lfi lla lco lne lev ptr llo lhi lsp) := hD
  refine lv_aload_n hx hb dX4_emptyAll_7 rfl (lv_at hl 0 rfl) ?_
  refine tq_get (C0 := RX4) (T := TX4) (N := 3) (ci := 4) (k := 1) C gX4 inX4 rfl (by decide) rfl fl_X4_21 hK hP 0 rfl rfl dX4_emptyAll_8 ?_
  refine tq_callV (W3 := fun u => (wC cy a key val ord 0 cp u.1 u.2.1 u.2.2 ene (va_up ldp 0 0) 0 dbl hlv spl mrg lfi lla lco lne lev ptr llo lhi lsp)) (wr := []) (va_runV C.fix (As := []) (rest := []) ((c_X0_reset l D cy a key val ord 0 cp efi ela eco ene ldp dp dbl hlv spl mrg lfi lla lco lne lev ptr llo lhi lsp) H.size) (tq_cV (n := 0) C ml_X4_191 im_X0_reset se_X0_reset ini_X0 cd_X0_reset ⟨by decide, by decide, by decide +kernel⟩ ⟨Nat.le_of_ble_eq_true rfl, Nat.le_of_ble_eq_true rfl⟩) ⟨tq_Pc.blind, va_recv hK hP (ci := 0) (q0 := 2) rfl rfl, tq_preC C hK hP hD⟩ rfl rfl hl.1 rfl (lv_room (Nat.le_of_ble_eq_true rfl)) dX4_emptyAll_11 ⟨Nat.le_of_ble_eq_true rfl, Nat.le_of_ble_eq_true rfl⟩) hP hD hS hA [0, 1, 2, 3, 4, 5, 6, 7, 8, 9, 10, 11, 12, 13, 14, 15, 16, 17] [] [0, 1, 2, 3, 4, 5, 6, 7, 8, 9, 10, 11, 12, 13, 14, 15, 16, 17] rfl rfl (by decide) (by decide) (by decide) (fun _ => rfl) (fun u11 H locs hr11 hP hD hS => ?_)
  obtain ⟨efi2, ela2, eco2⟩ := u11
  try dsimp only at hr11
  have hP : va_P D vwCl (wC cy a key val ord 0 cp efi2 ela2 eco2 ene (va_up ldp 0 0) 0 dbl hlv spl mrg lfi lla lco lne lev ptr llo lhi lsp) H := hP
  have hD : va_D A (wC cy a key val ord 0 cp efi2 ela2 eco2 ene (va_up ldp 0 0) 0 dbl hlv spl mrg lfi lla lco lne lev ptr llo lhi lsp) := hD
  refine lv_aload_n hx hb dX4_emptyAll_14 rfl (lv_at hl 0 rfl) ?_
  refine tq_get (C0 := RX4) (T := TX4) (N := 3) (ci := 4) (k := 2) C gX4 inX4 rfl (by decide) rfl fl_X4_28 hK hP 0 rfl rfl dX4_emptyAll_15 ?_
  refine tq_callV (W3 := fun u => (wC cy a key val ord 0 cp efi2 ela2 eco2 ene (va_up ldp 0 0) 0 dbl hlv spl mrg u.1 u.2.1 u.2.2 lne 0 0 llo lhi lsp)) (wr := []) (va_runV C.fix (As := []) (rest := []) ((c_X1_reset l D cy a key val ord 0 cp efi2 ela2 eco2 ene (va_up ldp 0 0) 0 dbl hlv spl mrg lfi lla lco lne lev ptr llo lhi lsp) H.size) (tq_cV (n := 0) C ml_X4_194 im_X1_reset se_X1_reset ini_X1 cd_X1_reset ⟨by decide, by decide, by decide +kernel⟩ ⟨Nat.le_of_ble_eq_true rfl, Nat.le_of_ble_eq_true rfl⟩) ⟨tq_Pc.blind, va_recv hK hP (ci := 1) (q0 := 3) rfl rfl, tq_preC C hK hP hD⟩ rfl rfl hl.1 rfl (lv_room (Nat.le_of_ble_eq_true rfl)) dX4_emptyAll_18 ⟨Nat.le_of_ble_eq_true rfl, Nat.le_of_ble_eq_true rfl⟩) hP hD hS hA [0, 1, 2, 3, 4, 5, 6, 7, 8, 9, 10, 11, 12, 13, 14, 15, 16, 17] [] [0, 1, 2, 3, 4, 5, 6, 7, 8, 9, 10, 11, 12, 13, 14, 15, 16, 17] rfl rfl (by decide) (by decide) (by decide) (fun _ => rfl) (fun u18 H locs hr18 hP hD hS => ?_)
  obtain ⟨lfi2, lla2, lco2⟩ := u18
  try dsimp only at hr18
  have hP : va_P D vwCl (wC cy a key val ord 0 cp efi2 ela2 eco2 ene (va_up ldp 0 0) 0 dbl hlv spl mrg lfi2 lla2 lco2 lne 0 0 llo lhi lsp) H := hP
  have hD : va_D A (wC cy a key val ord 0 cp efi2 ela2 eco2 ene (va_up ldp 0 0) 0 dbl hlv spl mrg lfi2 lla2 lco2 lne 0 0 llo lhi lsp) := hD
  exact tq_vret C (efi2, ela2, eco2, lfi2, lla2, lco2) hP hD hS (⟨hr11, hr18⟩) (Nat.le_of_ble_eq_true rfl) (Nat.le_of_ble_eq_true rfl) dX4_emptyAll_21
