
theorem tq_min {a b : Nat} (ha : a < 2 ^ 31) (hb : b < 2 ^ 31) : (if nI b < nI a then nI b else nI a) = nI (min a b) := by
  by_cases h : b < a
  · rw [if_pos (nI_lt h ha), Nat.min_eq_right (by omega)]
  · rw [if_neg (nI_nlt (by omega) hb), Nat.min_eq_left (by omega)]
theorem mvB_mem {E : List Nat} {p b q : Nat} : q ∈ mvB E p b ↔ q ∈ E := by
  unfold mvB
  rw [List.mem_append, List.mem_filter, List.mem_filter]
  constructor
  · rintro (h | h) <;> exact h.1
  · intro h
    cases z : (hs q % 2 ^ b == p % 2 ^ b)
    · exact Or.inl ⟨h, rfl⟩
    · exact Or.inr ⟨h, rfl⟩
theorem mvL_mem {L : List Nat} {v p r q : Nat} : q ∈ mvL L v p r ↔ q ∈ L := by
  unfold mvL
  rw [List.mem_append, List.mem_filter, List.mem_filter]
  constructor
  · rintro (h | h) <;> exact h.1
  · intro h
    cases z : (linOf v p q == r)
    · exact Or.inl ⟨h, rfl⟩
    · exact Or.inr ⟨h, rfl⟩
theorem mS_mem {cap x q : Nat} : ∀ {k : Nat} {X : (Nat → Nat) × List Nat × Int32}, q ∈ (mS cap x k X).2.1 ↔ q ∈ X.2.1
  | 0, _ => Iff.rfl
  | k + 1, X => by
    show q ∈ (if mcond cap x X = true then mS cap x k (mstep x X) else X).2.1 ↔ _
    split
    · rw [mS_mem (k := k)]; exact mvB_mem
    · exact Iff.rfl
theorem lB_mem {cap lo n q : Nat} : ∀ {k : Nat} {X : List Nat × Nat × Nat × Int32}, q ∈ (lB cap lo n k X).1 ↔ q ∈ X.1
  | 0, _ => Iff.rfl
  | k + 1, X => by
    show q ∈ (if bcond cap lo n X = true then lB cap lo n k (bstep X) else X).1 ↔ _
    split
    · rw [lB_mem (k := k)]; exact mvL_mem
    · exact Iff.rfl
theorem SO.mono {key val ord : Nat → Nat} {tk j : Nat} (h : SO key val ord tk) (hj : j ≤ tk) : SO key val ord j := ⟨by have := h.1; omega, h.2.1, h.2.2.1, fun a b c d => h.2.2.2.1 a b c (by omega), h.2.2.2.2⟩
theorem stl_rep {key val ord : Nat → Nat} {tk en k v : Nat} (h : SO key val ord tk) (hu : US ord tk en) (hk : key en = k) : stl key (va_up val en v) ord tk = repS (stl key val ord tk) k v := by
  unfold stl repS
  rw [List.map_map]
  refine List.map_congr_left (fun i hi => ?_)
  have hi2 := List.mem_range.mp hi
  show (key (ord i), va_up val en v (ord i)) = if key (ord i) = k then (k, v) else (key (ord i), val (ord i))
  by_cases z : ord i = en
  · rw [z, up_s, if_pos hk, hk]
  · rw [up_n _ _ z, if_neg]
    intro y
    exact z (h.injU _ _ ⟨i, hi2, rfl⟩ hu (y.trans hk.symm))
theorem stl_next {key val ord : Nat → Nat} {tk j : Nat} (h : SO key val ord tk) (hj : j < tk) : stl key val ord (j + 1) = insS (stl key val ord j) (key (ord j)) (val (ord j)) ∧ (stl key val ord tk).take (j + 1) = (stl key val ord tk).take j ++ [(key (ord j), val (ord j))] := by
  constructor
  · refine SS_ext (stl_sorted (h.mono (show j + 1 ≤ tk by omega)).2.2.2.1) (insS_sorted (stl_sorted (h.mono (Nat.le_of_lt hj)).2.2.2.1)) (fun q => ?_)
    rw [insS_mem (fun q hq => by
      obtain ⟨i, hi, rfl⟩ := stl_mem.mp hq
      have := h.2.2.2.1 i j hi hj
      show key (ord i) ≠ key (ord j)
      omega), stl_mem, stl_mem]
    constructor
    · rintro ⟨i, hi, rfl⟩
      rcases Nat.lt_or_eq_of_le (Nat.le_of_lt_succ hi) with z | rfl
      · exact Or.inr ⟨i, z, rfl⟩
      · exact Or.inl rfl
    · rintro (rfl | ⟨i, hi, rfl⟩)
      · exact ⟨j, by omega, rfl⟩
      · exact ⟨i, by omega, rfl⟩
  · have hl : j < (stl key val ord tk).length := by rw [stl_len]; exact hj
    rw [List.take_succ_eq_append_getElem hl]
    simp [stl]
theorem CR.added {key val ord : Nat → Nat} {tk cp : Nat} {dp : Nat} {dbl hlv spl mrg : Int32} {lev ptr llo lhi : Nat} {lsp : Int32} {dep : Nat → Nat} {E L : List Nat} {k v : Nat}
    {key2 val2 ord2 : Nat → Nat} {tk2 : Nat} {efi2 ela2 eco2 ene2 ldp2 : Nat → Nat} {dp2 : Nat} {dbl2 spl2 : Int32} {lfi2 lla2 lco2 lne2 : Nat → Nat} {lev2 ptr2 : Nat} {lsp2 : Int32}
    (h1 : SO key2 val2 ord2 tk2) (h2 : stl key2 val2 ord2 tk2 = insS (stl key val ord tk) k v) (h3 : tk2 = tk + 1) (hc : 1 ≤ cp ∧ cp ≤ 5) (hl : llo ≤ 50 ∧ 50 ≤ lhi ∧ lhi ≤ 200)
    (hX : ∃ r, XR key2 ldp2 dp2 efi2 ela2 eco2 ene2 r (pS cp E (hs k % 256) 9 (dep, dp, dbl, spl)).1 (E ++ [k]) (US ord2 tk2)) (e1 : (dp2, dbl2, spl2) = (pS cp E (hs k % 256) 9 (dep, dp, dbl, spl)).2)
    (hY : ∃ r, YR key2 lev2 ptr2 lfi2 lla2 lco2 lne2 r (L ++ [k]) (US ord2 tk2)) (e2 : (lev2, ptr2, lsp2) = lS cp lhi tk2 241 (lev, ptr, lsp)) (hin : ∀ i, i < tk2 → key2 (ord2 i) ∈ E ++ [k] ∧ key2 (ord2 i) ∈ L ++ [k]) :
    ∃ dep3 E3 L3, CR key2 val2 ord2 tk2 cp efi2 ela2 eco2 ene2 ldp2 dp2 lfi2 lla2 lco2 lne2 lev2 ptr2 llo lhi dep3 E3 L3 ∧ mkA key2 val2 ord2 tk2 cp dep3 dp2 E3 dbl2 hlv spl2 mrg L3 lev2 ptr2 llo lhi lsp2 = aadd (mkA key val ord tk cp dep dp E dbl hlv spl mrg L lev ptr llo lhi lsp) k v := by
  refine ⟨_, E ++ [k], L ++ [k], ⟨h1, hc, hl, hX, hY, hin⟩, ?_⟩
  unfold mkA aadd
  dsimp only
  rw [stl_len, ← h3, ← e2, h2, ← e1]
theorem CR.gone {key val ord : Nat → Nat} {tk cp : Nat} {dp : Nat} {dbl hlv spl mrg : Int32} {lev ptr llo lhi : Nat} {lsp : Int32} {dep : Nat → Nat} {E L : List Nat} {k : Nat}
    {ord2 : Nat → Nat} {efi2 ela2 eco2 ene2 ldp2 : Nat → Nat} {dp2 : Nat} {hlv2 mrg2 : Int32} {lfi2 lla2 lco2 lne2 : Nat → Nat} {lev2 ptr2 : Nat} {lsp2 : Int32}
    (h1 : SO key val ord2 (tk - 1)) (h2 : stl key val ord2 (tk - 1) = remS (stl key val ord tk) k) (hc : 1 ≤ cp ∧ cp ≤ 5) (hl : llo ≤ 50 ∧ 50 ≤ lhi ∧ lhi ≤ 200)
    (hX : ∃ r, XR key ldp2 dp2 efi2 ela2 eco2 ene2 r (mS cp (hs k % 256) 9 (dep, E.filter (· != k), mrg)).1 (mS cp (hs k % 256) 9 (dep, E.filter (· != k), mrg)).2.1 (US ord2 (tk - 1))) (e1 : dp2 = mx (mS cp (hs k % 256) 9 (dep, E.filter (· != k), mrg)).1 256) (e3 : mrg2 = (mS cp (hs k % 256) 9 (dep, E.filter (· != k), mrg)).2.2)
    (e4 : hlv2 = hlv + nI (dp - mx (mS cp (hs k % 256) 9 (dep, E.filter (· != k), mrg)).1 256))
    (hY : ∃ r, YR key lev2 ptr2 lfi2 lla2 lco2 lne2 r (lB cp llo (tk - 1) 241 (L.filter (· != k), lev, ptr, lsp)).1 (US ord2 (tk - 1))) (e2 : (lev2, ptr2, lsp2) = (lB cp llo (tk - 1) 241 (L.filter (· != k), lev, ptr, lsp)).2)
    (hin : ∀ i, i < tk - 1 → ∃ j, j < tk ∧ ord2 i = ord j ∧ key (ord j) ≠ k) (hEL : ∀ i, i < tk → key (ord i) ∈ E ∧ key (ord i) ∈ L) :
    ∃ dep3 E3 L3, CR key val ord2 (tk - 1) cp efi2 ela2 eco2 ene2 ldp2 dp2 lfi2 lla2 lco2 lne2 lev2 ptr2 llo lhi dep3 E3 L3 ∧ mkA key val ord2 (tk - 1) cp dep3 dp2 E3 dbl hlv2 spl mrg2 L3 lev2 ptr2 llo lhi lsp2 = adel (mkA key val ord tk cp dep dp E dbl hlv spl mrg L lev ptr llo lhi lsp) k := by
  refine ⟨_, _, _, ⟨h1, hc, hl, hX, hY, fun i hi => ?_⟩, ?_⟩
  · obtain ⟨j, hj, a, b⟩ := hin i hi
    rw [a, mS_mem, lB_mem]
    exact ⟨List.mem_filter.mpr ⟨(hEL j hj).1, by simpa using b⟩, List.mem_filter.mpr ⟨(hEL j hj).2, by simpa using b⟩⟩
  · unfold mkA adel
    dsimp only
    rw [stl_len, h2, e4, e3, e1, e2]
theorem CR.cleared {key val ord : Nat → Nat} {tk cp : Nat} {dp : Nat} {dbl hlv spl mrg : Int32} {lev ptr llo lhi : Nat} {lsp : Int32} {dep : Nat → Nat} {E L : List Nat} {c : Nat}
    {efi2 ela2 eco2 ene2 ldp ldp2 : Nat → Nat} {lfi2 lla2 lco2 lne2 : Nat → Nat} (h1 : SO key val ord tk) (hc : 1 ≤ c ∧ c ≤ 5) (hl : llo ≤ 50 ∧ 50 ≤ lhi ∧ lhi ≤ 200) (hbd : ∀ q, q < 256 → ldp q ≤ 8) (h2 : ldp2 = va_up ldp 0 0)
    (hX : RR efi2 ela2 eco2 ene2 (fun _ => [])) (hY : RR lfi2 lla2 lco2 lne2 (fun _ => [])) :
    CR key val ord 0 c efi2 ela2 eco2 ene2 ldp2 0 lfi2 lla2 lco2 lne2 0 0 llo lhi (fun _ => 0) [] [] ∧ mkA key val ord 0 c (fun _ => 0) 0 [] dbl hlv spl mrg [] 0 0 llo lhi lsp = aclr (mkA key val ord tk cp dep dp E dbl hlv spl mrg L lev ptr llo lhi lsp) c :=
  ⟨⟨h1.mono (Nat.zero_le _), hc, hl, ⟨_, XR.empty0 hX hbd h2⟩, ⟨_, hY, ⟨by decide, by decide⟩, fun r _ => rfl, fun r _ e he => absurd he List.not_mem_nil⟩, fun i hi => absurd hi (Nat.not_lt_zero _)⟩, rfl⟩

theorem dX4_insertIntoBoth_0 : decode cX4_insertIntoBoth 0 = .ok (.aload_n 0, 1) := by decide +kernel
theorem dX4_insertIntoBoth_1 : decode cX4_insertIntoBoth 1 = .ok (.getfield 21, 3) := by decide +kernel
theorem dX4_insertIntoBoth_4 : decode cX4_insertIntoBoth 4 = .ok (.iload_n 1, 1) := by decide +kernel
theorem dX4_insertIntoBoth_5 : decode cX4_insertIntoBoth 5 = .ok (.invokevirtual 184, 3) := by decide +kernel
theorem dX4_insertIntoBoth_8 : decode cX4_insertIntoBoth 8 = .ok (.aload_n 0, 1) := by decide +kernel
theorem dX4_insertIntoBoth_9 : decode cX4_insertIntoBoth 9 = .ok (.getfield 28, 3) := by decide +kernel
theorem dX4_insertIntoBoth_12 : decode cX4_insertIntoBoth 12 = .ok (.iload_n 1, 1) := by decide +kernel
theorem dX4_insertIntoBoth_13 : decode cX4_insertIntoBoth 13 = .ok (.invokevirtual 187, 3) := by decide +kernel
theorem dX4_insertIntoBoth_16 : decode cX4_insertIntoBoth 16 = .ok (.return_, 1) := by decide +kernel
theorem dX4_emptyAll_0 : decode cX4_emptyAll 0 = .ok (.aload_n 0, 1) := by decide +kernel
theorem dX4_emptyAll_1 : decode cX4_emptyAll 1 = .ok (.getfield 10, 3) := by decide +kernel
theorem dX4_emptyAll_4 : decode cX4_emptyAll 4 = .ok (.invokevirtual 188, 3) := by decide +kernel
theorem dX4_emptyAll_7 : decode cX4_emptyAll 7 = .ok (.aload_n 0, 1) := by decide +kernel
theorem dX4_emptyAll_8 : decode cX4_emptyAll 8 = .ok (.getfield 21, 3) := by decide +kernel
theorem dX4_emptyAll_11 : decode cX4_emptyAll 11 = .ok (.invokevirtual 191, 3) := by decide +kernel
theorem dX4_emptyAll_14 : decode cX4_emptyAll 14 = .ok (.aload_n 0, 1) := by decide +kernel
theorem dX4_emptyAll_15 : decode cX4_emptyAll 15 = .ok (.getfield 28, 3) := by decide +kernel
theorem dX4_emptyAll_18 : decode cX4_emptyAll 18 = .ok (.invokevirtual 194, 3) := by decide +kernel
theorem dX4_emptyAll_21 : decode cX4_emptyAll 21 = .ok (.return_, 1) := by decide +kernel
theorem dX4_clear_0 : decode cX4_clear 0 = .ok (.aload_n 0, 1) := by decide +kernel
theorem dX4_clear_1 : decode cX4_clear 1 = .ok (.getfield 10, 3) := by decide +kernel
theorem dX4_clear_4 : decode cX4_clear 4 = .ok (.getfield 49, 3) := by decide +kernel
theorem dX4_clear_7 : decode cX4_clear 7 = .ok (.istore_n 1, 1) := by decide +kernel
theorem dX4_clear_8 : decode cX4_clear 8 = .ok (.aload_n 0, 1) := by decide +kernel
theorem dX4_clear_9 : decode cX4_clear 9 = .ok (.invokevirtual 80, 3) := by decide +kernel
theorem dX4_clear_12 : decode cX4_clear 12 = .ok (.iload_n 1, 1) := by decide +kernel
theorem dX4_clear_13 : decode cX4_clear 13 = .ok (.ireturn, 1) := by decide +kernel
theorem dX4_put_0 : decode cX4_put 0 = .ok (.iload_n 1, 1) := by decide +kernel
theorem dX4_put_1 : decode cX4_put 1 = .ok (.invokestatic 32, 3) := by decide +kernel
theorem dX4_put_4 : decode cX4_put 4 = .ok (.iload_n 2, 1) := by decide +kernel
theorem dX4_put_5 : decode cX4_put 5 = .ok (.iconst 0, 1) := by decide +kernel
theorem dX4_put_6 : decode cX4_put 6 = .ok (.ldc 36, 2) := by decide +kernel
theorem dX4_put_8 : decode cX4_put 8 = .ok (.invokestatic 37, 3) := by decide +kernel
theorem dX4_put_11 : decode cX4_put 11 = .ok (.aload_n 0, 1) := by decide +kernel
theorem dX4_put_12 : decode cX4_put 12 = .ok (.getfield 21, 3) := by decide +kernel
theorem dX4_put_15 : decode cX4_put 15 = .ok (.iload_n 1, 1) := by decide +kernel
theorem dX4_put_16 : decode cX4_put 16 = .ok (.invokevirtual 41, 3) := by decide +kernel
theorem dX4_put_19 : decode cX4_put 19 = .ok (.istore_n 3, 1) := by decide +kernel
theorem dX4_put_20 : decode cX4_put 20 = .ok (.iload_n 3, 1) := by decide +kernel
theorem dX4_put_21 : decode cX4_put 21 = .ok (.ifCond .eq 13, 3) := by decide +kernel
theorem dX4_put_24 : decode cX4_put 24 = .ok (.aload_n 0, 1) := by decide +kernel
theorem dX4_put_25 : decode cX4_put 25 = .ok (.getfield 10, 3) := by decide +kernel
theorem dX4_put_28 : decode cX4_put 28 = .ok (.iload_n 3, 1) := by decide +kernel
theorem dX4_put_29 : decode cX4_put 29 = .ok (.iload_n 2, 1) := by decide +kernel
theorem dX4_put_30 : decode cX4_put 30 = .ok (.invokevirtual 45, 3) := by decide +kernel
theorem dX4_put_33 : decode cX4_put 33 = .ok (.ireturn, 1) := by decide +kernel
theorem dX4_put_34 : decode cX4_put 34 = .ok (.aload_n 0, 1) := by decide +kernel
theorem dX4_put_35 : decode cX4_put 35 = .ok (.getfield 10, 3) := by decide +kernel
theorem dX4_put_38 : decode cX4_put 38 = .ok (.getfield 49, 3) := by decide +kernel
theorem dX4_put_41 : decode cX4_put 41 = .ok (.bipush 120, 2) := by decide +kernel
theorem dX4_put_43 : decode cX4_put 43 = .ok (.if_icmp .lt 13, 3) := by decide +kernel
theorem dX4_put_46 : decode cX4_put 46 = .ok (.new 53, 3) := by decide +kernel
theorem dX4_put_49 : decode cX4_put 49 = .ok (.dup, 1) := by decide +kernel
theorem dX4_put_50 : decode cX4_put 50 = .ok (.ldc 55, 2) := by decide +kernel
theorem dX4_put_52 : decode cX4_put 52 = .ok (.invokespecial 57, 3) := by decide +kernel
theorem dX4_put_55 : decode cX4_put 55 = .ok (.athrow, 1) := by decide +kernel
theorem dX4_put_56 : decode cX4_put 56 = .ok (.aload_n 0, 1) := by decide +kernel
theorem dX4_put_57 : decode cX4_put 57 = .ok (.aload_n 0, 1) := by decide +kernel
theorem dX4_put_58 : decode cX4_put 58 = .ok (.getfield 10, 3) := by decide +kernel
theorem dX4_put_61 : decode cX4_put 61 = .ok (.iload_n 1, 1) := by decide +kernel
theorem dX4_put_62 : decode cX4_put 62 = .ok (.iload_n 2, 1) := by decide +kernel
theorem dX4_put_63 : decode cX4_put 63 = .ok (.invokevirtual 60, 3) := by decide +kernel
theorem dX4_put_66 : decode cX4_put 66 = .ok (.invokevirtual 63, 3) := by decide +kernel
theorem dX4_put_69 : decode cX4_put 69 = .ok (.iconst (-1), 1) := by decide +kernel
theorem dX4_put_70 : decode cX4_put 70 = .ok (.ireturn, 1) := by decide +kernel
theorem dX4_remove_0 : decode cX4_remove 0 = .ok (.iload_n 1, 1) := by decide +kernel
theorem dX4_remove_1 : decode cX4_remove 1 = .ok (.invokestatic 32, 3) := by decide +kernel
theorem dX4_remove_4 : decode cX4_remove 4 = .ok (.aload_n 0, 1) := by decide +kernel
theorem dX4_remove_5 : decode cX4_remove 5 = .ok (.getfield 21, 3) := by decide +kernel
theorem dX4_remove_8 : decode cX4_remove 8 = .ok (.iload_n 1, 1) := by decide +kernel
theorem dX4_remove_9 : decode cX4_remove 9 = .ok (.invokevirtual 41, 3) := by decide +kernel
theorem dX4_remove_12 : decode cX4_remove 12 = .ok (.istore_n 2, 1) := by decide +kernel
theorem dX4_remove_13 : decode cX4_remove 13 = .ok (.iload_n 2, 1) := by decide +kernel
theorem dX4_remove_14 : decode cX4_remove 14 = .ok (.ifCond .ne 5, 3) := by decide +kernel
theorem dX4_remove_17 : decode cX4_remove 17 = .ok (.iconst (-1), 1) := by decide +kernel
theorem dX4_remove_18 : decode cX4_remove 18 = .ok (.ireturn, 1) := by decide +kernel
theorem dX4_remove_19 : decode cX4_remove 19 = .ok (.aload_n 0, 1) := by decide +kernel
theorem dX4_remove_20 : decode cX4_remove 20 = .ok (.getfield 10, 3) := by decide +kernel
theorem dX4_remove_23 : decode cX4_remove 23 = .ok (.iload_n 2, 1) := by decide +kernel
theorem dX4_remove_24 : decode cX4_remove 24 = .ok (.invokevirtual 66, 3) := by decide +kernel
theorem dX4_remove_27 : decode cX4_remove 27 = .ok (.aload_n 0, 1) := by decide +kernel
theorem dX4_remove_28 : decode cX4_remove 28 = .ok (.getfield 21, 3) := by decide +kernel
theorem dX4_remove_31 : decode cX4_remove 31 = .ok (.iload_n 2, 1) := by decide +kernel
theorem dX4_remove_32 : decode cX4_remove 32 = .ok (.invokevirtual 69, 3) := by decide +kernel
theorem dX4_remove_35 : decode cX4_remove 35 = .ok (.aload_n 0, 1) := by decide +kernel
theorem dX4_remove_36 : decode cX4_remove 36 = .ok (.getfield 28, 3) := by decide +kernel
theorem dX4_remove_39 : decode cX4_remove 39 = .ok (.iload_n 2, 1) := by decide +kernel
theorem dX4_remove_40 : decode cX4_remove 40 = .ok (.invokevirtual 72, 3) := by decide +kernel
theorem dX4_remove_43 : decode cX4_remove 43 = .ok (.aload_n 0, 1) := by decide +kernel
theorem dX4_remove_44 : decode cX4_remove 44 = .ok (.getfield 10, 3) := by decide +kernel
theorem dX4_remove_47 : decode cX4_remove 47 = .ok (.iload_n 2, 1) := by decide +kernel
theorem dX4_remove_48 : decode cX4_remove 48 = .ok (.invokevirtual 73, 3) := by decide +kernel
theorem dX4_remove_51 : decode cX4_remove 51 = .ok (.ireturn, 1) := by decide +kernel
theorem dX4_setLoads_0 : decode cX4_setLoads 0 = .ok (.iload_n 2, 1) := by decide +kernel
theorem dX4_setLoads_1 : decode cX4_setLoads 1 = .ok (.bipush 50, 2) := by decide +kernel
theorem dX4_setLoads_3 : decode cX4_setLoads 3 = .ok (.sipush 200, 3) := by decide +kernel
theorem dX4_setLoads_6 : decode cX4_setLoads 6 = .ok (.invokestatic 37, 3) := by decide +kernel
theorem dX4_setLoads_9 : decode cX4_setLoads 9 = .ok (.iload_n 1, 1) := by decide +kernel
theorem dX4_setLoads_10 : decode cX4_setLoads 10 = .ok (.iconst 0, 1) := by decide +kernel
theorem dX4_setLoads_11 : decode cX4_setLoads 11 = .ok (.bipush 50, 2) := by decide +kernel
theorem dX4_setLoads_13 : decode cX4_setLoads 13 = .ok (.iload_n 2, 1) := by decide +kernel
theorem dX4_setLoads_14 : decode cX4_setLoads 14 = .ok (.iconst 2, 1) := by decide +kernel
theorem dX4_setLoads_15 : decode cX4_setLoads 15 = .ok (.idiv, 1) := by decide +kernel
theorem dX4_setLoads_16 : decode cX4_setLoads 16 = .ok (.invokestatic 90, 3) := by decide +kernel
theorem dX4_setLoads_19 : decode cX4_setLoads 19 = .ok (.invokestatic 37, 3) := by decide +kernel
theorem dX4_setLoads_22 : decode cX4_setLoads 22 = .ok (.aload_n 0, 1) := by decide +kernel
theorem dX4_setLoads_23 : decode cX4_setLoads 23 = .ok (.getfield 28, 3) := by decide +kernel
theorem dX4_setLoads_26 : decode cX4_setLoads 26 = .ok (.getfield 95, 3) := by decide +kernel
theorem dX4_setLoads_29 : decode cX4_setLoads 29 = .ok (.istore_n 3, 1) := by decide +kernel
theorem dX4_setLoads_30 : decode cX4_setLoads 30 = .ok (.aload_n 0, 1) := by decide +kernel
theorem dX4_setLoads_31 : decode cX4_setLoads 31 = .ok (.getfield 28, 3) := by decide +kernel
theorem dX4_setLoads_34 : decode cX4_setLoads 34 = .ok (.iload_n 1, 1) := by decide +kernel
theorem dX4_setLoads_35 : decode cX4_setLoads 35 = .ok (.putfield 98, 3) := by decide +kernel
theorem dX4_setLoads_38 : decode cX4_setLoads 38 = .ok (.aload_n 0, 1) := by decide +kernel
theorem dX4_setLoads_39 : decode cX4_setLoads 39 = .ok (.getfield 28, 3) := by decide +kernel
theorem dX4_setLoads_42 : decode cX4_setLoads 42 = .ok (.iload_n 2, 1) := by decide +kernel
theorem dX4_setLoads_43 : decode cX4_setLoads 43 = .ok (.putfield 95, 3) := by decide +kernel
theorem dX4_setLoads_46 : decode cX4_setLoads 46 = .ok (.iload_n 3, 1) := by decide +kernel
theorem dX4_setLoads_47 : decode cX4_setLoads 47 = .ok (.ireturn, 1) := by decide +kernel
theorem dX4_rebuild_0 : decode cX4_rebuild 0 = .ok (.iload_n 1, 1) := by decide +kernel
theorem dX4_rebuild_1 : decode cX4_rebuild 1 = .ok (.iconst 1, 1) := by decide +kernel
theorem dX4_rebuild_2 : decode cX4_rebuild 2 = .ok (.iconst 5, 1) := by decide +kernel
theorem dX4_rebuild_3 : decode cX4_rebuild 3 = .ok (.invokestatic 37, 3) := by decide +kernel
theorem dX4_rebuild_6 : decode cX4_rebuild 6 = .ok (.aload_n 0, 1) := by decide +kernel
theorem dX4_rebuild_7 : decode cX4_rebuild 7 = .ok (.getfield 10, 3) := by decide +kernel
theorem dX4_rebuild_10 : decode cX4_rebuild 10 = .ok (.getfield 83, 3) := by decide +kernel
theorem dX4_rebuild_13 : decode cX4_rebuild 13 = .ok (.istore_n 2, 1) := by decide +kernel
theorem dX4_rebuild_14 : decode cX4_rebuild 14 = .ok (.aload_n 0, 1) := by decide +kernel
theorem dX4_rebuild_15 : decode cX4_rebuild 15 = .ok (.getfield 10, 3) := by decide +kernel
theorem dX4_rebuild_18 : decode cX4_rebuild 18 = .ok (.getfield 49, 3) := by decide +kernel
theorem dX4_rebuild_21 : decode cX4_rebuild 21 = .ok (.istore_n 3, 1) := by decide +kernel
theorem dX4_rebuild_22 : decode cX4_rebuild 22 = .ok (.aload_n 0, 1) := by decide +kernel
theorem dX4_rebuild_23 : decode cX4_rebuild 23 = .ok (.invokevirtual 80, 3) := by decide +kernel
theorem dX4_rebuild_26 : decode cX4_rebuild 26 = .ok (.aload_n 0, 1) := by decide +kernel
theorem dX4_rebuild_27 : decode cX4_rebuild 27 = .ok (.getfield 10, 3) := by decide +kernel
theorem dX4_rebuild_30 : decode cX4_rebuild 30 = .ok (.iload_n 1, 1) := by decide +kernel
theorem dX4_rebuild_31 : decode cX4_rebuild 31 = .ok (.putfield 83, 3) := by decide +kernel
theorem dX4_rebuild_34 : decode cX4_rebuild 34 = .ok (.iconst 0, 1) := by decide +kernel
theorem dX4_rebuild_35 : decode cX4_rebuild 35 = .ok (.istore 4, 2) := by decide +kernel
theorem dX4_rebuild_37 : decode cX4_rebuild 37 = .ok (.iload 4, 2) := by decide +kernel
theorem dX4_rebuild_39 : decode cX4_rebuild 39 = .ok (.iload_n 3, 1) := by decide +kernel
theorem dX4_rebuild_40 : decode cX4_rebuild 40 = .ok (.if_icmp .ge 20, 3) := by decide +kernel
theorem dX4_rebuild_43 : decode cX4_rebuild 43 = .ok (.aload_n 0, 1) := by decide +kernel
theorem dX4_rebuild_44 : decode cX4_rebuild 44 = .ok (.aload_n 0, 1) := by decide +kernel
theorem dX4_rebuild_45 : decode cX4_rebuild 45 = .ok (.getfield 10, 3) := by decide +kernel
theorem dX4_rebuild_48 : decode cX4_rebuild 48 = .ok (.invokevirtual 86, 3) := by decide +kernel
theorem dX4_rebuild_51 : decode cX4_rebuild 51 = .ok (.invokevirtual 63, 3) := by decide +kernel
theorem dX4_rebuild_54 : decode cX4_rebuild 54 = .ok (.iinc 4 1, 3) := by decide +kernel
theorem dX4_rebuild_57 : decode cX4_rebuild 57 = .ok (.goto (-20), 3) := by decide +kernel
theorem dX4_rebuild_60 : decode cX4_rebuild 60 = .ok (.iload_n 2, 1) := by decide +kernel
theorem dX4_rebuild_61 : decode cX4_rebuild 61 = .ok (.ireturn, 1) := by decide +kernel
set_option maxHeartbeats 4000000 in
set_option maxRecDepth 100000 in
theorem c_X4_insertIntoBoth (l : Launch) (D : va_G) (cy : ClassId) (a : Nat → Nat) (key : Nat → Nat) (val : Nat → Nat) (ord : Nat → Nat) (tk : Nat) (cp : Nat) (efi : Nat → Nat) (ela : Nat → Nat) (eco : Nat → Nat) (ene : Nat → Nat) (ldp : Nat → Nat) (dp : Nat) (dbl : Int32) (hlv : Int32) (spl : Int32) (mrg : Int32) (lfi : Nat → Nat) (lla : Nat → Nat) (lco : Nat → Nat) (lne : Nat → Nat) (lev : Nat) (ptr : Nat) (llo : Nat) (lhi : Nat) (lsp : Int32) (en : Nat) (rX rY : Nat → List Nat) (dep : Nat → Nat) (E L : List Nat) (U1 U2 : Nat → Prop) (hXR : XR key ldp dp efi ela eco ene rX dep E U1) (hYR : YR key lev ptr lfi lla lco lne rY L U1) (hkey : ∀ e, 1 ≤ e → e ≤ 120 → key e < 65536) (h1 : 1 ≤ en) (h2 : en ≤ 120) (hnU : ¬ U1 en) (hU1 : ∀ e, U1 e → U2 e) (hU2 : U2 en) (hcp1 : 1 ≤ cp) (hcp2 : cp ≤ 5) (htk : tk ≤ 120) (hlo : llo ≤ 50) (hh1 : 50 ≤ lhi) (hh2 : lhi ≤ 200) : tq_V (S := (Nat → Nat) × (Nat → Nat) × (Nat → Nat) × (Nat → Nat) × (Nat → Nat) × Nat × Int32 × Int32 × (Nat → Nat) × (Nat → Nat) × (Nat → Nat) × (Nat → Nat) × Nat × Nat × Int32) l yX4_insertIntoBoth cX4_insertIntoBoth 2 5 116 0 0 D cy (wC cy a key val ord tk cp efi ela eco ene ldp dp dbl hlv spl mrg lfi lla lco lne lev ptr llo lhi lsp) [.ref (a 0), .int (nI (en))] (fun u => (∃ r, XR key u.2.2.2.2.1 u.2.2.2.2.2.1 u.1 u.2.1 u.2.2.1 u.2.2.2.1 r (pS cp E (hs (key en) % 256) 9 (dep, dp, dbl, spl)).1 (E ++ [key en]) U2) ∧ (u.2.2.2.2.2.1, u.2.2.2.2.2.2.1, u.2.2.2.2.2.2.2.1) = (pS cp E (hs (key en) % 256) 9 (dep, dp, dbl, spl)).2 ∧ (∃ r, YR key u.2.2.2.2.2.2.2.2.2.2.2.2.1 u.2.2.2.2.2.2.2.2.2.2.2.2.2.1 u.2.2.2.2.2.2.2.2.1 u.2.2.2.2.2.2.2.2.2.1 u.2.2.2.2.2.2.2.2.2.2.1 u.2.2.2.2.2.2.2.2.2.2.2.1 r (L ++ [key en]) U2) ∧ (u.2.2.2.2.2.2.2.2.2.2.2.2.1, u.2.2.2.2.2.2.2.2.2.2.2.2.2.1, u.2.2.2.2.2.2.2.2.2.2.2.2.2.2) = (lS cp lhi tk 241 (lev, ptr, lsp))) (fun u => (wC cy a key val ord tk cp u.1 u.2.1 u.2.2.1 u.2.2.2.1 u.2.2.2.2.1 u.2.2.2.2.2.1 u.2.2.2.2.2.2.1 hlv u.2.2.2.2.2.2.2.1 mrg u.2.2.2.2.2.2.2.2.1 u.2.2.2.2.2.2.2.2.2.1 u.2.2.2.2.2.2.2.2.2.2.1 u.2.2.2.2.2.2.2.2.2.2.2.1 u.2.2.2.2.2.2.2.2.2.2.2.2.1 u.2.2.2.2.2.2.2.2.2.2.2.2.2.1 llo lhi u.2.2.2.2.2.2.2.2.2.2.2.2.2.2)) := by
  refine tq_V.mk (by decide) (Nat.le_of_ble_eq_true rfl) ?_
  intro p e s m args below meth c A C hin hP hK hD hS hA ls hl
  obtain ⟨hx, hb, hml, hown, hrt, hlk, hT⟩ := id C
  have hl : lv_has ls 2 [(0, .ref (a 0)), (1, .int (nI (en)))] := hl
  refine lv_aload_n hx hb dX4_insertIntoBoth_0 rfl (lv_at hl 0 rfl) ?_
  refine tq_get (C0 := RX4) (T := TX4) (N := 3) (ci := 4) (k := 1) C gX4 inX4 rfl (by decide) rfl fl_X4_21 hK hP 0 rfl rfl dX4_insertIntoBoth_1 ?_
  refine lv_iload_n hx hb dX4_insertIntoBoth_4 rfl (lv_at hl 1 rfl) ?_
  refine tq_callV (W3 := fun u => (wC cy a key val ord tk cp u.1 u.2.1 u.2.2.1 u.2.2.2.1 u.2.2.2.2.1 u.2.2.2.2.2.1 u.2.2.2.2.2.2.1 hlv u.2.2.2.2.2.2.2 mrg lfi lla lco lne lev ptr llo lhi lsp)) (wr := []) (va_runV C.fix (As := [.int (nI (en))]) (rest := []) ((c_X0_insert l D cy a key val ord tk cp efi ela eco ene ldp dp dbl hlv spl mrg lfi lla lco lne lev ptr llo lhi lsp en rX dep E U1 hXR hkey U2 h1 h2 hnU hU1 hU2 hcp2) s.heap.size) (tq_cV (n := 1) C ml_X4_184 im_X0_insert se_X0_insert ini_X0 cd_X0_insert ⟨by decide, by decide, by decide +kernel⟩ ⟨Nat.le_of_ble_eq_true rfl, Nat.le_of_ble_eq_true rfl⟩) ⟨tq_Pc.blind, va_recv hK hP (ci := 0) (q0 := 2) rfl rfl, tq_preC C hK hP hD⟩ rfl rfl hl.1 rfl (lv_room (Nat.le_of_ble_eq_true rfl)) dX4_insertIntoBoth_5 ⟨Nat.le_of_ble_eq_true rfl, Nat.le_of_ble_eq_true rfl⟩) hP hD hS hA [0, 1, 2, 3, 4, 5, 6, 7, 8, 9, 10, 11, 12, 13, 14, 15, 16, 17] [] [0, 1, 2, 3, 4, 5, 6, 7, 8, 9, 10, 11, 12, 13, 14, 15, 16, 17] rfl rfl (by decide) (by decide) (by decide) (fun _ => rfl) (fun u5 H locs hr5 hP hD hS => ?_)
  obtain ⟨efi2, ela2, eco2, ene2, ldp2, dp2, dbl2, spl2⟩ := u5
  try dsimp only at hr5
  have hP : va_P D vwCl (wC cy a key val ord tk cp efi2 ela2 eco2 ene2 ldp2 dp2 dbl2 hlv spl2 mrg lfi lla lco lne lev ptr llo lhi lsp) H := hP
  have hD : va_D A (wC cy a key val ord tk cp efi2 ela2 eco2 ene2 ldp2 dp2 dbl2 hlv spl2 mrg lfi lla lco lne lev ptr llo lhi lsp) := hD
  refine lv_aload_n hx hb dX4_insertIntoBoth_8 rfl (lv_at hl 0 rfl) ?_
  refine tq_get (C0 := RX4) (T := TX4) (N := 3) (ci := 4) (k := 2) C gX4 inX4 rfl (by decide) rfl fl_X4_28 hK hP 0 rfl rfl dX4_insertIntoBoth_9 ?_
  refine lv_iload_n hx hb dX4_insertIntoBoth_12 rfl (lv_at hl 1 rfl) ?_
  refine tq_callV (W3 := fun u => (wC cy a key val ord tk cp efi2 ela2 eco2 ene2 ldp2 dp2 dbl2 hlv spl2 mrg u.1 u.2.1 u.2.2.1 u.2.2.2.1 u.2.2.2.2.1 u.2.2.2.2.2.1 llo lhi u.2.2.2.2.2.2)) (wr := []) (va_runV C.fix (As := [.int (nI (en))]) (rest := []) ((c_X1_insert l D cy a key val ord tk cp efi2 ela2 eco2 ene2 ldp2 dp2 dbl2 hlv spl2 mrg lfi lla lco lne lev ptr llo lhi lsp en rY L U1 hYR hkey U2 h1 h2 hcp1 hcp2 htk hlo hh1 hh2 hnU hU1 hU2) H.size) (tq_cV (n := 1) C ml_X4_187 im_X1_insert se_X1_insert ini_X1 cd_X1_insert ⟨by decide, by decide, by decide +kernel⟩ ⟨Nat.le_of_ble_eq_true rfl, Nat.le_of_ble_eq_true rfl⟩) ⟨tq_Pc.blind, va_recv hK hP (ci := 1) (q0 := 3) rfl rfl, tq_preC C hK hP hD⟩ rfl rfl hl.1 rfl (lv_room (Nat.le_of_ble_eq_true rfl)) dX4_insertIntoBoth_13 ⟨Nat.le_of_ble_eq_true rfl, Nat.le_of_ble_eq_true rfl⟩) hP hD hS hA [0, 1, 2, 3, 4, 5, 6, 7, 8, 9, 10, 11, 12, 13, 14, 15, 16, 17] [] [0, 1, 2, 3, 4, 5, 6, 7, 8, 9, 10, 11, 12, 13, 14, 15, 16, 17] rfl rfl (by decide) (by decide) (by decide) (fun _ => rfl) (fun u13 H locs hr13 hP hD hS => ?_)
  obtain ⟨lfi2, lla2, lco2, lne2, lev2, ptr2, lsp2⟩ := u13
  try dsimp only at hr13
  have hP : va_P D vwCl (wC cy a key val ord tk cp efi2 ela2 eco2 ene2 ldp2 dp2 dbl2 hlv spl2 mrg lfi2 lla2 lco2 lne2 lev2 ptr2 llo lhi lsp2) H := hP
  have hD : va_D A (wC cy a key val ord tk cp efi2 ela2 eco2 ene2 ldp2 dp2 dbl2 hlv spl2 mrg lfi2 lla2 lco2 lne2 lev2 ptr2 llo lhi lsp2) := hD
  exact tq_vret C (efi2, ela2, eco2, ene2, ldp2, dp2, dbl2, spl2, lfi2, lla2, lco2, lne2, lev2, ptr2, lsp2) hP hD hS (⟨hr5.1, hr5.2, hr13.1, hr13.2⟩) (Nat.le_of_ble_eq_true rfl) (Nat.le_of_ble_eq_true rfl) dX4_insertIntoBoth_16
set_option maxHeartbeats 4000000 in
set_option maxRecDepth 100000 in
theorem c_X4_emptyAll (l : Launch) (D : va_G) (cy : ClassId) (a : Nat → Nat) (key : Nat → Nat) (val : Nat → Nat) (ord : Nat → Nat) (tk : Nat) (cp : Nat) (efi : Nat → Nat) (ela : Nat → Nat) (eco : Nat → Nat) (ene : Nat → Nat) (ldp : Nat → Nat) (dp : Nat) (dbl : Int32) (hlv : Int32) (spl : Int32) (mrg : Int32) (lfi : Nat → Nat) (lla : Nat → Nat) (lco : Nat → Nat) (lne : Nat → Nat) (lev : Nat) (ptr : Nat) (llo : Nat) (lhi : Nat) (lsp : Int32)   : tq_V (S := (Nat → Nat) × (Nat → Nat) × (Nat → Nat) × (Nat → Nat) × (Nat → Nat) × (Nat → Nat)) l yX4_emptyAll cX4_emptyAll 1 4 82 0 0 D cy (wC cy a key val ord tk cp efi ela eco ene ldp dp dbl hlv spl mrg lfi lla lco lne lev ptr llo lhi lsp) [.ref (a 0)] (fun u => RR u.1 u.2.1 u.2.2.1 ene (fun _ => []) ∧ RR u.2.2.2.1 u.2.2.2.2.1 u.2.2.2.2.2 lne (fun _ => [])) (fun u => (wC cy a key val ord 0 cp u.1 u.2.1 u.2.2.1 ene (va_up ldp 0 0) 0 dbl hlv spl mrg u.2.2.2.1 u.2.2.2.2.1 u.2.2.2.2.2 lne 0 0 llo lhi lsp)) := by
  refine tq_V.mk (by decide) (Nat.le_of_ble_eq_true rfl) ?_
  intro p e s m args below meth c A C hin hP hK hD hS hA ls hl
  obtain ⟨hx, hb, hml, hown, hrt, hlk, hT⟩ := id C
  have hl : lv_has ls 1 [(0, .ref (a 0))] := hl
  refine lv_aload_n hx hb dX4_emptyAll_0 rfl (lv_at hl 0 rfl) ?_
  refine tq_get (C0 := RX4) (T := TX4) (N := 3) (ci := 4) (k := 0) C gX4 inX4 rfl (by decide) rfl fl_X4_10 hK hP 0 rfl rfl dX4_emptyAll_1 ?_
  refine tq_callV (W3 := fun u => (wC cy a key val ord 0 cp efi ela eco ene ldp dp dbl hlv spl mrg lfi lla lco lne lev ptr llo lhi lsp)) (wr := []) (va_runV C.fix (As := []) (rest := []) ((c_X3_releaseAll l D cy a key val ord tk cp efi ela eco ene ldp dp dbl hlv spl mrg lfi lla lco lne lev ptr llo lhi lsp) s.heap.size) (tq_cV (n := 0) C ml_X4_188 im_X3_releaseAll se_X3_releaseAll ini_X3 cd_X3_releaseAll ⟨by decide, by decide, by decide +kernel⟩ ⟨Nat.le_of_ble_eq_true rfl, Nat.le_of_ble_eq_true rfl⟩) ⟨tq_Pc.blind, va_recv hK hP (ci := 3) (q0 := 1) rfl rfl, tq_preC C hK hP hD⟩ rfl rfl hl.1 rfl (lv_room (Nat.le_of_ble_eq_true rfl)) dX4_emptyAll_4 ⟨Nat.le_of_ble_eq_true rfl, Nat.le_of_ble_eq_true rfl⟩) hP hD hS hA [0, 1, 2, 3, 4, 5, 6, 7, 8, 9, 10, 11, 12, 13, 14, 15, 16, 17] [] [0, 1, 2, 3, 4, 5, 6, 7, 8, 9, 10, 11, 12, 13, 14, 15, 16, 17] rfl rfl (by decide) (by decide) (by decide) (fun _ => rfl) (fun u4 H locs hr4 hP hD hS => ?_)
  have hP : va_P D vwCl (wC cy a key val ord 0 cp efi ela eco ene ldp dp dbl hlv spl mrg lfi lla lco lne lev ptr llo lhi lsp) H := hP
  have hD : va_D A (wC cy a key val ord 0 cp efi ela eco ene ldp dp dbl hlv spl mrg lfi lla lco lne lev ptr llo lhi lsp) := hD
  refine lv_aload_n hx hb dX4_emptyAll_7 rfl (lv_at hl 0 rfl) ?_
  refine tq_get (C0 := RX4) (T := TX4) (N := 3) (ci := 4) (k := 1) C gX4 inX4 rfl (by decide) rfl fl_X4_21 hK hP 0 rfl rfl dX4_emptyAll_8 ?_
  refine tq_callV (W3 := fun u => (wC cy a key val ord 0 cp u.1 u.2.1 u.2.2 ene (va_up ldp 0 0) 0 dbl hlv spl mrg lfi lla lco lne lev ptr llo lhi lsp)) (wr := []) (va_runV C.fix (As := []) (rest := []) ((c_X0_reset l D cy a key val ord 0 cp efi ela eco ene ldp dp dbl hlv spl mrg lfi lla lco lne lev ptr llo lhi lsp) H.size) (tq_cV (n := 0) C ml_X4_191 im_X0_reset se_X0_reset ini_X0 cd_X0_reset ⟨by decide, by decide, by decide +kernel⟩ ⟨Nat.le_of_ble_eq_true rfl, Nat.le_of_ble_eq_true rfl⟩) ⟨tq_Pc.blind, va_recv hK hP (ci := 0) (q0 := 2) rfl rfl, tq_preC C hK hP hD⟩ rfl rfl hl.1 rfl (lv_room (Nat.le_of_ble_eq_true rfl)) dX4_emptyAll_11 ⟨Nat.le_of_ble_eq_true rfl, Nat.le_of_ble_eq_true rfl⟩) hP hD hS hA [0, 1, 2, 3, 4, 5, 6, 7, 8, 9, 10, 11, 12, 13, 14, 15, 16, 17] [] [0, 1, 2, 3, 4, 5, 6, 7, 8, 9, 10, 11, 12, 13, 14, 15, 16, 17] rfl rfl (by decide) (by decide) (by decide) (fun _ => rfl) (fun u11 H locs hr11 hP hD hS => ?_)
  obtain ⟨efi2, ela2, eco2⟩ := u11
  try dsimp only at hr11
  have hP : va_P D vwCl (wC cy a key val ord 0 cp efi2 ela2 eco2 ene (va_up ldp 0 0) 0 dbl hlv spl mrg lfi lla lco lne lev ptr llo lhi lsp) H := hP
  have hD : va_D A (wC cy a key val ord 0 cp efi2 ela2 eco2 ene (va_up ldp 0 0) 0 dbl hlv spl mrg lfi lla lco lne lev ptr llo lhi lsp) := hD
  refine lv_aload_n hx hb dX4_emptyAll_14 rfl (lv_at hl 0 rfl) ?_
  refine tq_get (C0 := RX4) (T := TX4) (N := 3) (ci := 4) (k := 2) C gX4 inX4 rfl (by decide) rfl fl_X4_28 hK hP 0 rfl rfl dX4_emptyAll_15 ?_
  refine tq_callV (W3 := fun u => (wC cy a key val ord 0 cp efi2 ela2 eco2 ene (va_up ldp 0 0) 0 dbl hlv spl mrg u.1 u.2.1 u.2.2 lne 0 0 llo lhi lsp)) (wr := []) (va_runV C.fix (As := []) (rest := []) ((c_X1_reset l D cy a key val ord 0 cp efi2 ela2 eco2 ene (va_up ldp 0 0) 0 dbl hlv spl mrg lfi lla lco lne lev ptr llo lhi lsp) H.size) (tq_cV (n := 0) C ml_X4_194 im_X1_reset se_X1_reset ini_X1 cd_X1_reset ⟨by decide, by decide, by decide +kernel⟩ ⟨Nat.le_of_ble_eq_true rfl, Nat.le_of_ble_eq_true rfl⟩) ⟨tq_Pc.blind, va_recv hK hP (ci := 1) (q0 := 3) rfl rfl, tq_preC C hK hP hD⟩ rfl rfl hl.1 rfl (lv_room (Nat.le_of_ble_eq_true rfl)) dX4_emptyAll_18 ⟨Nat.le_of_ble_eq_true rfl, Nat.le_of_ble_eq_true rfl⟩) hP hD hS hA [0, 1, 2, 3, 4, 5, 6, 7, 8, 9, 10, 11, 12, 13, 14, 15, 16, 17] [] [0, 1, 2, 3, 4, 5, 6, 7, 8, 9, 10, 11, 12, 13, 14, 15, 16, 17] rfl rfl (by decide) (by decide) (by decide) (fun _ => rfl) (fun u18 H locs hr18 hP hD hS => ?_)
  obtain ⟨lfi2, lla2, lco2⟩ := u18
  try dsimp only at hr18
  have hP : va_P D vwCl (wC cy a key val ord 0 cp efi2 ela2 eco2 ene (va_up ldp 0 0) 0 dbl hlv spl mrg lfi2 lla2 lco2 lne 0 0 llo lhi lsp) H := hP
  have hD : va_D A (wC cy a key val ord 0 cp efi2 ela2 eco2 ene (va_up ldp 0 0) 0 dbl hlv spl mrg lfi2 lla2 lco2 lne 0 0 llo lhi lsp) := hD
  exact tq_vret C (efi2, ela2, eco2, lfi2, lla2, lco2) hP hD hS (⟨hr11, hr18⟩) (Nat.le_of_ble_eq_true rfl) (Nat.le_of_ble_eq_true rfl) dX4_emptyAll_21
set_option maxHeartbeats 4000000 in
set_option maxRecDepth 100000 in
theorem c_X4_clear (l : Launch) (D : va_G) (cy : ClassId) (a : Nat → Nat) (key : Nat → Nat) (val : Nat → Nat) (ord : Nat → Nat) (tk : Nat) (cp : Nat) (efi : Nat → Nat) (ela : Nat → Nat) (eco : Nat → Nat) (ene : Nat → Nat) (ldp : Nat → Nat) (dp : Nat) (dbl : Int32) (hlv : Int32) (spl : Int32) (mrg : Int32) (lfi : Nat → Nat) (lla : Nat → Nat) (lco : Nat → Nat) (lne : Nat → Nat) (lev : Nat) (ptr : Nat) (llo : Nat) (lhi : Nat) (lsp : Int32)  (dep : Nat → Nat) (E L : List Nat) (hCR : CR key val ord tk cp efi ela eco ene ldp dp lfi lla lco lne lev ptr llo lhi dep E L)  : tq_I (S := Nat × (Nat → Nat) × (Nat → Nat) × (Nat → Nat) × (Nat → Nat) × Nat × (Nat → Nat) × (Nat → Nat) × (Nat → Nat) × Nat × Nat) l yX4_clear cX4_clear 2 (some .int) 5 102 0 0 D cy (wC cy a key val ord tk cp efi ela eco ene ldp dp dbl hlv spl mrg lfi lla lco lne lev ptr llo lhi lsp) [.ref (a 0)] (fun r u => r = nI tk ∧ ∃ dep2 E2 L2, CR key val ord u.1 cp u.2.1 u.2.2.1 u.2.2.2.1 ene u.2.2.2.2.1 u.2.2.2.2.2.1 u.2.2.2.2.2.2.1 u.2.2.2.2.2.2.2.1 u.2.2.2.2.2.2.2.2.1 lne u.2.2.2.2.2.2.2.2.2.1 u.2.2.2.2.2.2.2.2.2.2 llo lhi dep2 E2 L2 ∧ mkA key val ord u.1 cp dep2 u.2.2.2.2.2.1 E2 dbl hlv spl mrg L2 u.2.2.2.2.2.2.2.2.2.1 u.2.2.2.2.2.2.2.2.2.2 llo lhi lsp = aclr (mkA key val ord tk cp dep dp E dbl hlv spl mrg L lev ptr llo lhi lsp) cp) (fun u => (wC cy a key val ord u.1 cp u.2.1 u.2.2.1 u.2.2.2.1 ene u.2.2.2.2.1 u.2.2.2.2.2.1 dbl hlv spl mrg u.2.2.2.2.2.2.1 u.2.2.2.2.2.2.2.1 u.2.2.2.2.2.2.2.2.1 lne u.2.2.2.2.2.2.2.2.2.1 u.2.2.2.2.2.2.2.2.2.2 llo lhi lsp)) := by
  refine tq_I.mk (by decide) (Nat.le_of_ble_eq_true rfl) ?_
  intro p e s m args below meth c A C hP hK hD hS hA ls hl
  obtain ⟨hx, hb, hml, hown, hrt, hlk, hT⟩ := id C
  have hl : lv_has ls 2 [(0, .ref (a 0))] := hl
  obtain ⟨hSO, ⟨hcp1, hcp2⟩, ⟨hlo, hh1, hh2⟩, ⟨rX, hXR⟩, ⟨rY, hYR⟩, hEL⟩ := id hCR
  have hky := hSO.keyb
  have hdp := hXR.2.1.1
  have hp8 := p8 hdp
  have hld := hXR.2.2.2.1
  have hY := hYR.2.1
  have hYm := hY.2
  have hYp := hY.1
  have htk9 := hSO.1
  refine lv_aload_n hx hb dX4_clear_0 rfl (lv_at hl 0 rfl) ?_
  refine tq_get (C0 := RX4) (T := TX4) (N := 3) (ci := 4) (k := 0) C gX4 inX4 rfl (by decide) rfl fl_X4_10 hK hP 0 rfl rfl dX4_clear_1 ?_
  refine tq_getN (C0 := RX3) (T := TX3) (N := 5) (ci := 3) (k := 3) C gX3 inX3 rfl (by decide) rfl fn_X4_49 hK hP 1 rfl rfl dX4_clear_4 ?_
  refine lv_istore_n (lv' := [(1, .int (nI (tk))), (0, .ref (a 0))]) hx hb dX4_clear_7 rfl hl (by decide) rfl (fun ls hl => ?_)
  refine lv_aload_n hx hb dX4_clear_8 rfl (lv_at hl 1 rfl) ?_
  refine tq_callV (W3 := fun u => (wC cy a key val ord 0 cp u.1 u.2.1 u.2.2.1 ene (va_up ldp 0 0) 0 dbl hlv spl mrg u.2.2.2.1 u.2.2.2.2.1 u.2.2.2.2.2 lne 0 0 llo lhi lsp)) (wr := []) (va_runV C.fix (As := []) (rest := []) ((c_X4_emptyAll l D cy a key val ord tk cp efi ela eco ene ldp dp dbl hlv spl mrg lfi lla lco lne lev ptr llo lhi lsp) s.heap.size) (tq_cV (n := 0) C ml_X4_80 im_X4_emptyAll se_X4_emptyAll ini_X4 cd_X4_emptyAll ⟨by decide, by decide, by decide +kernel⟩ ⟨Nat.le_of_ble_eq_true rfl, Nat.le_of_ble_eq_true rfl⟩) ⟨tq_Pc.blind, va_recv hK hP (ci := 4) (q0 := 0) rfl rfl, tq_preC C hK hP hD⟩ rfl rfl hl.1 rfl (lv_room (Nat.le_of_ble_eq_true rfl)) dX4_clear_9 ⟨Nat.le_of_ble_eq_true rfl, Nat.le_of_ble_eq_true rfl⟩) hP hD hS hA [0, 1, 2, 3, 4, 5, 6, 7, 8, 9, 10, 11, 12, 13, 14, 15, 16, 17] [] [0, 1, 2, 3, 4, 5, 6, 7, 8, 9, 10, 11, 12, 13, 14, 15, 16, 17] rfl rfl (by decide) (by decide) (by decide) (fun _ => rfl) (fun u9 H locs hr9 hP hD hS => ?_)
  obtain ⟨efi2, ela2, eco2, lfi2, lla2, lco2⟩ := u9
  try dsimp only at hr9
  have hP : va_P D vwCl (wC cy a key val ord 0 cp efi2 ela2 eco2 ene (va_up ldp 0 0) 0 dbl hlv spl mrg lfi2 lla2 lco2 lne 0 0 llo lhi lsp) H := hP
  have hD : va_D A (wC cy a key val ord 0 cp efi2 ela2 eco2 ene (va_up ldp 0 0) 0 dbl hlv spl mrg lfi2 lla2 lco2 lne 0 0 llo lhi lsp) := hD
  refine lv_iload_n hx hb dX4_clear_12 rfl (lv_at hl 0 rfl) ?_
  exact tq_iret (v := (nI (tk))) C rfl (0, efi2, ela2, eco2, va_up ldp 0 0, 0, lfi2, lla2, lco2, 0, 0) hP hD hS (⟨rfl, _, _, _, CR.cleared hSO ⟨hcp1, hcp2⟩ ⟨hlo, hh1, hh2⟩ hld rfl hr9.1 hr9.2⟩) (Nat.le_of_ble_eq_true rfl) (Nat.le_of_ble_eq_true rfl) dX4_clear_13
set_option maxHeartbeats 4000000 in
set_option maxRecDepth 100000 in
theorem c_X4_put (l : Launch) (hl9 : l.stackTraces = false) (D : va_G) (cy : ClassId) (a : Nat → Nat) (key : Nat → Nat) (val : Nat → Nat) (ord : Nat → Nat) (tk : Nat) (cp : Nat) (efi : Nat → Nat) (ela : Nat → Nat) (eco : Nat → Nat) (ene : Nat → Nat) (ldp : Nat → Nat) (dp : Nat) (dbl : Int32) (hlv : Int32) (spl : Int32) (mrg : Int32) (lfi : Nat → Nat) (lla : Nat → Nat) (lco : Nat → Nat) (lne : Nat → Nat) (lev : Nat) (ptr : Nat) (llo : Nat) (lhi : Nat) (lsp : Int32) (kx : Int32) (vx : Int32) (dep : Nat → Nat) (E L : List Nat) (hCR : CR key val ord tk cp efi ela eco ene ldp dp lfi lla lco lne lev ptr llo lhi dep E L)  : tq_XI (S := (Nat → Nat) × (Nat → Nat) × (Nat → Nat) × Nat × (Nat → Nat) × (Nat → Nat) × (Nat → Nat) × (Nat → Nat) × (Nat → Nat) × Nat × Int32 × Int32 × (Nat → Nat) × (Nat → Nat) × (Nat → Nat) × (Nat → Nat) × Nat × Nat × Int32) l yX4_put cX4_put 4 (some .int) 8 137 D cy (wC cy a key val ord tk cp efi ela eco ene ldp dp dbl hlv spl mrg lfi lla lco lne lev ptr llo lhi lsp) [.ref (a 0), .int (kx), .int (vx)] (fun r u => ∃ k v, k < 65536 ∧ v < 1000000 ∧ kx = nI k ∧ vx = nI v ∧ ((∃ w, (k, w) ∈ (stl key val ord tk) ∧ r = nI w ∧ ∃ dep2 E2 L2, CR u.1 u.2.1 u.2.2.1 u.2.2.2.1 cp u.2.2.2.2.1 u.2.2.2.2.2.1 u.2.2.2.2.2.2.1 u.2.2.2.2.2.2.2.1 u.2.2.2.2.2.2.2.2.1 u.2.2.2.2.2.2.2.2.2.1 u.2.2.2.2.2.2.2.2.2.2.2.2.1 u.2.2.2.2.2.2.2.2.2.2.2.2.2.1 u.2.2.2.2.2.2.2.2.2.2.2.2.2.2.1 u.2.2.2.2.2.2.2.2.2.2.2.2.2.2.2.1 u.2.2.2.2.2.2.2.2.2.2.2.2.2.2.2.2.1 u.2.2.2.2.2.2.2.2.2.2.2.2.2.2.2.2.2.1 llo lhi dep2 E2 L2 ∧ mkA u.1 u.2.1 u.2.2.1 u.2.2.2.1 cp dep2 u.2.2.2.2.2.2.2.2.2.1 E2 u.2.2.2.2.2.2.2.2.2.2.1 hlv u.2.2.2.2.2.2.2.2.2.2.2.1 mrg L2 u.2.2.2.2.2.2.2.2.2.2.2.2.2.2.2.2.1 u.2.2.2.2.2.2.2.2.2.2.2.2.2.2.2.2.2.1 llo lhi u.2.2.2.2.2.2.2.2.2.2.2.2.2.2.2.2.2.2 = arep (mkA key val ord tk cp dep dp E dbl hlv spl mrg L lev ptr llo lhi lsp) k v) ∨ ((∀ w, (k, w) ∉ (stl key val ord tk)) ∧ tk < 120 ∧ r = -1 ∧ ∃ dep2 E2 L2, CR u.1 u.2.1 u.2.2.1 u.2.2.2.1 cp u.2.2.2.2.1 u.2.2.2.2.2.1 u.2.2.2.2.2.2.1 u.2.2.2.2.2.2.2.1 u.2.2.2.2.2.2.2.2.1 u.2.2.2.2.2.2.2.2.2.1 u.2.2.2.2.2.2.2.2.2.2.2.2.1 u.2.2.2.2.2.2.2.2.2.2.2.2.2.1 u.2.2.2.2.2.2.2.2.2.2.2.2.2.2.1 u.2.2.2.2.2.2.2.2.2.2.2.2.2.2.2.1 u.2.2.2.2.2.2.2.2.2.2.2.2.2.2.2.2.1 u.2.2.2.2.2.2.2.2.2.2.2.2.2.2.2.2.2.1 llo lhi dep2 E2 L2 ∧ mkA u.1 u.2.1 u.2.2.1 u.2.2.2.1 cp dep2 u.2.2.2.2.2.2.2.2.2.1 E2 u.2.2.2.2.2.2.2.2.2.2.1 hlv u.2.2.2.2.2.2.2.2.2.2.2.1 mrg L2 u.2.2.2.2.2.2.2.2.2.2.2.2.2.2.2.2.1 u.2.2.2.2.2.2.2.2.2.2.2.2.2.2.2.2.2.1 llo lhi u.2.2.2.2.2.2.2.2.2.2.2.2.2.2.2.2.2.2 = aadd (mkA key val ord tk cp dep dp E dbl hlv spl mrg L lev ptr llo lhi lsp) k v))) (fun u => (wC cy a u.1 u.2.1 u.2.2.1 u.2.2.2.1 cp u.2.2.2.2.1 u.2.2.2.2.2.1 u.2.2.2.2.2.2.1 u.2.2.2.2.2.2.2.1 u.2.2.2.2.2.2.2.2.1 u.2.2.2.2.2.2.2.2.2.1 u.2.2.2.2.2.2.2.2.2.2.1 hlv u.2.2.2.2.2.2.2.2.2.2.2.1 mrg u.2.2.2.2.2.2.2.2.2.2.2.2.1 u.2.2.2.2.2.2.2.2.2.2.2.2.2.1 u.2.2.2.2.2.2.2.2.2.2.2.2.2.2.1 u.2.2.2.2.2.2.2.2.2.2.2.2.2.2.2.1 u.2.2.2.2.2.2.2.2.2.2.2.2.2.2.2.2.1 u.2.2.2.2.2.2.2.2.2.2.2.2.2.2.2.2.2.1 llo lhi u.2.2.2.2.2.2.2.2.2.2.2.2.2.2.2.2.2.2)) (fun E9 => (E9 = "java/lang/IllegalArgumentException" ∧ ¬ (isKey kx ∧ isVal vx)) ∨ (E9 = "java/lang/IllegalStateException" ∧ ∃ k v : Nat, k < 65536 ∧ v < 1000000 ∧ kx = nI k ∧ vx = nI v ∧ (∀ w, (k, w) ∉ (stl key val ord tk)) ∧ tk = 120)) := by
  refine tq_XI.mk (by decide) (Nat.le_of_ble_eq_true rfl) ?_
  intro p e s m args below meth c A C hX hP hK hD hS hA hE ls hl
  obtain ⟨hx, hb, hml, hown, hrt, hlk, hT⟩ := id C
  have hl : lv_has ls 4 [(0, .ref (a 0)), (1, .int (kx)), (2, .int (vx))] := hl
  obtain ⟨hSO, ⟨hcp1, hcp2⟩, ⟨hlo, hh1, hh2⟩, ⟨rX, hXR⟩, ⟨rY, hYR⟩, hEL⟩ := id hCR
  have hky := hSO.keyb
  have hdp := hXR.2.1.1
  have hp8 := p8 hdp
  have hld := hXR.2.2.2.1
  have hY := hYR.2.1
  have hYm := hY.2
  have hYp := hY.1
  have htk9 := hSO.1
  refine lv_iload_n hx hb dX4_put_0 rfl (lv_at hl 1 rfl) ?_
  refine tq_callXU C hX (vx_runS C.fix (As := [.int (kx)]) (rest := []) ((c_X4_checkKey l hl9 D cy kx) s.heap.size) (tq_cS (n := 1) C ml_X4_32 sm_X4_checkKey ini_X4 cd_X4_checkKey ⟨by decide, by decide, by decide +kernel⟩ ⟨Nat.le_of_ble_eq_true rfl, Nat.le_of_ble_eq_true rfl⟩) ⟨tq_Px.blind, tq_preX C hK hP hD hS hA hE [] (by decide) rfl⟩ rfl rfl hl.1 rfl (lv_room (Nat.le_of_ble_eq_true rfl)) dX4_put_1 ⟨Nat.le_of_ble_eq_true rfl, Nat.le_of_ble_eq_true rfl⟩) (fun E9 h => Or.inl ⟨h.1, fun q => h.2 q.1⟩) (fun hr1 => ?_)
  obtain ⟨k, hk, rfl⟩ := hr1
  refine lv_iload_n hx hb dX4_put_4 rfl (lv_at hl 2 rfl) ?_
  refine lv_iconst (v := nI 0) hx hb dX4_put_5 (by decide) ?_
  refine lv_ldc (v := 999999) hx hb hown (hT.use kc_X4_36 rfl) dX4_put_6 ?_
  refine tq_top (y := nI 999999) (by decide) ?_
  refine tq_callXU C hX (vx_runS C.fix (As := [.int (vx), .int (nI 0), .int (nI 999999)]) (rest := []) ((c_X4_checkRange l hl9 D cy vx (nI 0) (nI 999999)) s.heap.size) (tq_cS (n := 3) C ml_X4_37 sm_X4_checkRange ini_X4 cd_X4_checkRange ⟨by decide, by decide, by decide +kernel⟩ ⟨Nat.le_of_ble_eq_true rfl, Nat.le_of_ble_eq_true rfl⟩) ⟨tq_Px.blind, tq_preX C hK hP hD hS hA hE [] (by decide) rfl⟩ rfl rfl hl.1 rfl (lv_room (Nat.le_of_ble_eq_true rfl)) dX4_put_8 ⟨Nat.le_of_ble_eq_true rfl, Nat.le_of_ble_eq_true rfl⟩) (fun E9 h => Or.inl ⟨h.1, fun q => q.2.elim fun v hv => tq_rngN (x := vx) (M := 999999) (by decide) (by rw [← nI_0]; exact h.2) ⟨v, by omega, hv.2⟩⟩) (fun hr8 => ?_)
  obtain ⟨v, hv, rfl⟩ := tq_rng (x := vx) (M := 999999) (by decide) (by rw [← nI_0]; exact hr8.1) hr8.2
  refine lv_aload_n hx hb dX4_put_11 rfl (lv_at hl 0 rfl) ?_
  refine tq_get (C0 := RX4) (T := TX4) (N := 3) (ci := 4) (k := 1) C gX4 inX4 rfl (by decide) rfl fl_X4_21 hK hP 0 rfl rfl dX4_put_12 ?_
  refine lv_iload_n hx hb dX4_put_15 rfl (lv_at hl 1 rfl) ?_
  refine tq_callF (va_runV C.fix (As := [.int (nI (k))]) (rest := []) (c_X0_find l D cy a key val ord tk cp efi ela eco ene ldp dp dbl hlv spl mrg lfi lla lco lne lev ptr llo lhi lsp k hdp hld rX hXR.1 hky hk) (tq_cV (n := 1) C ml_X4_41 im_X0_find se_X0_find ini_X0 cd_X0_find ⟨by decide, by decide, by decide +kernel⟩ ⟨Nat.le_of_ble_eq_true rfl, Nat.le_of_ble_eq_true rfl⟩) ⟨tq_Pf.blind, va_recv hK hP (ci := 0) (q0 := 2) rfl rfl, tq_preF C hK hP⟩ rfl rfl hl.1 rfl (lv_room (Nat.le_of_ble_eq_true rfl)) dX4_put_16 ⟨Nat.le_of_ble_eq_true rfl, Nat.le_of_ble_eq_true rfl⟩) (fun r16 hr16 => ?_)
  rcases hr16 with ⟨en, hm, hke, rfl⟩ | ⟨hno, rfl⟩
  · have hmm := hXR.mem hm hke
    refine lv_istore_n (lv' := [(3, .int (nI (en))), (0, .ref (a 0)), (1, .int (nI (k))), (2, .int (nI (v)))]) hx hb dX4_put_19 rfl hl (by decide) rfl (fun ls hl => ?_)
    refine lv_iload_n hx hb dX4_put_20 rfl (lv_at hl 0 rfl) ?_
    refine tq_if_eq (tgt := 34) C (by omega) dX4_put_21 (by decide) (fun h21 => ?_) (fun h21 => ?_)
    · exact absurd h21 (by have := hmm.1; omega)
    · refine lv_aload_n hx hb dX4_put_24 rfl (lv_at hl 1 rfl) ?_
      refine tq_get (C0 := RX4) (T := TX4) (N := 3) (ci := 4) (k := 0) C gX4 inX4 rfl (by decide) rfl fl_X4_10 hK hP 0 rfl rfl dX4_put_25 ?_
      refine lv_iload_n hx hb dX4_put_28 rfl (lv_at hl 0 rfl) ?_
      refine lv_iload_n hx hb dX4_put_29 rfl (lv_at hl 3 rfl) ?_
      refine tq_callI (W3 := fun u => (wC cy a key (va_up val en v) ord tk cp efi ela eco ene ldp dp dbl hlv spl mrg lfi lla lco lne lev ptr llo lhi lsp)) (wr := []) (va_runV C.fix (As := [.int (nI (en)), .int (nI (v))]) (rest := []) ((c_X3_replaceValue l D cy a key val ord tk cp efi ela eco ene ldp dp dbl hlv spl mrg lfi lla lco lne lev ptr llo lhi lsp en v hmm.1 hmm.2.1) s.heap.size) (tq_cV (n := 2) C ml_X4_45 im_X3_replaceValue se_X3_replaceValue ini_X3 cd_X3_replaceValue ⟨by decide, by decide, by decide +kernel⟩ ⟨Nat.le_of_ble_eq_true rfl, Nat.le_of_ble_eq_true rfl⟩) ⟨tq_Pc.blind, va_recv hK hP (ci := 3) (q0 := 1) rfl rfl, tq_preC C hK hP hD⟩ rfl rfl hl.1 rfl (lv_room (Nat.le_of_ble_eq_true rfl)) dX4_put_30 ⟨Nat.le_of_ble_eq_true rfl, Nat.le_of_ble_eq_true rfl⟩) hP hD hS hA [0, 1, 2, 3, 4, 5, 6, 7, 8, 9, 10, 11, 12, 13, 14, 15, 16, 17] [] [0, 1, 2, 3, 4, 5, 6, 7, 8, 9, 10, 11, 12, 13, 14, 15, 16, 17] rfl rfl (by decide) (by decide) (by decide) (fun _ => rfl) (fun r30 u30 H locs hr30 hP hD hS => ?_)
      have hP : va_P D vwCl (wC cy a key (va_up val en v) ord tk cp efi ela eco ene ldp dp dbl hlv spl mrg lfi lla lco lne lev ptr llo lhi lsp) H := hP
      have hD : va_D A (wC cy a key (va_up val en v) ord tk cp efi ela eco ene ldp dp dbl hlv spl mrg lfi lla lco lne lev ptr llo lhi lsp) := hD
      obtain rfl := hr30
      have hSO2 : SO key (va_up val en v) ord tk := ⟨hSO.1, hSO.2.1, hSO.2.2.1, hSO.2.2.2.1, fun e9 => ⟨(hSO.2.2.2.2 e9).1, (by
        by_cases z : e9 = en
        · rw [z, up_s]; omega
        · rw [up_n _ _ z]; exact (hSO.2.2.2.2 e9).2)⟩⟩
      have hA2 : mkA key (va_up val en v) ord tk cp dep dp E dbl hlv spl mrg L lev ptr llo lhi lsp = arep (mkA key val ord tk cp dep dp E dbl hlv spl mrg L lev ptr llo lhi lsp) k v := by
        unfold mkA arep; dsimp only; rw [stl_rep hSO hmm.2.2.1 hke]
      exact tq_xiret (v := (nI (val en))) C rfl (key, va_up val en v, ord, tk, efi, ela, eco, ene, ldp, dp, dbl, spl, lfi, lla, lco, lne, lev, ptr, lsp) hP hD hS (⟨k, v, hk, by omega, rfl, rfl, Or.inl ⟨val en, (hSO.get hmm.2.2.1 hke _).mpr rfl, rfl, dep, E, L, ⟨hSO2, ⟨hcp1, hcp2⟩, ⟨hlo, hh1, hh2⟩, ⟨rX, hXR⟩, ⟨rY, hYR⟩, hEL⟩, hA2⟩⟩) (Nat.le_of_ble_eq_true rfl) (Nat.le_of_ble_eq_true rfl) dX4_put_33
  · have hnE := hXR.nomem hno
    refine lv_istore_n (lv' := [(3, .int (nI (0))), (0, .ref (a 0)), (1, .int (nI (k))), (2, .int (nI (v)))]) hx hb dX4_put_19 rfl hl (by decide) rfl (fun ls hl => ?_)
    refine lv_iload_n hx hb dX4_put_20 rfl (lv_at hl 0 rfl) ?_
    refine lv_if_eq (tgt := 34) hx hb dX4_put_21 (by decide) (fun _ => ?_) (fun h9 => absurd (by decide : nI 0 = 0) h9)
    refine lv_aload_n hx hb dX4_put_34 rfl (lv_at hl 1 rfl) ?_
    refine tq_get (C0 := RX4) (T := TX4) (N := 3) (ci := 4) (k := 0) C gX4 inX4 rfl (by decide) rfl fl_X4_10 hK hP 0 rfl rfl dX4_put_35 ?_
    refine tq_getN (C0 := RX3) (T := TX3) (N := 5) (ci := 3) (k := 3) C gX3 inX3 rfl (by decide) rfl fn_X4_49 hK hP 1 rfl rfl dX4_put_38 ?_
    refine lv_bipush (v := nI 120) hx hb dX4_put_41 (by decide) ?_
    refine tq_icmp_lt (tgt := 56) C (by omega) (by omega) dX4_put_43 (by decide) (fun h43 => ?_) (fun h43 => ?_)
    · refine lv_aload_n hx hb dX4_put_56 rfl (lv_at hl 1 rfl) ?_
      refine lv_aload_n hx hb dX4_put_57 rfl (lv_at hl 1 rfl) ?_
      refine tq_get (C0 := RX4) (T := TX4) (N := 3) (ci := 4) (k := 0) C gX4 inX4 rfl (by decide) rfl fl_X4_10 hK hP 0 rfl rfl dX4_put_58 ?_
      refine lv_iload_n hx hb dX4_put_61 rfl (lv_at hl 2 rfl) ?_
      refine lv_iload_n hx hb dX4_put_62 rfl (lv_at hl 3 rfl) ?_
      refine tq_callI (W3 := fun u => (wC cy a (va_up key (ord tk) k) (va_up val (ord tk) v) u (tk + 1) cp efi ela eco ene ldp dp dbl hlv spl mrg lfi lla lco lne lev ptr llo lhi lsp)) (wr := []) (va_runV C.fix (As := [.int (nI (k)), .int (nI (v))]) (rest := [.ref (a 0)]) ((c_X3_take l D cy a key val ord tk cp efi ela eco ene ldp dp dbl hlv spl mrg lfi lla lco lne lev ptr llo lhi lsp k v hSO h43 hk (fun i hi q => hnE (q ▸ (hEL i hi).1))) s.heap.size) (tq_cV (n := 2) C ml_X4_60 im_X3_take se_X3_take ini_X3 cd_X3_take ⟨by decide, by decide, by decide +kernel⟩ ⟨Nat.le_of_ble_eq_true rfl, Nat.le_of_ble_eq_true rfl⟩) ⟨tq_Pc.blind, va_recv hK hP (ci := 3) (q0 := 1) rfl rfl, tq_preC C hK hP hD⟩ rfl rfl hl.1 rfl (lv_room (Nat.le_of_ble_eq_true rfl)) dX4_put_63 ⟨Nat.le_of_ble_eq_true rfl, Nat.le_of_ble_eq_true rfl⟩) hP hD hS hA [0, 1, 2, 3, 4, 5, 6, 7, 8, 9, 10, 11, 12, 13, 14, 15, 16, 17] [] [0, 1, 2, 3, 4, 5, 6, 7, 8, 9, 10, 11, 12, 13, 14, 15, 16, 17] rfl rfl (by decide) (by decide) (by decide) (fun _ => rfl) (fun r63 u63 H locs hr63 hP hD hS => ?_)
      obtain ⟨ord2, rfl⟩ : ∃ z, z = u63 := ⟨_, rfl⟩
      try dsimp only at hr63
      have hP : va_P D vwCl (wC cy a (va_up key (ord tk) k) (va_up val (ord tk) v) ord2 (tk + 1) cp efi ela eco ene ldp dp dbl hlv spl mrg lfi lla lco lne lev ptr llo lhi lsp) H := hP
      have hD : va_D A (wC cy a (va_up key (ord tk) k) (va_up val (ord tk) v) ord2 (tk + 1) cp efi ela eco ene ldp dp dbl hlv spl mrg lfi lla lco lne lev ptr llo lhi lsp) := hD
      obtain rfl := hr63.1
      obtain ⟨pl, p0, p1, p2, p3, p4⟩ := hr63.2
      obtain ⟨q1, q2, q3, q4, q5, q6⟩ := hSO.take (v := v) h43 hk (by omega) (fun i hi q => hnE (q ▸ (hEL i hi).1)) p0 p1 p2 p3 p4
      have hen := hSO.2.1 tk h43
      refine tq_callV (W3 := fun u => (wC cy a (va_up key (ord tk) k) (va_up val (ord tk) v) ord2 (tk + 1) cp u.1 u.2.1 u.2.2.1 u.2.2.2.1 u.2.2.2.2.1 u.2.2.2.2.2.1 u.2.2.2.2.2.2.1 hlv u.2.2.2.2.2.2.2.1 mrg u.2.2.2.2.2.2.2.2.1 u.2.2.2.2.2.2.2.2.2.1 u.2.2.2.2.2.2.2.2.2.2.1 u.2.2.2.2.2.2.2.2.2.2.2.1 u.2.2.2.2.2.2.2.2.2.2.2.2.1 u.2.2.2.2.2.2.2.2.2.2.2.2.2.1 llo lhi u.2.2.2.2.2.2.2.2.2.2.2.2.2.2)) (wr := []) (va_runV C.fix (As := [.int (nI (ord tk))]) (rest := []) ((c_X4_insertIntoBoth l D cy a (va_up key (ord tk) k) (va_up val (ord tk) v) ord2 (tk + 1) cp efi ela eco ene ldp dp dbl hlv spl mrg lfi lla lco lne lev ptr llo lhi lsp (ord tk) rX rY dep E L (US ord tk) (US ord2 (tk + 1)) (hXR.rekey q6) (hYR.rekey q6) q1.keyb hen.1 hen.2 q5 q3 q4 hcp1 hcp2 (by omega) hlo hh1 hh2) H.size) (tq_cV (n := 1) C ml_X4_63 im_X4_insertIntoBoth se_X4_insertIntoBoth ini_X4 cd_X4_insertIntoBoth ⟨by decide, by decide, by decide +kernel⟩ ⟨Nat.le_of_ble_eq_true rfl, Nat.le_of_ble_eq_true rfl⟩) ⟨tq_Pc.blind, va_recv hK hP (ci := 4) (q0 := 0) rfl rfl, tq_preC C hK hP hD⟩ rfl rfl hl.1 rfl (lv_room (Nat.le_of_ble_eq_true rfl)) dX4_put_66 ⟨Nat.le_of_ble_eq_true rfl, Nat.le_of_ble_eq_true rfl⟩) hP hD hS hA [0, 1, 2, 3, 4, 5, 6, 7, 8, 9, 10, 11, 12, 13, 14, 15, 16, 17] [] [0, 1, 2, 3, 4, 5, 6, 7, 8, 9, 10, 11, 12, 13, 14, 15, 16, 17] rfl rfl (by decide) (by decide) (by decide) (fun _ => rfl) (fun u66 H locs hr66 hP hD hS => ?_)
      obtain ⟨efi2, ela2, eco2, ene2, ldp2, dp2, dbl2, spl2, lfi2, lla2, lco2, lne2, lev2, ptr2, lsp2⟩ := u66
      try dsimp only at hr66
      have hP : va_P D vwCl (wC cy a (va_up key (ord tk) k) (va_up val (ord tk) v) ord2 (tk + 1) cp efi2 ela2 eco2 ene2 ldp2 dp2 dbl2 hlv spl2 mrg lfi2 lla2 lco2 lne2 lev2 ptr2 llo lhi lsp2) H := hP
      have hD : va_D A (wC cy a (va_up key (ord tk) k) (va_up val (ord tk) v) ord2 (tk + 1) cp efi2 ela2 eco2 ene2 ldp2 dp2 dbl2 hlv spl2 mrg lfi2 lla2 lco2 lne2 lev2 ptr2 llo lhi lsp2) := hD
      rw [up_s] at hr66
      have hin9 : ∀ i, i < tk + 1 → va_up key (ord tk) k (ord2 i) ∈ E ++ [k] ∧ va_up key (ord tk) k (ord2 i) ∈ L ++ [k] := by
        intro i hi
        have z := (stl_mem (q := (va_up key (ord tk) k (ord2 i), va_up val (ord tk) v (ord2 i)))).mpr ⟨i, hi, rfl⟩
        rw [q2, insS_mem (fun q hq y => hCR.none (Or.inl hnE) q.2 (by rw [← y]; exact hq))] at z
        rcases z with z | z
        · rw [show va_up key (ord tk) k (ord2 i) = k from congrArg Prod.fst z]; simp
        · obtain ⟨j, hj, e⟩ := stl_mem.mp z
          rw [show va_up key (ord tk) k (ord2 i) = key (ord j) from (congrArg Prod.fst e).symm]
          exact ⟨List.mem_append_left _ (hEL j hj).1, List.mem_append_left _ (hEL j hj).2⟩
      refine lv_iconst (v := (-1)) hx hb dX4_put_69 (by decide) ?_
      exact tq_xiret (v := ((-1))) C rfl (va_up key (ord tk) k, va_up val (ord tk) v, ord2, tk + 1, efi2, ela2, eco2, ene2, ldp2, dp2, dbl2, spl2, lfi2, lla2, lco2, lne2, lev2, ptr2, lsp2) hP hD hS (⟨k, v, hk, by omega, rfl, rfl, Or.inr ⟨hCR.none (Or.inl hnE), h43, rfl, CR.added q1 q2 rfl ⟨hcp1, hcp2⟩ ⟨hlo, hh1, hh2⟩ hr66.1 hr66.2.1 hr66.2.2.1 hr66.2.2.2 hin9⟩⟩) (Nat.le_of_ble_eq_true rfl) (Nat.le_of_ble_eq_true rfl) dX4_put_70
    · exact tq_throw hl9 C hX (cls := "java/lang/IllegalStateException") (names := ["java/lang/RuntimeException", "java/lang/Exception"]) (ik := 53) (is := 55) (ic := 57) (by decide +kernel) (by decide +kernel) clk_X4_53 ini_IllegalStateException hE.2.2.2.1 (by decide +kernel) hE hA hl.1 dX4_put_46 dX4_put_49 dX4_put_50 dX4_put_52 dX4_put_55 (Nat.le_of_ble_eq_true rfl) (Nat.le_of_ble_eq_true rfl) (Nat.le_of_ble_eq_true rfl) (Nat.le_of_ble_eq_true rfl) (Or.inr ⟨rfl, k, v, hk, by omega, rfl, rfl, hCR.none (Or.inl hnE), by have := hSO.1; omega⟩)
set_option maxHeartbeats 4000000 in
set_option maxRecDepth 100000 in
theorem c_X4_remove (l : Launch) (hl9 : l.stackTraces = false) (D : va_G) (cy : ClassId) (a : Nat → Nat) (key : Nat → Nat) (val : Nat → Nat) (ord : Nat → Nat) (tk : Nat) (cp : Nat) (efi : Nat → Nat) (ela : Nat → Nat) (eco : Nat → Nat) (ene : Nat → Nat) (ldp : Nat → Nat) (dp : Nat) (dbl : Int32) (hlv : Int32) (spl : Int32) (mrg : Int32) (lfi : Nat → Nat) (lla : Nat → Nat) (lco : Nat → Nat) (lne : Nat → Nat) (lev : Nat) (ptr : Nat) (llo : Nat) (lhi : Nat) (lsp : Int32) (kx : Int32) (dep : Nat → Nat) (E L : List Nat) (hCR : CR key val ord tk cp efi ela eco ene ldp dp lfi lla lco lne lev ptr llo lhi dep E L)  : tq_XI (S := (Nat → Nat) × Nat × (Nat → Nat) × (Nat → Nat) × (Nat → Nat) × (Nat → Nat) × (Nat → Nat) × Nat × Int32 × Int32 × (Nat → Nat) × (Nat → Nat) × (Nat → Nat) × (Nat → Nat) × Nat × Nat × Int32) l yX4_remove cX4_remove 3 (some .int) 8 138 D cy (wC cy a key val ord tk cp efi ela eco ene ldp dp dbl hlv spl mrg lfi lla lco lne lev ptr llo lhi lsp) [.ref (a 0), .int (kx)] (fun r u => ∃ k, k < 65536 ∧ kx = nI k ∧ (((∀ w, (k, w) ∉ (stl key val ord tk)) ∧ r = -1 ∧ ∃ dep2 E2 L2, CR key val u.1 u.2.1 cp u.2.2.1 u.2.2.2.1 u.2.2.2.2.1 u.2.2.2.2.2.1 u.2.2.2.2.2.2.1 u.2.2.2.2.2.2.2.1 u.2.2.2.2.2.2.2.2.2.2.1 u.2.2.2.2.2.2.2.2.2.2.2.1 u.2.2.2.2.2.2.2.2.2.2.2.2.1 u.2.2.2.2.2.2.2.2.2.2.2.2.2.1 u.2.2.2.2.2.2.2.2.2.2.2.2.2.2.1 u.2.2.2.2.2.2.2.2.2.2.2.2.2.2.2.1 llo lhi dep2 E2 L2 ∧ mkA key val u.1 u.2.1 cp dep2 u.2.2.2.2.2.2.2.1 E2 dbl u.2.2.2.2.2.2.2.2.1 spl u.2.2.2.2.2.2.2.2.2.1 L2 u.2.2.2.2.2.2.2.2.2.2.2.2.2.2.1 u.2.2.2.2.2.2.2.2.2.2.2.2.2.2.2.1 llo lhi u.2.2.2.2.2.2.2.2.2.2.2.2.2.2.2.2 = (mkA key val ord tk cp dep dp E dbl hlv spl mrg L lev ptr llo lhi lsp)) ∨ (∃ w, (k, w) ∈ (stl key val ord tk) ∧ r = nI w ∧ ∃ dep2 E2 L2, CR key val u.1 u.2.1 cp u.2.2.1 u.2.2.2.1 u.2.2.2.2.1 u.2.2.2.2.2.1 u.2.2.2.2.2.2.1 u.2.2.2.2.2.2.2.1 u.2.2.2.2.2.2.2.2.2.2.1 u.2.2.2.2.2.2.2.2.2.2.2.1 u.2.2.2.2.2.2.2.2.2.2.2.2.1 u.2.2.2.2.2.2.2.2.2.2.2.2.2.1 u.2.2.2.2.2.2.2.2.2.2.2.2.2.2.1 u.2.2.2.2.2.2.2.2.2.2.2.2.2.2.2.1 llo lhi dep2 E2 L2 ∧ mkA key val u.1 u.2.1 cp dep2 u.2.2.2.2.2.2.2.1 E2 dbl u.2.2.2.2.2.2.2.2.1 spl u.2.2.2.2.2.2.2.2.2.1 L2 u.2.2.2.2.2.2.2.2.2.2.2.2.2.2.1 u.2.2.2.2.2.2.2.2.2.2.2.2.2.2.2.1 llo lhi u.2.2.2.2.2.2.2.2.2.2.2.2.2.2.2.2 = adel (mkA key val ord tk cp dep dp E dbl hlv spl mrg L lev ptr llo lhi lsp) k))) (fun u => (wC cy a key val u.1 u.2.1 cp u.2.2.1 u.2.2.2.1 u.2.2.2.2.1 u.2.2.2.2.2.1 u.2.2.2.2.2.2.1 u.2.2.2.2.2.2.2.1 dbl u.2.2.2.2.2.2.2.2.1 spl u.2.2.2.2.2.2.2.2.2.1 u.2.2.2.2.2.2.2.2.2.2.1 u.2.2.2.2.2.2.2.2.2.2.2.1 u.2.2.2.2.2.2.2.2.2.2.2.2.1 u.2.2.2.2.2.2.2.2.2.2.2.2.2.1 u.2.2.2.2.2.2.2.2.2.2.2.2.2.2.1 u.2.2.2.2.2.2.2.2.2.2.2.2.2.2.2.1 llo lhi u.2.2.2.2.2.2.2.2.2.2.2.2.2.2.2.2)) (fun E9 => E9 = "java/lang/IllegalArgumentException" ∧ ¬ isKey kx) := by
  refine tq_XI.mk (by decide) (Nat.le_of_ble_eq_true rfl) ?_
  intro p e s m args below meth c A C hX hP hK hD hS hA hE ls hl
  obtain ⟨hx, hb, hml, hown, hrt, hlk, hT⟩ := id C
  have hl : lv_has ls 3 [(0, .ref (a 0)), (1, .int (kx))] := hl
  obtain ⟨hSO, ⟨hcp1, hcp2⟩, ⟨hlo, hh1, hh2⟩, ⟨rX, hXR⟩, ⟨rY, hYR⟩, hEL⟩ := id hCR
  have hky := hSO.keyb
  have hdp := hXR.2.1.1
  have hp8 := p8 hdp
  have hld := hXR.2.2.2.1
  have hY := hYR.2.1
  have hYm := hY.2
  have hYp := hY.1
  have htk9 := hSO.1
  refine lv_iload_n hx hb dX4_remove_0 rfl (lv_at hl 1 rfl) ?_
  refine tq_callXU C hX (vx_runS C.fix (As := [.int (kx)]) (rest := []) ((c_X4_checkKey l hl9 D cy kx) s.heap.size) (tq_cS (n := 1) C ml_X4_32 sm_X4_checkKey ini_X4 cd_X4_checkKey ⟨by decide, by decide, by decide +kernel⟩ ⟨Nat.le_of_ble_eq_true rfl, Nat.le_of_ble_eq_true rfl⟩) ⟨tq_Px.blind, tq_preX C hK hP hD hS hA hE [] (by decide) rfl⟩ rfl rfl hl.1 rfl (lv_room (Nat.le_of_ble_eq_true rfl)) dX4_remove_1 ⟨Nat.le_of_ble_eq_true rfl, Nat.le_of_ble_eq_true rfl⟩) (fun _ h => h) (fun hr1 => ?_)
  obtain ⟨k, hk, rfl⟩ := hr1
  refine lv_aload_n hx hb dX4_remove_4 rfl (lv_at hl 0 rfl) ?_
  refine tq_get (C0 := RX4) (T := TX4) (N := 3) (ci := 4) (k := 1) C gX4 inX4 rfl (by decide) rfl fl_X4_21 hK hP 0 rfl rfl dX4_remove_5 ?_
  refine lv_iload_n hx hb dX4_remove_8 rfl (lv_at hl 1 rfl) ?_
  refine tq_callF (va_runV C.fix (As := [.int (nI (k))]) (rest := []) (c_X0_find l D cy a key val ord tk cp efi ela eco ene ldp dp dbl hlv spl mrg lfi lla lco lne lev ptr llo lhi lsp k hdp hld rX hXR.1 hky hk) (tq_cV (n := 1) C ml_X4_41 im_X0_find se_X0_find ini_X0 cd_X0_find ⟨by decide, by decide, by decide +kernel⟩ ⟨Nat.le_of_ble_eq_true rfl, Nat.le_of_ble_eq_true rfl⟩) ⟨tq_Pf.blind, va_recv hK hP (ci := 0) (q0 := 2) rfl rfl, tq_preF C hK hP⟩ rfl rfl hl.1 rfl (lv_room (Nat.le_of_ble_eq_true rfl)) dX4_remove_9 ⟨Nat.le_of_ble_eq_true rfl, Nat.le_of_ble_eq_true rfl⟩) (fun r9 hr9 => ?_)
  rcases hr9 with ⟨en, hm, hke, rfl⟩ | ⟨hno, rfl⟩
  · have hmm := hXR.mem hm hke
    obtain ⟨i0, hi0, hen0⟩ := id hmm.2.2.1
    have hke2 := hke.symm
    refine lv_istore_n (lv' := [(2, .int (nI (en))), (0, .ref (a 0)), (1, .int (nI (k)))]) hx hb dX4_remove_12 rfl hl (by decide) rfl (fun ls hl => ?_)
    refine lv_iload_n hx hb dX4_remove_13 rfl (lv_at hl 0 rfl) ?_
    refine tq_if_ne (tgt := 19) C (by omega) dX4_remove_14 (by decide) (fun h14 => ?_) (fun h14 => ?_)
    · refine lv_aload_n hx hb dX4_remove_19 rfl (lv_at hl 1 rfl) ?_
      refine tq_get (C0 := RX4) (T := TX4) (N := 3) (ci := 4) (k := 0) C gX4 inX4 rfl (by decide) rfl fl_X4_10 hK hP 0 rfl rfl dX4_remove_20 ?_
      refine lv_iload_n hx hb dX4_remove_23 rfl (lv_at hl 0 rfl) ?_
      refine tq_callV (W3 := fun u => (wC cy a key val u (tk - 1) cp efi ela eco ene ldp dp dbl hlv spl mrg lfi lla lco lne lev ptr llo lhi lsp)) (wr := []) (va_runV C.fix (As := [.int (nI (en))]) (rest := []) ((c_X3_release l D cy a key val ord tk cp efi ela eco ene ldp dp dbl hlv spl mrg lfi lla lco lne lev ptr llo lhi lsp en i0 hSO hi0 hen0) s.heap.size) (tq_cV (n := 1) C ml_X4_66 im_X3_release se_X3_release ini_X3 cd_X3_release ⟨by decide, by decide, by decide +kernel⟩ ⟨Nat.le_of_ble_eq_true rfl, Nat.le_of_ble_eq_true rfl⟩) ⟨tq_Pc.blind, va_recv hK hP (ci := 3) (q0 := 1) rfl rfl, tq_preC C hK hP hD⟩ rfl rfl hl.1 rfl (lv_room (Nat.le_of_ble_eq_true rfl)) dX4_remove_24 ⟨Nat.le_of_ble_eq_true rfl, Nat.le_of_ble_eq_true rfl⟩) hP hD hS hA [0, 1, 2, 3, 4, 5, 6, 7, 8, 9, 10, 11, 12, 13, 14, 15, 16, 17] [] [0, 1, 2, 3, 4, 5, 6, 7, 8, 9, 10, 11, 12, 13, 14, 15, 16, 17] rfl rfl (by decide) (by decide) (by decide) (fun _ => rfl) (fun u24 H locs hr24 hP hD hS => ?_)
      obtain ⟨ord2, rfl⟩ : ∃ z, z = u24 := ⟨_, rfl⟩
      try dsimp only at hr24
      have hP : va_P D vwCl (wC cy a key val ord2 (tk - 1) cp efi ela eco ene ldp dp dbl hlv spl mrg lfi lla lco lne lev ptr llo lhi lsp) H := hP
      have hD : va_D A (wC cy a key val ord2 (tk - 1) cp efi ela eco ene ldp dp dbl hlv spl mrg lfi lla lco lne lev ptr llo lhi lsp) := hD
      obtain ⟨q1, q2, q3, q4⟩ := hSO.release hi0 hen0 hr24.1 hr24.2.1 hr24.2.2.1 hr24.2.2.2
      refine lv_aload_n hx hb dX4_remove_27 rfl (lv_at hl 1 rfl) ?_
      refine tq_get (C0 := RX4) (T := TX4) (N := 3) (ci := 4) (k := 1) C gX4 inX4 rfl (by decide) rfl fl_X4_21 hK hP 0 rfl rfl dX4_remove_28 ?_
      refine lv_iload_n hx hb dX4_remove_31 rfl (lv_at hl 0 rfl) ?_
      refine tq_callV (W3 := fun u => (wC cy a key val ord2 (tk - 1) cp u.1 u.2.1 u.2.2.1 u.2.2.2.1 u.2.2.2.2.1 u.2.2.2.2.2.1 dbl u.2.2.2.2.2.2.1 spl u.2.2.2.2.2.2.2 lfi lla lco lne lev ptr llo lhi lsp)) (wr := []) (va_runV C.fix (As := [.int (nI (en))]) (rest := []) ((c_X0_delete l D cy a key val ord2 (tk - 1) cp efi ela eco ene ldp dp dbl hlv spl mrg lfi lla lco lne lev ptr llo lhi lsp en rX dep E (US ord tk) hXR hky (US ord2 (tk - 1)) hmm.1 hmm.2.1 hmm.2.2.1 hSO.injU q3 hmm.2.2.2.1 hcp2) H.size) (tq_cV (n := 1) C ml_X4_69 im_X0_delete se_X0_delete ini_X0 cd_X0_delete ⟨by decide, by decide, by decide +kernel⟩ ⟨Nat.le_of_ble_eq_true rfl, Nat.le_of_ble_eq_true rfl⟩) ⟨tq_Pc.blind, va_recv hK hP (ci := 0) (q0 := 2) rfl rfl, tq_preC C hK hP hD⟩ rfl rfl hl.1 rfl (lv_room (Nat.le_of_ble_eq_true rfl)) dX4_remove_32 ⟨Nat.le_of_ble_eq_true rfl, Nat.le_of_ble_eq_true rfl⟩) hP hD hS hA [0, 1, 2, 3, 4, 5, 6, 7, 8, 9, 10, 11, 12, 13, 14, 15, 16, 17] [] [0, 1, 2, 3, 4, 5, 6, 7, 8, 9, 10, 11, 12, 13, 14, 15, 16, 17] rfl rfl (by decide) (by decide) (by decide) (fun _ => rfl) (fun u32 H locs hr32 hP hD hS => ?_)
      obtain ⟨efi2, ela2, eco2, ene2, ldp2, dp2, hlv2, mrg2⟩ := u32
      try dsimp only at hr32
      have hP : va_P D vwCl (wC cy a key val ord2 (tk - 1) cp efi2 ela2 eco2 ene2 ldp2 dp2 dbl hlv2 spl mrg2 lfi lla lco lne lev ptr llo lhi lsp) H := hP
      have hD : va_D A (wC cy a key val ord2 (tk - 1) cp efi2 ela2 eco2 ene2 ldp2 dp2 dbl hlv2 spl mrg2 lfi lla lco lne lev ptr llo lhi lsp) := hD
      refine lv_aload_n hx hb dX4_remove_35 rfl (lv_at hl 1 rfl) ?_
      refine tq_get (C0 := RX4) (T := TX4) (N := 3) (ci := 4) (k := 2) C gX4 inX4 rfl (by decide) rfl fl_X4_28 hK hP 0 rfl rfl dX4_remove_36 ?_
      refine lv_iload_n hx hb dX4_remove_39 rfl (lv_at hl 0 rfl) ?_
      refine tq_callV (W3 := fun u => (wC cy a key val ord2 (tk - 1) cp efi2 ela2 eco2 ene2 ldp2 dp2 dbl hlv2 spl mrg2 u.1 u.2.1 u.2.2.1 u.2.2.2.1 u.2.2.2.2.1 u.2.2.2.2.2.1 llo lhi u.2.2.2.2.2.2)) (wr := []) (va_runV C.fix (As := [.int (nI (en))]) (rest := []) ((c_X1_delete l D cy a key val ord2 (tk - 1) cp efi2 ela2 eco2 ene2 ldp2 dp2 dbl hlv2 spl mrg2 lfi lla lco lne lev ptr llo lhi lsp en rY L (US ord tk) hYR hky (US ord2 (tk - 1)) hmm.1 hmm.2.1 hcp1 hcp2 q1.1 hlo hh1 hh2 hmm.2.2.1 hSO.injU q3 (hYR.inrow hSO.injU hmm.2.2.1 (by rw [← hen0]; exact (hEL i0 hi0).2))) H.size) (tq_cV (n := 1) C ml_X4_72 im_X1_delete se_X1_delete ini_X1 cd_X1_delete ⟨by decide, by decide, by decide +kernel⟩ ⟨Nat.le_of_ble_eq_true rfl, Nat.le_of_ble_eq_true rfl⟩) ⟨tq_Pc.blind, va_recv hK hP (ci := 1) (q0 := 3) rfl rfl, tq_preC C hK hP hD⟩ rfl rfl hl.1 rfl (lv_room (Nat.le_of_ble_eq_true rfl)) dX4_remove_40 ⟨Nat.le_of_ble_eq_true rfl, Nat.le_of_ble_eq_true rfl⟩) hP hD hS hA [0, 1, 2, 3, 4, 5, 6, 7, 8, 9, 10, 11, 12, 13, 14, 15, 16, 17] [] [0, 1, 2, 3, 4, 5, 6, 7, 8, 9, 10, 11, 12, 13, 14, 15, 16, 17] rfl rfl (by decide) (by decide) (by decide) (fun _ => rfl) (fun u40 H locs hr40 hP hD hS => ?_)
      obtain ⟨lfi2, lla2, lco2, lne2, lev2, ptr2, lsp2⟩ := u40
      try dsimp only at hr40
      have hP : va_P D vwCl (wC cy a key val ord2 (tk - 1) cp efi2 ela2 eco2 ene2 ldp2 dp2 dbl hlv2 spl mrg2 lfi2 lla2 lco2 lne2 lev2 ptr2 llo lhi lsp2) H := hP
      have hD : va_D A (wC cy a key val ord2 (tk - 1) cp efi2 ela2 eco2 ene2 ldp2 dp2 dbl hlv2 spl mrg2 lfi2 lla2 lco2 lne2 lev2 ptr2 llo lhi lsp2) := hD
      rw [hke] at hr32 hr40 q2 q4
      refine lv_aload_n hx hb dX4_remove_43 rfl (lv_at hl 1 rfl) ?_
      refine tq_get (C0 := RX4) (T := TX4) (N := 3) (ci := 4) (k := 0) C gX4 inX4 rfl (by decide) rfl fl_X4_10 hK hP 0 rfl rfl dX4_remove_44 ?_
      refine lv_iload_n hx hb dX4_remove_47 rfl (lv_at hl 0 rfl) ?_
      refine tq_callF (va_runV C.fix (As := [.int (nI (en))]) (rest := []) (c_X3_valueOf l D cy a key val ord2 (tk - 1) cp efi2 ela2 eco2 ene2 ldp2 dp2 dbl hlv2 spl mrg2 lfi2 lla2 lco2 lne2 lev2 ptr2 llo lhi lsp2 en hmm.1 hmm.2.1) (tq_cV (n := 1) C ml_X4_73 im_X3_valueOf se_X3_valueOf ini_X3 cd_X3_valueOf ⟨by decide, by decide, by decide +kernel⟩ ⟨Nat.le_of_ble_eq_true rfl, Nat.le_of_ble_eq_true rfl⟩) ⟨tq_Pf.blind, va_recv hK hP (ci := 3) (q0 := 1) rfl rfl, tq_preF C hK hP⟩ rfl rfl hl.1 rfl (lv_room (Nat.le_of_ble_eq_true rfl)) dX4_remove_48 ⟨Nat.le_of_ble_eq_true rfl, Nat.le_of_ble_eq_true rfl⟩) (fun r48 hr48 => ?_)
      obtain rfl := hr48
      exact tq_xiret (v := (nI (val en))) C rfl (ord2, tk - 1, efi2, ela2, eco2, ene2, ldp2, dp2, hlv2, mrg2, lfi2, lla2, lco2, lne2, lev2, ptr2, lsp2) hP hD hS (⟨k, hk, rfl, Or.inr ⟨val en, (hSO.get hmm.2.2.1 hke _).mpr rfl, rfl, CR.gone q1 q2 ⟨hcp1, hcp2⟩ ⟨hlo, hh1, hh2⟩ hr32.1 hr32.2.1 hr32.2.2.1 hr32.2.2.2 hr40.1 hr40.2 q4 hEL⟩⟩) (Nat.le_of_ble_eq_true rfl) (Nat.le_of_ble_eq_true rfl) dX4_remove_51
    · exact absurd h14 (by have := hmm.1; omega)
  · have hnE := hXR.nomem hno
    refine lv_istore_n (lv' := [(2, .int (nI (0))), (0, .ref (a 0)), (1, .int (nI (k)))]) hx hb dX4_remove_12 rfl hl (by decide) rfl (fun ls hl => ?_)
    refine lv_iload_n hx hb dX4_remove_13 rfl (lv_at hl 0 rfl) ?_
    refine lv_if_ne (tgt := 19) hx hb dX4_remove_14 (by decide) (fun h9 => absurd (by decide : nI 0 = 0) h9) (fun _ => ?_)
    refine lv_iconst (v := (-1)) hx hb dX4_remove_17 (by decide) ?_
    exact tq_xiret (v := ((-1))) C rfl (ord, tk, efi, ela, eco, ene, ldp, dp, hlv, mrg, lfi, lla, lco, lne, lev, ptr, lsp) hP hD hS (⟨k, hk, rfl, Or.inl ⟨hCR.none (Or.inl hnE), rfl, dep, E, L, hCR, rfl⟩⟩) (Nat.le_of_ble_eq_true rfl) (Nat.le_of_ble_eq_true rfl) dX4_remove_18
set_option maxHeartbeats 4000000 in
set_option maxRecDepth 100000 in
theorem c_X4_setLoads (l : Launch) (hl9 : l.stackTraces = false) (D : va_G) (cy : ClassId) (a : Nat → Nat) (key : Nat → Nat) (val : Nat → Nat) (ord : Nat → Nat) (tk : Nat) (cp : Nat) (efi : Nat → Nat) (ela : Nat → Nat) (eco : Nat → Nat) (ene : Nat → Nat) (ldp : Nat → Nat) (dp : Nat) (dbl : Int32) (hlv : Int32) (spl : Int32) (mrg : Int32) (lfi : Nat → Nat) (lla : Nat → Nat) (lco : Nat → Nat) (lne : Nat → Nat) (lev : Nat) (ptr : Nat) (llo : Nat) (lhi : Nat) (lsp : Int32) (lx : Int32) (hx9 : Int32) (dep : Nat → Nat) (E L : List Nat) (hCR : CR key val ord tk cp efi ela eco ene ldp dp lfi lla lco lne lev ptr llo lhi dep E L)  : tq_XI (S := Nat × Nat) l yX4_setLoads cX4_setLoads 4 (some .int) 7 104 D cy (wC cy a key val ord tk cp efi ela eco ene ldp dp dbl hlv spl mrg lfi lla lco lne lev ptr llo lhi lsp) [.ref (a 0), .int (lx), .int (hx9)] (fun r u => ∃ lo hi : Nat, lo ≤ 50 ∧ 50 ≤ hi ∧ hi ≤ 200 ∧ 2 * lo ≤ hi ∧ lx = nI lo ∧ hx9 = nI hi ∧ r = nI lhi ∧ ∃ dep2 E2 L2, CR key val ord tk cp efi ela eco ene ldp dp lfi lla lco lne lev ptr u.1 u.2 dep2 E2 L2 ∧ mkA key val ord tk cp dep2 dp E2 dbl hlv spl mrg L2 lev ptr u.1 u.2 lsp = (((stl key val ord tk), cp, lo, hi), (mkA key val ord tk cp dep dp E dbl hlv spl mrg L lev ptr llo lhi lsp).2)) (fun u => (wC cy a key val ord tk cp efi ela eco ene ldp dp dbl hlv spl mrg lfi lla lco lne lev ptr u.1 u.2 lsp)) (fun E9 => E9 = "java/lang/IllegalArgumentException" ∧ ¬ ∃ lo hi : Nat, lo ≤ 50 ∧ 50 ≤ hi ∧ hi ≤ 200 ∧ 2 * lo ≤ hi ∧ lx = nI lo ∧ hx9 = nI hi) := by
  refine tq_XI.mk (by decide) (Nat.le_of_ble_eq_true rfl) ?_
  intro p e s m args below meth c A C hX hP hK hD hS hA hE ls hl
  obtain ⟨hx, hb, hml, hown, hrt, hlk, hT⟩ := id C
  have hl : lv_has ls 4 [(0, .ref (a 0)), (1, .int (lx)), (2, .int (hx9))] := hl
  obtain ⟨hSO, ⟨hcp1, hcp2⟩, ⟨hlo, hh1, hh2⟩, ⟨rX, hXR⟩, ⟨rY, hYR⟩, hEL⟩ := id hCR
  have hky := hSO.keyb
  have hdp := hXR.2.1.1
  have hp8 := p8 hdp
  have hld := hXR.2.2.2.1
  have hY := hYR.2.1
  have hYm := hY.2
  have hYp := hY.1
  have htk9 := hSO.1
  refine lv_iload_n hx hb dX4_setLoads_0 rfl (lv_at hl 2 rfl) ?_
  refine lv_bipush (v := nI 50) hx hb dX4_setLoads_1 (by decide) ?_
  refine lv_sipush (v := nI 200) hx hb dX4_setLoads_3 (by decide) ?_
  refine tq_callXU C hX (vx_runS C.fix (As := [.int (hx9), .int (nI 50), .int (nI 200)]) (rest := []) ((c_X4_checkRange l hl9 D cy hx9 (nI 50) (nI 200)) s.heap.size) (tq_cS (n := 3) C ml_X4_37 sm_X4_checkRange ini_X4 cd_X4_checkRange ⟨by decide, by decide, by decide +kernel⟩ ⟨Nat.le_of_ble_eq_true rfl, Nat.le_of_ble_eq_true rfl⟩) ⟨tq_Px.blind, tq_preX C hK hP hD hS hA hE [] (by decide) rfl⟩ rfl rfl hl.1 rfl (lv_room (Nat.le_of_ble_eq_true rfl)) dX4_setLoads_6 ⟨Nat.le_of_ble_eq_true rfl, Nat.le_of_ble_eq_true rfl⟩) (fun E9 h => ⟨h.1, fun ⟨lo, hi, a1, a2, a3, a4, a5, a6⟩ => by subst a6; exact h.2.elim (fun q => absurd ((nI_ltI (by omega) (by decide)).mp q) (by omega)) (fun q => q (nI_le a3 (by decide)))⟩) (fun hr6 => ?_)
  obtain ⟨hi, hhi, rfl⟩ := tq_rng (x := hx9) (M := 200) (by decide) (fun q => hr6.1 (Int32.lt_trans q (by decide))) hr6.2
  have hhi2 : 50 ≤ hi := Nat.le_of_not_lt (fun q => hr6.1 (nI_lt q (by decide)))
  refine lv_iload_n hx hb dX4_setLoads_9 rfl (lv_at hl 1 rfl) ?_
  refine lv_iconst (v := nI 0) hx hb dX4_setLoads_10 (by decide) ?_
  refine lv_bipush (v := nI 50) hx hb dX4_setLoads_11 (by decide) ?_
  refine lv_iload_n hx hb dX4_setLoads_13 rfl (lv_at hl 2 rfl) ?_
  refine lv_iconst (v := nI 2) hx hb dX4_setLoads_14 (by decide) ?_
  refine tq_idiv C (by decide) (by omega) (by decide) dX4_setLoads_15 ?_
  refine va_mmin hx hb (hml.trans hl.1.symm) hown (hT.use ml_X4_90 rfl) (hT.use sm_J9_min rfl) (hT.use ini_J9 rfl) (hT.use cd_J9_min rfl) (Nat.le_of_ble_eq_true rfl) (Nat.le_of_ble_eq_true rfl) (Nat.le_of_ble_eq_true rfl) (Nat.le_of_ble_eq_true rfl) dX4_setLoads_16 ?_
  refine tq_top (y := nI (min 50 (hi / 2))) (tq_min (by omega) (by omega)) ?_
  refine tq_callXU C hX (vx_runS C.fix (As := [.int (lx), .int (nI 0), .int (nI (min 50 (hi / 2)))]) (rest := []) ((c_X4_checkRange l hl9 D cy lx (nI 0) (nI (min 50 (hi / 2)))) s.heap.size) (tq_cS (n := 3) C ml_X4_37 sm_X4_checkRange ini_X4 cd_X4_checkRange ⟨by decide, by decide, by decide +kernel⟩ ⟨Nat.le_of_ble_eq_true rfl, Nat.le_of_ble_eq_true rfl⟩) ⟨tq_Px.blind, tq_preX C hK hP hD hS hA hE [] (by decide) rfl⟩ rfl rfl hl.1 rfl (lv_room (Nat.le_of_ble_eq_true rfl)) dX4_setLoads_19 ⟨Nat.le_of_ble_eq_true rfl, Nat.le_of_ble_eq_true rfl⟩) (fun E9 h => ⟨h.1, fun ⟨lo, hi2, a1, a2, a3, a4, a5, a6⟩ => tq_rngN (x := lx) (M := min 50 (hi / 2)) (by omega) (by rw [← nI_0]; exact h.2) ⟨lo, by have := (nI_eq (by omega) (by omega)).mp a6; omega, a5⟩⟩) (fun hr19 => ?_)
  obtain ⟨lo, hlo9, rfl⟩ := tq_rng (x := lx) (M := min 50 (hi / 2)) (by omega) (by rw [← nI_0]; exact hr19.1) hr19.2
  refine lv_aload_n hx hb dX4_setLoads_22 rfl (lv_at hl 0 rfl) ?_
  refine tq_get (C0 := RX4) (T := TX4) (N := 3) (ci := 4) (k := 2) C gX4 inX4 rfl (by decide) rfl fl_X4_28 hK hP 0 rfl rfl dX4_setLoads_23 ?_
  refine tq_getN (C0 := RX1) (T := TX1) (N := 7) (ci := 1) (k := 5) C gX1 inX1 rfl (by decide) rfl fn_X4_95 hK hP 3 rfl rfl dX4_setLoads_26 ?_
  refine lv_istore_n (lv' := [(3, .int (nI (lhi))), (0, .ref (a 0)), (1, .int (nI (lo))), (2, .int (nI (hi)))]) hx hb dX4_setLoads_29 rfl hl (by decide) rfl (fun ls hl => ?_)
  refine lv_aload_n hx hb dX4_setLoads_30 rfl (lv_at hl 1 rfl) ?_
  refine tq_get (C0 := RX4) (T := TX4) (N := 3) (ci := 4) (k := 2) C gX4 inX4 rfl (by decide) rfl fl_X4_28 hK hP 0 rfl rfl dX4_setLoads_31 ?_
  refine lv_iload_n hx hb dX4_setLoads_34 rfl (lv_at hl 2 rfl) ?_
  refine tq_putN (v := .int (nI (lo))) (C0 := RX1) (T := TX1) (N := 7) (ci := 1) (k := 4) (ty := .int) C gX1 inX1 tyX1_ok nmX1 rfl (by decide) rfl fn_X4_98 rfl (by decide +kernel) hK hP hD hS 3 rfl rfl rfl (Nat.le_of_ble_eq_true rfl) dX4_setLoads_35 (fun H locs hP hD hS => ?_)
  have hP : va_P D vwCl (wC cy a key val ord tk cp efi ela eco ene ldp dp dbl hlv spl mrg lfi lla lco lne lev ptr lo lhi lsp) H := hP
  have hD : va_D A (wC cy a key val ord tk cp efi ela eco ene ldp dp dbl hlv spl mrg lfi lla lco lne lev ptr lo lhi lsp) := hD
  refine lv_aload_n hx hb dX4_setLoads_38 rfl (lv_at hl 1 rfl) ?_
  refine tq_get (C0 := RX4) (T := TX4) (N := 3) (ci := 4) (k := 2) C gX4 inX4 rfl (by decide) rfl fl_X4_28 hK hP 0 rfl rfl dX4_setLoads_39 ?_
  refine lv_iload_n hx hb dX4_setLoads_42 rfl (lv_at hl 3 rfl) ?_
  refine tq_putN (v := .int (nI (hi))) (C0 := RX1) (T := TX1) (N := 7) (ci := 1) (k := 5) (ty := .int) C gX1 inX1 tyX1_ok nmX1 rfl (by decide) rfl fn_X4_95 rfl (by decide +kernel) hK hP hD hS 3 rfl rfl rfl (Nat.le_of_ble_eq_true rfl) dX4_setLoads_43 (fun H locs hP hD hS => ?_)
  have hP : va_P D vwCl (wC cy a key val ord tk cp efi ela eco ene ldp dp dbl hlv spl mrg lfi lla lco lne lev ptr lo hi lsp) H := hP
  have hD : va_D A (wC cy a key val ord tk cp efi ela eco ene ldp dp dbl hlv spl mrg lfi lla lco lne lev ptr lo hi lsp) := hD
  refine lv_iload_n hx hb dX4_setLoads_46 rfl (lv_at hl 0 rfl) ?_
  exact tq_xiret (v := (nI (lhi))) C rfl (lo, hi) hP hD hS (⟨lo, hi, by omega, hhi2, hhi, by omega, rfl, rfl, rfl, dep, E, L, ⟨hSO, ⟨hcp1, hcp2⟩, ⟨by omega, hhi2, hhi⟩, ⟨rX, hXR⟩, ⟨rY, hYR⟩, hEL⟩, rfl⟩) (Nat.le_of_ble_eq_true rfl) (Nat.le_of_ble_eq_true rfl) dX4_setLoads_47
set_option maxHeartbeats 4000000 in
set_option maxRecDepth 100000 in
theorem c_X4_rebuild (l : Launch) (hl9 : l.stackTraces = false) (D : va_G) (cy : ClassId) (a : Nat → Nat) (key : Nat → Nat) (val : Nat → Nat) (ord : Nat → Nat) (tk : Nat) (cp : Nat) (efi : Nat → Nat) (ela : Nat → Nat) (eco : Nat → Nat) (ene : Nat → Nat) (ldp : Nat → Nat) (dp : Nat) (dbl : Int32) (hlv : Int32) (spl : Int32) (mrg : Int32) (lfi : Nat → Nat) (lla : Nat → Nat) (lco : Nat → Nat) (lne : Nat → Nat) (lev : Nat) (ptr : Nat) (llo : Nat) (lhi : Nat) (lsp : Int32) (cx : Int32) (dep : Nat → Nat) (E L : List Nat) (hCR : CR key val ord tk cp efi ela eco ene ldp dp lfi lla lco lne lev ptr llo lhi dep E L)  : tq_XI (S := Nat × Nat × (Nat → Nat) × (Nat → Nat) × (Nat → Nat) × (Nat → Nat) × (Nat → Nat) × Nat × Int32 × Int32 × (Nat → Nat) × (Nat → Nat) × (Nat → Nat) × (Nat → Nat) × Nat × Nat × Int32) l yX4_rebuild cX4_rebuild 5 (some .int) 7 137 D cy (wC cy a key val ord tk cp efi ela eco ene ldp dp dbl hlv spl mrg lfi lla lco lne lev ptr llo lhi lsp) [.ref (a 0), .int (cx)] (fun r u => ∃ cq : Nat, 1 ≤ cq ∧ cq ≤ 5 ∧ cx = nI cq ∧ r = nI cp ∧ ∃ dep2 E2 L2, CR key val ord u.1 u.2.1 u.2.2.1 u.2.2.2.1 u.2.2.2.2.1 u.2.2.2.2.2.1 u.2.2.2.2.2.2.1 u.2.2.2.2.2.2.2.1 u.2.2.2.2.2.2.2.2.2.2.1 u.2.2.2.2.2.2.2.2.2.2.2.1 u.2.2.2.2.2.2.2.2.2.2.2.2.1 u.2.2.2.2.2.2.2.2.2.2.2.2.2.1 u.2.2.2.2.2.2.2.2.2.2.2.2.2.2.1 u.2.2.2.2.2.2.2.2.2.2.2.2.2.2.2.1 llo lhi dep2 E2 L2 ∧ mkA key val ord u.1 u.2.1 dep2 u.2.2.2.2.2.2.2.1 E2 u.2.2.2.2.2.2.2.2.1 hlv u.2.2.2.2.2.2.2.2.2.1 mrg L2 u.2.2.2.2.2.2.2.2.2.2.2.2.2.2.1 u.2.2.2.2.2.2.2.2.2.2.2.2.2.2.2.1 llo lhi u.2.2.2.2.2.2.2.2.2.2.2.2.2.2.2.2 = areb (mkA key val ord tk cp dep dp E dbl hlv spl mrg L lev ptr llo lhi lsp) cq) (fun u => (wC cy a key val ord u.1 u.2.1 u.2.2.1 u.2.2.2.1 u.2.2.2.2.1 u.2.2.2.2.2.1 u.2.2.2.2.2.2.1 u.2.2.2.2.2.2.2.1 u.2.2.2.2.2.2.2.2.1 hlv u.2.2.2.2.2.2.2.2.2.1 mrg u.2.2.2.2.2.2.2.2.2.2.1 u.2.2.2.2.2.2.2.2.2.2.2.1 u.2.2.2.2.2.2.2.2.2.2.2.2.1 u.2.2.2.2.2.2.2.2.2.2.2.2.2.1 u.2.2.2.2.2.2.2.2.2.2.2.2.2.2.1 u.2.2.2.2.2.2.2.2.2.2.2.2.2.2.2.1 llo lhi u.2.2.2.2.2.2.2.2.2.2.2.2.2.2.2.2)) (fun E9 => E9 = "java/lang/IllegalArgumentException" ∧ ¬ ∃ cq : Nat, 1 ≤ cq ∧ cq ≤ 5 ∧ cx = nI cq) := by
  refine tq_XI.mk (by decide) (Nat.le_of_ble_eq_true rfl) ?_
  intro p e s m args below meth c A C hX hP hK hD hS hA hE ls hl
  obtain ⟨hx, hb, hml, hown, hrt, hlk, hT⟩ := id C
  have hl : lv_has ls 5 [(0, .ref (a 0)), (1, .int (cx))] := hl
  obtain ⟨hSO, ⟨hcp1, hcp2⟩, ⟨hlo, hh1, hh2⟩, ⟨rX, hXR⟩, ⟨rY, hYR⟩, hEL⟩ := id hCR
  have hky := hSO.keyb
  have hdp := hXR.2.1.1
  have hp8 := p8 hdp
  have hld := hXR.2.2.2.1
  have hY := hYR.2.1
  have hYm := hY.2
  have hYp := hY.1
  have htk9 := hSO.1
  refine lv_iload_n hx hb dX4_rebuild_0 rfl (lv_at hl 1 rfl) ?_
  refine lv_iconst (v := nI 1) hx hb dX4_rebuild_1 (by decide) ?_
  refine lv_iconst (v := nI 5) hx hb dX4_rebuild_2 (by decide) ?_
  refine tq_callXU C hX (vx_runS C.fix (As := [.int (cx), .int (nI 1), .int (nI 5)]) (rest := []) ((c_X4_checkRange l hl9 D cy cx (nI 1) (nI 5)) s.heap.size) (tq_cS (n := 3) C ml_X4_37 sm_X4_checkRange ini_X4 cd_X4_checkRange ⟨by decide, by decide, by decide +kernel⟩ ⟨Nat.le_of_ble_eq_true rfl, Nat.le_of_ble_eq_true rfl⟩) ⟨tq_Px.blind, tq_preX C hK hP hD hS hA hE [] (by decide) rfl⟩ rfl rfl hl.1 rfl (lv_room (Nat.le_of_ble_eq_true rfl)) dX4_rebuild_3 ⟨Nat.le_of_ble_eq_true rfl, Nat.le_of_ble_eq_true rfl⟩) (fun E9 h => ⟨h.1, fun ⟨cq, a1, a2, a3⟩ => by subst a3; exact h.2.elim (fun q => absurd ((nI_ltI (by omega) (by decide)).mp q) (by omega)) (fun q => q (nI_le a2 (by decide)))⟩) (fun hr3 => ?_)
  obtain ⟨cq, hc2, hcx⟩ := tq_rng (x := cx) (M := 5) (by decide) (fun q => hr3.1 (Int32.lt_trans q (by decide))) hr3.2
  have hc1 : 1 ≤ cq := Nat.le_of_not_lt (fun q => hr3.1 (by rw [hcx]; exact nI_lt q (by decide)))
  rw [hcx] at hl
  refine lv_aload_n hx hb dX4_rebuild_6 rfl (lv_at hl 0 rfl) ?_
  refine tq_get (C0 := RX4) (T := TX4) (N := 3) (ci := 4) (k := 0) C gX4 inX4 rfl (by decide) rfl fl_X4_10 hK hP 0 rfl rfl dX4_rebuild_7 ?_
  refine tq_getN (C0 := RX3) (T := TX3) (N := 5) (ci := 3) (k := 4) C gX3 inX3 rfl (by decide) rfl fn_X4_83 hK hP 1 rfl rfl dX4_rebuild_10 ?_
  refine lv_istore_n (lv' := [(2, .int (nI (cp))), (0, .ref (a 0)), (1, .int (nI (cq)))]) hx hb dX4_rebuild_13 rfl hl (by decide) rfl (fun ls hl => ?_)
  refine lv_aload_n hx hb dX4_rebuild_14 rfl (lv_at hl 1 rfl) ?_
  refine tq_get (C0 := RX4) (T := TX4) (N := 3) (ci := 4) (k := 0) C gX4 inX4 rfl (by decide) rfl fl_X4_10 hK hP 0 rfl rfl dX4_rebuild_15 ?_
  refine tq_getN (C0 := RX3) (T := TX3) (N := 5) (ci := 3) (k := 3) C gX3 inX3 rfl (by decide) rfl fn_X4_49 hK hP 1 rfl rfl dX4_rebuild_18 ?_
  refine lv_istore_n (lv' := [(3, .int (nI (tk))), (2, .int (nI (cp))), (0, .ref (a 0)), (1, .int (nI (cq)))]) hx hb dX4_rebuild_21 rfl hl (by decide) rfl (fun ls hl => ?_)
  refine lv_aload_n hx hb dX4_rebuild_22 rfl (lv_at hl 2 rfl) ?_
  refine tq_callV (W3 := fun u => (wC cy a key val ord 0 cp u.1 u.2.1 u.2.2.1 ene (va_up ldp 0 0) 0 dbl hlv spl mrg u.2.2.2.1 u.2.2.2.2.1 u.2.2.2.2.2 lne 0 0 llo lhi lsp)) (wr := []) (va_runV C.fix (As := []) (rest := []) ((c_X4_emptyAll l D cy a key val ord tk cp efi ela eco ene ldp dp dbl hlv spl mrg lfi lla lco lne lev ptr llo lhi lsp) s.heap.size) (tq_cV (n := 0) C ml_X4_80 im_X4_emptyAll se_X4_emptyAll ini_X4 cd_X4_emptyAll ⟨by decide, by decide, by decide +kernel⟩ ⟨Nat.le_of_ble_eq_true rfl, Nat.le_of_ble_eq_true rfl⟩) ⟨tq_Pc.blind, va_recv hK hP (ci := 4) (q0 := 0) rfl rfl, tq_preC C hK hP hD⟩ rfl rfl hl.1 rfl (lv_room (Nat.le_of_ble_eq_true rfl)) dX4_rebuild_23 ⟨Nat.le_of_ble_eq_true rfl, Nat.le_of_ble_eq_true rfl⟩) hP hD hS hA [0, 1, 2, 3, 4, 5, 6, 7, 8, 9, 10, 11, 12, 13, 14, 15, 16, 17] [] [0, 1, 2, 3, 4, 5, 6, 7, 8, 9, 10, 11, 12, 13, 14, 15, 16, 17] rfl rfl (by decide) (by decide) (by decide) (fun _ => rfl) (fun u23 H locs hr23 hP hD hS => ?_)
  obtain ⟨efi2, ela2, eco2, lfi2, lla2, lco2⟩ := u23
  try dsimp only at hr23
  have hP : va_P D vwCl (wC cy a key val ord 0 cp efi2 ela2 eco2 ene (va_up ldp 0 0) 0 dbl hlv spl mrg lfi2 lla2 lco2 lne 0 0 llo lhi lsp) H := hP
  have hD : va_D A (wC cy a key val ord 0 cp efi2 ela2 eco2 ene (va_up ldp 0 0) 0 dbl hlv spl mrg lfi2 lla2 lco2 lne 0 0 llo lhi lsp) := hD
  refine lv_aload_n hx hb dX4_rebuild_26 rfl (lv_at hl 2 rfl) ?_
  refine tq_get (C0 := RX4) (T := TX4) (N := 3) (ci := 4) (k := 0) C gX4 inX4 rfl (by decide) rfl fl_X4_10 hK hP 0 rfl rfl dX4_rebuild_27 ?_
  refine lv_iload_n hx hb dX4_rebuild_30 rfl (lv_at hl 3 rfl) ?_
  refine tq_putN (v := .int (nI (cq))) (C0 := RX3) (T := TX3) (N := 5) (ci := 3) (k := 4) (ty := .int) C gX3 inX3 tyX3_ok nmX3 rfl (by decide) rfl fn_X4_83 rfl (by decide +kernel) hK hP hD hS 1 rfl rfl rfl (Nat.le_of_ble_eq_true rfl) dX4_rebuild_31 (fun H locs hP hD hS => ?_)
  have hP : va_P D vwCl (wC cy a key val ord 0 cq efi2 ela2 eco2 ene (va_up ldp 0 0) 0 dbl hlv spl mrg lfi2 lla2 lco2 lne 0 0 llo lhi lsp) H := hP
  have hD : va_D A (wC cy a key val ord 0 cq efi2 ela2 eco2 ene (va_up ldp 0 0) 0 dbl hlv spl mrg lfi2 lla2 lco2 lne 0 0 llo lhi lsp) := hD
  refine lv_iconst (v := nI 0) hx hb dX4_rebuild_34 (by decide) ?_
  refine lv_istore (lv' := [(4, .int (nI (0))), (3, .int (nI (tk))), (2, .int (nI (cp))), (0, .ref (a 0)), (1, .int (nI (cq)))]) hx hb dX4_rebuild_35 hl (by decide) rfl (fun ls hl => ?_)
  suffices hlp37 : ∀ (n37 : Nat) (j : Nat) (dep1 : Nat → Nat) (E1 : List Nat) (L1 : List Nat) (efi1 : Nat → Nat) (ela1 : Nat → Nat) (eco1 : Nat → Nat) (ene1 : Nat → Nat) (ldp1 : Nat → Nat) (dp1 : Nat) (dbl1 : Int32) (spl1 : Int32) (lfi1 : Nat → Nat) (lla1 : Nat → Nat) (lco1 : Nat → Nat) (lne1 : Nat → Nat) (lev1 : Nat) (ptr1 : Nat) (lsp1 : Int32), tk - j < n37 → (j ≤ tk) → (CR key val ord j cq efi1 ela1 eco1 ene1 ldp1 dp1 lfi1 lla1 lco1 lne1 lev1 ptr1 llo lhi dep1 E1 L1) → (mkA key val ord j cq dep1 dp1 E1 dbl1 hlv spl1 mrg L1 lev1 ptr1 llo lhi lsp1 = ((stl key val ord tk).take j).foldl (fun B q => aadd B q.1 q.2) (aclr (mkA key val ord tk cp dep dp E dbl hlv spl mrg L lev ptr llo lhi lsp) cq)) → ∀ (H : Heap) (locs : List Loc), va_P D vwCl (wC cy a key val ord j cq efi1 ela1 eco1 ene1 ldp1 dp1 dbl1 hlv spl1 mrg lfi1 lla1 lco1 lne1 lev1 ptr1 llo lhi lsp1) H → va_D A (wC cy a key val ord j cq efi1 ela1 eco1 ene1 ldp1 dp1 dbl1 hlv spl1 mrg lfi1 lla1 lco1 lne1 lev1 ptr1 llo lhi lsp1) → va_S A s.heap H locs → ∀ ls : Array Slot, lv_has ls 5 [(0, .ref (a 0)), (1, .int (nI (cq))), (2, .int (nI (cp))), (3, .int (nI (tk))), (4, .int (nI (j)))] → W p l e ({ frames := 7, cells := 1, slots := 6, locals := 137 } : Room) s m args below meth c H locs (0 + 0) (0 + 0) (vx_MQ below (va_Qi (S := Nat × Nat × (Nat → Nat) × (Nat → Nat) × (Nat → Nat) × (Nat → Nat) × (Nat → Nat) × Nat × Int32 × Int32 × (Nat → Nat) × (Nat → Nat) × (Nat → Nat) × (Nat → Nat) × Nat × Nat × Int32) (fun r u => ∃ cq : Nat, 1 ≤ cq ∧ cq ≤ 5 ∧ cx = nI cq ∧ r = nI cp ∧ ∃ dep2 E2 L2, CR key val ord u.1 u.2.1 u.2.2.1 u.2.2.2.1 u.2.2.2.2.1 u.2.2.2.2.2.1 u.2.2.2.2.2.2.1 u.2.2.2.2.2.2.2.1 u.2.2.2.2.2.2.2.2.2.2.1 u.2.2.2.2.2.2.2.2.2.2.2.1 u.2.2.2.2.2.2.2.2.2.2.2.2.1 u.2.2.2.2.2.2.2.2.2.2.2.2.2.1 u.2.2.2.2.2.2.2.2.2.2.2.2.2.2.1 u.2.2.2.2.2.2.2.2.2.2.2.2.2.2.2.1 llo lhi dep2 E2 L2 ∧ mkA key val ord u.1 u.2.1 dep2 u.2.2.2.2.2.2.2.1 E2 u.2.2.2.2.2.2.2.2.1 hlv u.2.2.2.2.2.2.2.2.2.1 mrg L2 u.2.2.2.2.2.2.2.2.2.2.2.2.2.2.1 u.2.2.2.2.2.2.2.2.2.2.2.2.2.2.2.1 llo lhi u.2.2.2.2.2.2.2.2.2.2.2.2.2.2.2.2 = areb (mkA key val ord tk cp dep dp E dbl hlv spl mrg L lev ptr llo lhi lsp) cq) (tq_B D A (fun u => (wC cy a key val ord u.1 u.2.1 u.2.2.1 u.2.2.2.1 u.2.2.2.2.1 u.2.2.2.2.2.1 u.2.2.2.2.2.2.1 u.2.2.2.2.2.2.2.1 u.2.2.2.2.2.2.2.2.1 hlv u.2.2.2.2.2.2.2.2.2.1 mrg u.2.2.2.2.2.2.2.2.2.2.1 u.2.2.2.2.2.2.2.2.2.2.2.1 u.2.2.2.2.2.2.2.2.2.2.2.2.1 u.2.2.2.2.2.2.2.2.2.2.2.2.2.1 u.2.2.2.2.2.2.2.2.2.2.2.2.2.2.1 u.2.2.2.2.2.2.2.2.2.2.2.2.2.2.2.1 llo lhi u.2.2.2.2.2.2.2.2.2.2.2.2.2.2.2.2))) A) (tq_XC (fun E9 => E9 = "java/lang/IllegalArgumentException" ∧ ¬ ∃ cq : Nat, 1 ≤ cq ∧ cq ≤ 5 ∧ cx = nI cq)) args s 1 6 A) (F0 m 37 ls []) from
    hlp37 (tk + 1) 0 (fun _ => 0) ([]) ([]) efi2 ela2 eco2 ene (va_up ldp 0 0) 0 dbl spl lfi2 lla2 lco2 lne 0 0 lsp (by omega) (by omega) ((CR.cleared (dbl := dbl) (hlv := hlv) (spl := spl) (mrg := mrg) (lsp := lsp) (dep := dep) (E := E) (L := L) (dp := dp) (cp := cp) (lev := lev) (ptr := ptr) hSO ⟨hc1, hc2⟩ ⟨hlo, hh1, hh2⟩ hld rfl hr23.1 hr23.2).1) (rfl) _ _ hP hD hS _ (lv_sub hl [3, 4, 2, 1, 0] rfl)
  intro n37
  induction n37 with
  | zero => intro j dep1 E1 L1 efi1 ela1 eco1 ene1 ldp1 dp1 dbl1 spl1 lfi1 lla1 lco1 lne1 lev1 ptr1 lsp1 hf; exact absurd hf (Nat.not_lt_zero _)
  | succ n37 ih37 =>
    intro j dep1 E1 L1 efi1 ela1 eco1 ene1 ldp1 dp1 dbl1 spl1 lfi1 lla1 lco1 lne1 lev1 ptr1 lsp1 hf37 hj hC1 hA1 H locs hP hD hS ls hl
    refine lv_iload hx hb dX4_rebuild_37 (lv_at hl 4 rfl) ?_
    refine lv_iload_n hx hb dX4_rebuild_39 rfl (lv_at hl 3 rfl) ?_
    refine tq_icmp_ge (tgt := 60) C (by have := hSO.1; omega) (by have := hSO.1; omega) dX4_rebuild_40 (by decide) (fun h40 => ?_) (fun h40 => ?_)
    · have e9 : j = tk := by omega
      have hA9 : mkA key val ord j cq dep1 dp1 E1 dbl1 hlv spl1 mrg L1 lev1 ptr1 llo lhi lsp1 = areb (mkA key val ord tk cp dep dp E dbl hlv spl mrg L lev ptr llo lhi lsp) cq := by
        rw [hA1, e9, List.take_of_length_le (by rw [stl_len]; exact Nat.le_refl _)]; rfl
      refine lv_iload_n hx hb dX4_rebuild_60 rfl (lv_at hl 2 rfl) ?_
      exact tq_xiret (v := (nI (cp))) C rfl (j, cq, efi1, ela1, eco1, ene1, ldp1, dp1, dbl1, spl1, lfi1, lla1, lco1, lne1, lev1, ptr1, lsp1) hP hD hS (⟨cq, hc1, hc2, hcx, rfl, dep1, E1, L1, hC1, hA9⟩) (Nat.le_of_ble_eq_true rfl) (Nat.le_of_ble_eq_true rfl) dX4_rebuild_61
    · obtain ⟨kO, kc, kl, ⟨rX1, hX1⟩, ⟨rY1, hY1⟩, kE⟩ := id hC1
      have hej := hSO.2.1 j (by omega)
      have hnx := stl_next hSO h40
      refine lv_aload_n hx hb dX4_rebuild_43 rfl (lv_at hl 0 rfl) ?_
      refine lv_aload_n hx hb dX4_rebuild_44 rfl (lv_at hl 0 rfl) ?_
      refine tq_get (C0 := RX4) (T := TX4) (N := 3) (ci := 4) (k := 0) C gX4 inX4 rfl (by decide) rfl fl_X4_10 hK hP 0 rfl rfl dX4_rebuild_45 ?_
      refine tq_callI (W3 := fun u => (wC cy a key val ord (j + 1) cq efi1 ela1 eco1 ene1 ldp1 dp1 dbl1 hlv spl1 mrg lfi1 lla1 lco1 lne1 lev1 ptr1 llo lhi lsp1)) (wr := []) (va_runV C.fix (As := []) (rest := [.ref (a 0)]) ((c_X3_takeAgain l D cy a key val ord j cq efi1 ela1 eco1 ene1 ldp1 dp1 dbl1 hlv spl1 mrg lfi1 lla1 lco1 lne1 lev1 ptr1 llo lhi lsp1 (by omega)) H.size) (tq_cV (n := 0) C ml_X4_86 im_X3_takeAgain se_X3_takeAgain ini_X3 cd_X3_takeAgain ⟨by decide, by decide, by decide +kernel⟩ ⟨Nat.le_of_ble_eq_true rfl, Nat.le_of_ble_eq_true rfl⟩) ⟨tq_Pc.blind, va_recv hK hP (ci := 3) (q0 := 1) rfl rfl, tq_preC C hK hP hD⟩ rfl rfl hl.1 rfl (lv_room (Nat.le_of_ble_eq_true rfl)) dX4_rebuild_48 ⟨Nat.le_of_ble_eq_true rfl, Nat.le_of_ble_eq_true rfl⟩) hP hD hS hA [0, 1, 2, 3, 4, 5, 6, 7, 8, 9, 10, 11, 12, 13, 14, 15, 16, 17] [] [0, 1, 2, 3, 4, 5, 6, 7, 8, 9, 10, 11, 12, 13, 14, 15, 16, 17] rfl rfl (by decide) (by decide) (by decide) (fun _ => rfl) (fun r48 u48 H locs hr48 hP hD hS => ?_)
      have hP : va_P D vwCl (wC cy a key val ord (j + 1) cq efi1 ela1 eco1 ene1 ldp1 dp1 dbl1 hlv spl1 mrg lfi1 lla1 lco1 lne1 lev1 ptr1 llo lhi lsp1) H := hP
      have hD : va_D A (wC cy a key val ord (j + 1) cq efi1 ela1 eco1 ene1 ldp1 dp1 dbl1 hlv spl1 mrg lfi1 lla1 lco1 lne1 lev1 ptr1 llo lhi lsp1) := hD
      obtain rfl := hr48
      refine tq_callV (W3 := fun u => (wC cy a key val ord (j + 1) cq u.1 u.2.1 u.2.2.1 u.2.2.2.1 u.2.2.2.2.1 u.2.2.2.2.2.1 u.2.2.2.2.2.2.1 hlv u.2.2.2.2.2.2.2.1 mrg u.2.2.2.2.2.2.2.2.1 u.2.2.2.2.2.2.2.2.2.1 u.2.2.2.2.2.2.2.2.2.2.1 u.2.2.2.2.2.2.2.2.2.2.2.1 u.2.2.2.2.2.2.2.2.2.2.2.2.1 u.2.2.2.2.2.2.2.2.2.2.2.2.2.1 llo lhi u.2.2.2.2.2.2.2.2.2.2.2.2.2.2)) (wr := []) (va_runV C.fix (As := [.int (nI (ord j))]) (rest := []) ((c_X4_insertIntoBoth l D cy a key val ord (j + 1) cq efi1 ela1 eco1 ene1 ldp1 dp1 dbl1 hlv spl1 mrg lfi1 lla1 lco1 lne1 lev1 ptr1 llo lhi lsp1 (ord j) rX1 rY1 dep1 E1 L1 (US ord j) (US ord (j + 1)) hX1 hY1 hky hej.1 hej.2 (fun ⟨i, hi, e9⟩ => by have := hSO.2.2.1 _ _ (by omega) (by omega) e9; omega) (fun e9 ⟨i, hi, h9⟩ => ⟨i, by omega, h9⟩) (⟨j, by omega, rfl⟩) hc1 hc2 (by omega) hlo hh1 hh2) H.size) (tq_cV (n := 1) C ml_X4_63 im_X4_insertIntoBoth se_X4_insertIntoBoth ini_X4 cd_X4_insertIntoBoth ⟨by decide, by decide, by decide +kernel⟩ ⟨Nat.le_of_ble_eq_true rfl, Nat.le_of_ble_eq_true rfl⟩) ⟨tq_Pc.blind, va_recv hK hP (ci := 4) (q0 := 0) rfl rfl, tq_preC C hK hP hD⟩ rfl rfl hl.1 rfl (lv_room (Nat.le_of_ble_eq_true rfl)) dX4_rebuild_51 ⟨Nat.le_of_ble_eq_true rfl, Nat.le_of_ble_eq_true rfl⟩) hP hD hS hA [0, 1, 2, 3, 4, 5, 6, 7, 8, 9, 10, 11, 12, 13, 14, 15, 16, 17] [] [0, 1, 2, 3, 4, 5, 6, 7, 8, 9, 10, 11, 12, 13, 14, 15, 16, 17] rfl rfl (by decide) (by decide) (by decide) (fun _ => rfl) (fun u51 H locs hr51 hP hD hS => ?_)
      obtain ⟨efi3, ela3, eco3, ene3, ldp3, dp3, dbl3, spl3, lfi3, lla3, lco3, lne3, lev3, ptr3, lsp3⟩ := u51
      try dsimp only at hr51
      have hP : va_P D vwCl (wC cy a key val ord (j + 1) cq efi3 ela3 eco3 ene3 ldp3 dp3 dbl3 hlv spl3 mrg lfi3 lla3 lco3 lne3 lev3 ptr3 llo lhi lsp3) H := hP
      have hD : va_D A (wC cy a key val ord (j + 1) cq efi3 ela3 eco3 ene3 ldp3 dp3 dbl3 hlv spl3 mrg lfi3 lla3 lco3 lne3 lev3 ptr3 llo lhi lsp3) := hD
      obtain ⟨dep3, E3, L3, hC3, hA3⟩ := CR.added (hlv := hlv) (mrg := mrg) (v := val (ord j)) (hSO.mono (show j + 1 ≤ tk by omega)) hnx.1 rfl ⟨hc1, hc2⟩ ⟨hlo, hh1, hh2⟩ hr51.1 hr51.2.1 hr51.2.2.1 hr51.2.2.2 (fun i hi => (by
        rcases Nat.lt_or_eq_of_le (Nat.le_of_lt_succ hi) with z | rfl
        · exact ⟨List.mem_append_left _ (kE i z).1, List.mem_append_left _ (kE i z).2⟩
        · exact ⟨List.mem_append_right _ List.mem_cons_self, List.mem_append_right _ List.mem_cons_self⟩))
      refine lv_iinc (v := (nI (j + 1))) (lv' := [(4, .int (nI (j + 1))), (0, .ref (a 0)), (1, .int (nI (cq))), (2, .int (nI (cp))), (3, .int (nI (tk)))]) hx hb dX4_rebuild_54 hl (k := 4) rfl (tq_inc1 _) (by decide) rfl (fun ls hl => ?_)
      refine lv_goto (tgt := 37) hx hb dX4_rebuild_57 (by decide) ?_
      exact ih37 (j + 1) dep3 E3 L3 efi3 ela3 eco3 ene3 ldp3 dp3 dbl3 spl3 lfi3 lla3 lco3 lne3 lev3 ptr3 lsp3 (by omega) (by omega) (hC3) (by rw [hA3, hnx.2, List.foldl_append, hA1]; rfl) _ _ hP hD hS _ (lv_sub hl [1, 2, 3, 4, 0] rfl)
