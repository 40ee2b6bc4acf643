def wM (cy : ClassId) (bb : Nat → Nat) (sto : Nat → Nat) (vas : Nat → Nat) (sz : Nat) (cap : Nat) (low : Nat) (hig : Nat) (dpt : Nat → Nat) (glo : Nat) (ext : Nat → Nat) (mdb : Int32) (mhl : Int32) (msp : Int32) (mmg : Int32) (lin : Nat → Nat) (mlv : Nat) (mpt : Nat) (mls : Int32) (mov : Nat → Nat) (thr : Nat) : va_W := [
  (bb 0, .inr (5, [.ref (bb 1), .ref (bb 2), .int (nI (sz)), .int (nI (cap)), .int (nI (low)), .int (nI (hig)), .ref (bb 3), .int (nI (glo)), .ref (bb 4), .int (mdb), .int (mhl), .int (msp), .int (mmg), .ref (bb 5), .int (nI (mlv)), .int (nI (mpt)), .int (mls), .ref (bb 6), .int (nI (thr))])),
  (bb 1, .inl (cy, 120, .inl (fun j => nI (sto j)))),
  (bb 2, .inl (cy, 120, .inl (fun j => nI (vas j)))),
  (bb 3, .inl (cy, 256, .inl (fun j => nI (dpt j)))),
  (bb 4, .inl (cy, 120, .inl (fun j => nI (ext j)))),
  (bb 5, .inl (cy, 120, .inl (fun j => nI (lin j)))),
  (bb 6, .inl (cy, 120, .inl (fun j => nI (mov j))))]

/-- an array holds a list -/
def AL (f : Nat → Nat) (E : List Nat) : Prop := ∀ i, i < E.length → f i = E.getD i 0
theorem AL_nil {f : Nat → Nat} : AL f [] := fun i h => absurd h (Nat.not_lt_zero _)
theorem getD_right {P : List Nat} {x i : Nat} (h : i = P.length) : (P ++ [x]).getD i 0 = x := by subst h; simp
theorem AL_push {f : Nat → Nat} {E : List Nat} {n x : Nat} (h : AL f E) (hn : n = E.length) : AL (va_up f n x) (E ++ [x]) := by
  intro i hi
  rw [List.length_append, List.length_singleton] at hi
  by_cases z : i = n
  · rw [z, up_s, getD_right hn]
  · rw [up_n _ _ z, getD_left (by omega)]; exact h i (by omega)
theorem AL_up {f : Nat → Nat} {E : List Nat} {n x : Nat} (h : AL f E) (hn : E.length ≤ n) : AL (va_up f n x) E := fun i hi => by
  rw [up_n _ _ (by omega)]; exact h i hi
theorem bd_up {f : Nat → Nat} {b n x : Nat} (h : ∀ i, f i < b) (hx : x < b) : ∀ i, va_up f n x i < b := fun i => by
  by_cases z : i = n
  · rw [z, up_s]; exact hx
  · rw [up_n _ _ z]; exact h i
theorem filter_take {E : List Nat} {p : Nat → Bool} {i : Nat} (h : i < E.length) : (E.take (i + 1)).filter p = if p (E.getD i 0) = true then (E.take i).filter p ++ [E.getD i 0] else (E.take i).filter p := by
  rw [take_succD h, List.filter_append]
  cases z : p (E.getD i 0)
  · rw [if_neg (by decide), List.filter_cons_of_neg (by rw [z]; decide)]
    exact List.append_nil _
  · rw [if_pos rfl, List.filter_cons_of_pos z]
    rfl
theorem flen {E : List Nat} {p : Nat → Bool} {i : Nat} : ((E.take i).filter p).length ≤ i := Nat.le_trans (List.length_filter_le _ _) (by rw [List.length_take]; exact Nat.min_le_left _ _)
theorem flen2 {E : List Nat} {p : Nat → Bool} : (E.filter (fun k => !p k)).length + (E.filter p).length = E.length := by
  induction E with
  | nil => rfl
  | cons a E ih =>
    cases z : p a <;> simp [z] <;> omega
theorem xor_zero {a b n : Nat} : (a ^^^ b) % 2 ^ n = 0 ↔ a % 2 ^ n = b % 2 ^ n := by
  rw [Nat.xor_mod_two_pow]
  constructor
  · intro h
    have h2 := congrArg (· ^^^ (b % 2 ^ n)) h
    simp only [Nat.xor_assoc, Nat.xor_self, Nat.xor_zero, Nat.zero_xor] at h2
    exact h2
  · intro h
    rw [h, Nat.xor_self]
theorem cnt_take {E : List Nat} {x b i : Nat} (h : i < E.length) : cntB (E.take (i + 1)) x b = cntB (E.take i) x b + if hs (E.getD i 0) % 2 ^ b = x % 2 ^ b then 1 else 0 := by
  unfold cntB
  rw [filter_take h]
  by_cases z : hs (E.getD i 0) % 2 ^ b = x % 2 ^ b
  · rw [if_pos z, if_pos (by simpa using z)]; simp
  · rw [if_neg z, if_neg (by simpa using z)]; rfl
theorem mvB_len {E : List Nat} {p b : Nat} : (mvB E p b).length = E.length := by
  unfold mvB
  rw [List.length_append]
  exact flen2
theorem mvL_len {L : List Nat} {v p r : Nat} : (mvL L v p r).length = L.length := by
  unfold mvL
  rw [List.length_append]
  exact flen2
theorem pstep_ok {x : Nat} {X : (Nat → Nat) × Nat × Int32 × Int32} (h : XOK X.1 X.2.1) (hx : x < 256) (h8 : X.1 x < 8) : XOK (pstep x X).1 (pstep x X).2.1 := by
  have hle := h.2.1 x hx
  have hg := h.1
  unfold pstep
  dsimp only
  by_cases z : X.1 x = X.2.1
  · rw [if_pos z]
    exact deepen_ok (h.up (by omega) (by omega)) hx (by omega)
  · rw [if_neg z]
    exact deepen_ok h hx (by omega)
theorem mstep_ok {cap x g : Nat} {X : (Nat → Nat) × List Nat × Int32} (h : XOK X.1 g) (hx : x < 256) (hm : mcond cap x X = true) : XOK (mstep x X).1 g := by
  have hm2 := mcond_iff.mp hm
  have hle := h.2.1 x hx
  have hg := h.1
  obtain ⟨c, hc⟩ : ∃ c, X.1 x = c + 1 := ⟨X.1 x - 1, by omega⟩
  rw [hc, Nat.add_sub_cancel] at hm2
  obtain ⟨y0, y1, a0, a1, b0, b1, c0, c1⟩ := two_of hx (by omega) hc hm2.2.1
  unfold mstep
  dsimp only
  rw [hc, Nat.add_sub_cancel]
  exact deepen_back h a0 a1 b0 b1 c0 c1

theorem dX5_in_0 : decode cX5_in 0 = .ok (.iload_n 0, 1) := by decide +kernel
theorem dX5_in_1 : decode cX5_in 1 = .ok (.iload_n 1, 1) := by decide +kernel
theorem dX5_in_2 : decode cX5_in 2 = .ok (.if_icmp .lt 12, 3) := by decide +kernel
theorem dX5_in_5 : decode cX5_in 5 = .ok (.iload_n 0, 1) := by decide +kernel
theorem dX5_in_6 : decode cX5_in 6 = .ok (.iload_n 2, 1) := by decide +kernel
theorem dX5_in_7 : decode cX5_in 7 = .ok (.if_icmp .gt 7, 3) := by decide +kernel
theorem dX5_in_10 : decode cX5_in 10 = .ok (.iconst 1, 1) := by decide +kernel
theorem dX5_in_11 : decode cX5_in 11 = .ok (.goto 4, 3) := by decide +kernel
theorem dX5_in_14 : decode cX5_in 14 = .ok (.iconst 0, 1) := by decide +kernel
theorem dX5_in_15 : decode cX5_in 15 = .ok (.ireturn, 1) := by decide +kernel
theorem dX5_asked_0 : decode cX5_asked 0 = .ok (.aload_n 0, 1) := by decide +kernel
theorem dX5_asked_1 : decode cX5_asked 1 = .ok (.iload_n 1, 1) := by decide +kernel
theorem dX5_asked_2 : decode cX5_asked 2 = .ok (.ifCond .eq 7, 3) := by decide +kernel
theorem dX5_asked_5 : decode cX5_asked 5 = .ok (.iconst 0, 1) := by decide +kernel
theorem dX5_asked_6 : decode cX5_asked 6 = .ok (.goto 4, 3) := by decide +kernel
theorem dX5_asked_9 : decode cX5_asked 9 = .ok (.iconst 1, 1) := by decide +kernel
theorem dX5_asked_10 : decode cX5_asked 10 = .ok (.putfield 38, 3) := by decide +kernel
theorem dX5_asked_13 : decode cX5_asked 13 = .ok (.iload_n 1, 1) := by decide +kernel
theorem dX5_asked_14 : decode cX5_asked 14 = .ok (.ireturn, 1) := by decide +kernel
theorem dX5_told_0 : decode cX5_told 0 = .ok (.aload_n 0, 1) := by decide +kernel
theorem dX5_told_1 : decode cX5_told 1 = .ok (.iconst 0, 1) := by decide +kernel
theorem dX5_told_2 : decode cX5_told 2 = .ok (.putfield 38, 3) := by decide +kernel
theorem dX5_told_5 : decode cX5_told 5 = .ok (.iload_n 1, 1) := by decide +kernel
theorem dX5_told_6 : decode cX5_told 6 = .ok (.ireturn, 1) := by decide +kernel
theorem dX5_isKey_0 : decode cX5_isKey 0 = .ok (.aload_n 0, 1) := by decide +kernel
theorem dX5_isKey_1 : decode cX5_isKey 1 = .ok (.iload_n 1, 1) := by decide +kernel
theorem dX5_isKey_2 : decode cX5_isKey 2 = .ok (.iconst 0, 1) := by decide +kernel
theorem dX5_isKey_3 : decode cX5_isKey 3 = .ok (.ldc 41, 2) := by decide +kernel
theorem dX5_isKey_5 : decode cX5_isKey 5 = .ok (.invokestatic 42, 3) := by decide +kernel
theorem dX5_isKey_8 : decode cX5_isKey 8 = .ok (.invokevirtual 46, 3) := by decide +kernel
theorem dX5_isKey_11 : decode cX5_isKey 11 = .ok (.ireturn, 1) := by decide +kernel
theorem dX5_hash_0 : decode cX5_hash 0 = .ok (.iload_n 0, 1) := by decide +kernel
theorem dX5_hash_1 : decode cX5_hash 1 = .ok (.ldc 50, 2) := by decide +kernel
theorem dX5_hash_3 : decode cX5_hash 3 = .ok (.imul, 1) := by decide +kernel
theorem dX5_hash_4 : decode cX5_hash 4 = .ok (.ldc 41, 2) := by decide +kernel
theorem dX5_hash_6 : decode cX5_hash 6 = .ok (.iand, 1) := by decide +kernel
theorem dX5_hash_7 : decode cX5_hash 7 = .ok (.ireturn, 1) := by decide +kernel
theorem dX5_lowest_0 : decode cX5_lowest 0 = .ok (.iload_n 0, 1) := by decide +kernel
theorem dX5_lowest_1 : decode cX5_lowest 1 = .ok (.iconst 1, 1) := by decide +kernel
theorem dX5_lowest_2 : decode cX5_lowest 2 = .ok (.iload_n 1, 1) := by decide +kernel
theorem dX5_lowest_3 : decode cX5_lowest 3 = .ok (.ishl, 1) := by decide +kernel
theorem dX5_lowest_4 : decode cX5_lowest 4 = .ok (.iconst 1, 1) := by decide +kernel
theorem dX5_lowest_5 : decode cX5_lowest 5 = .ok (.isub, 1) := by decide +kernel
theorem dX5_lowest_6 : decode cX5_lowest 6 = .ok (.iand, 1) := by decide +kernel
theorem dX5_lowest_7 : decode cX5_lowest 7 = .ok (.ireturn, 1) := by decide +kernel
theorem dX5_found_0 : decode cX5_found 0 = .ok (.iconst (-1), 1) := by decide +kernel
theorem dX5_found_1 : decode cX5_found 1 = .ok (.istore_n 2, 1) := by decide +kernel
theorem dX5_found_2 : decode cX5_found 2 = .ok (.iconst 0, 1) := by decide +kernel
theorem dX5_found_3 : decode cX5_found 3 = .ok (.istore_n 3, 1) := by decide +kernel
theorem dX5_found_4 : decode cX5_found 4 = .ok (.iload_n 3, 1) := by decide +kernel
theorem dX5_found_5 : decode cX5_found 5 = .ok (.aload_n 0, 1) := by decide +kernel
theorem dX5_found_6 : decode cX5_found 6 = .ok (.getfield 51, 3) := by decide +kernel
theorem dX5_found_9 : decode cX5_found 9 = .ok (.if_icmp .ge 25, 3) := by decide +kernel
theorem dX5_found_12 : decode cX5_found 12 = .ok (.aload_n 0, 1) := by decide +kernel
theorem dX5_found_13 : decode cX5_found 13 = .ok (.getfield 7, 3) := by decide +kernel
theorem dX5_found_16 : decode cX5_found 16 = .ok (.iload_n 3, 1) := by decide +kernel
theorem dX5_found_17 : decode cX5_found 17 = .ok (.iaload, 1) := by decide +kernel
theorem dX5_found_18 : decode cX5_found 18 = .ok (.iload_n 1, 1) := by decide +kernel
theorem dX5_found_19 : decode cX5_found 19 = .ok (.if_icmp .ne 7, 3) := by decide +kernel
theorem dX5_found_22 : decode cX5_found 22 = .ok (.iload_n 3, 1) := by decide +kernel
theorem dX5_found_23 : decode cX5_found 23 = .ok (.goto 4, 3) := by decide +kernel
theorem dX5_found_26 : decode cX5_found 26 = .ok (.iload_n 2, 1) := by decide +kernel
theorem dX5_found_27 : decode cX5_found 27 = .ok (.istore_n 2, 1) := by decide +kernel
theorem dX5_found_28 : decode cX5_found 28 = .ok (.iinc 3 1, 3) := by decide +kernel
theorem dX5_found_31 : decode cX5_found 31 = .ok (.goto (-27), 3) := by decide +kernel
theorem dX5_found_34 : decode cX5_found 34 = .ok (.iload_n 2, 1) := by decide +kernel
theorem dX5_found_35 : decode cX5_found 35 = .ok (.ireturn, 1) := by decide +kernel
theorem dX5_drops_0 : decode cX5_drops 0 = .ok (.iconst 0, 1) := by decide +kernel
theorem dX5_drops_1 : decode cX5_drops 1 = .ok (.istore_n 3, 1) := by decide +kernel
theorem dX5_drops_2 : decode cX5_drops 2 = .ok (.iconst 0, 1) := by decide +kernel
theorem dX5_drops_3 : decode cX5_drops 3 = .ok (.istore 4, 2) := by decide +kernel
theorem dX5_drops_5 : decode cX5_drops 5 = .ok (.iload 4, 2) := by decide +kernel
theorem dX5_drops_7 : decode cX5_drops 7 = .ok (.iload_n 1, 1) := by decide +kernel
theorem dX5_drops_8 : decode cX5_drops 8 = .ok (.if_icmp .ge 32, 3) := by decide +kernel
theorem dX5_drops_11 : decode cX5_drops 11 = .ok (.aload_n 0, 1) := by decide +kernel
theorem dX5_drops_12 : decode cX5_drops 12 = .ok (.iload_n 3, 1) := by decide +kernel
theorem dX5_drops_13 : decode cX5_drops 13 = .ok (.aload_n 0, 1) := by decide +kernel
theorem dX5_drops_14 : decode cX5_drops 14 = .ok (.iload 4, 2) := by decide +kernel
theorem dX5_drops_16 : decode cX5_drops 16 = .ok (.iaload, 1) := by decide +kernel
theorem dX5_drops_17 : decode cX5_drops 17 = .ok (.iastore, 1) := by decide +kernel
theorem dX5_drops_18 : decode cX5_drops 18 = .ok (.iload_n 3, 1) := by decide +kernel
theorem dX5_drops_19 : decode cX5_drops 19 = .ok (.aload_n 0, 1) := by decide +kernel
theorem dX5_drops_20 : decode cX5_drops 20 = .ok (.iload 4, 2) := by decide +kernel
theorem dX5_drops_22 : decode cX5_drops 22 = .ok (.iaload, 1) := by decide +kernel
theorem dX5_drops_23 : decode cX5_drops 23 = .ok (.iload_n 2, 1) := by decide +kernel
theorem dX5_drops_24 : decode cX5_drops 24 = .ok (.if_icmp .ne 7, 3) := by decide +kernel
theorem dX5_drops_27 : decode cX5_drops 27 = .ok (.iconst 0, 1) := by decide +kernel
theorem dX5_drops_28 : decode cX5_drops 28 = .ok (.goto 4, 3) := by decide +kernel
theorem dX5_drops_31 : decode cX5_drops 31 = .ok (.iconst 1, 1) := by decide +kernel
theorem dX5_drops_32 : decode cX5_drops 32 = .ok (.iadd, 1) := by decide +kernel
theorem dX5_drops_33 : decode cX5_drops 33 = .ok (.istore_n 3, 1) := by decide +kernel
theorem dX5_drops_34 : decode cX5_drops 34 = .ok (.iinc 4 1, 3) := by decide +kernel
theorem dX5_drops_37 : decode cX5_drops 37 = .ok (.goto (-32), 3) := by decide +kernel
theorem dX5_drops_40 : decode cX5_drops 40 = .ok (.return_, 1) := by decide +kernel
theorem dX5_belongs_0 : decode cX5_belongs 0 = .ok (.iload_n 0, 1) := by decide +kernel
theorem dX5_belongs_1 : decode cX5_belongs 1 = .ok (.invokestatic 54, 3) := by decide +kernel
theorem dX5_belongs_4 : decode cX5_belongs 4 = .ok (.iload_n 1, 1) := by decide +kernel
theorem dX5_belongs_5 : decode cX5_belongs 5 = .ok (.ixor, 1) := by decide +kernel
theorem dX5_belongs_6 : decode cX5_belongs 6 = .ok (.iload_n 2, 1) := by decide +kernel
theorem dX5_belongs_7 : decode cX5_belongs 7 = .ok (.invokestatic 58, 3) := by decide +kernel
theorem dX5_belongs_10 : decode cX5_belongs 10 = .ok (.ifCond .ne 7, 3) := by decide +kernel
theorem dX5_belongs_13 : decode cX5_belongs 13 = .ok (.iconst 1, 1) := by decide +kernel
theorem dX5_belongs_14 : decode cX5_belongs 14 = .ok (.goto 4, 3) := by decide +kernel
theorem dX5_belongs_17 : decode cX5_belongs 17 = .ok (.iconst 0, 1) := by decide +kernel
theorem dX5_belongs_18 : decode cX5_belongs 18 = .ok (.ireturn, 1) := by decide +kernel
theorem dX5_inBucket_0 : decode cX5_inBucket 0 = .ok (.iconst 0, 1) := by decide +kernel
theorem dX5_inBucket_1 : decode cX5_inBucket 1 = .ok (.istore_n 3, 1) := by decide +kernel
theorem dX5_inBucket_2 : decode cX5_inBucket 2 = .ok (.iconst 0, 1) := by decide +kernel
theorem dX5_inBucket_3 : decode cX5_inBucket 3 = .ok (.istore 4, 2) := by decide +kernel
theorem dX5_inBucket_5 : decode cX5_inBucket 5 = .ok (.iload 4, 2) := by decide +kernel
theorem dX5_inBucket_7 : decode cX5_inBucket 7 = .ok (.aload_n 0, 1) := by decide +kernel
theorem dX5_inBucket_8 : decode cX5_inBucket 8 = .ok (.getfield 51, 3) := by decide +kernel
theorem dX5_inBucket_11 : decode cX5_inBucket 11 = .ok (.if_icmp .ge 32, 3) := by decide +kernel
theorem dX5_inBucket_14 : decode cX5_inBucket 14 = .ok (.iload_n 3, 1) := by decide +kernel
theorem dX5_inBucket_15 : decode cX5_inBucket 15 = .ok (.aload_n 0, 1) := by decide +kernel
theorem dX5_inBucket_16 : decode cX5_inBucket 16 = .ok (.getfield 29, 3) := by decide +kernel
theorem dX5_inBucket_19 : decode cX5_inBucket 19 = .ok (.iload 4, 2) := by decide +kernel
theorem dX5_inBucket_21 : decode cX5_inBucket 21 = .ok (.iaload, 1) := by decide +kernel
theorem dX5_inBucket_22 : decode cX5_inBucket 22 = .ok (.iload_n 1, 1) := by decide +kernel
theorem dX5_inBucket_23 : decode cX5_inBucket 23 = .ok (.iload_n 2, 1) := by decide +kernel
theorem dX5_inBucket_24 : decode cX5_inBucket 24 = .ok (.invokestatic 62, 3) := by decide +kernel
theorem dX5_inBucket_27 : decode cX5_inBucket 27 = .ok (.ifCond .eq 7, 3) := by decide +kernel
theorem dX5_inBucket_30 : decode cX5_inBucket 30 = .ok (.iconst 1, 1) := by decide +kernel
theorem dX5_inBucket_31 : decode cX5_inBucket 31 = .ok (.goto 4, 3) := by decide +kernel
theorem dX5_inBucket_34 : decode cX5_inBucket 34 = .ok (.iconst 0, 1) := by decide +kernel
theorem dX5_inBucket_35 : decode cX5_inBucket 35 = .ok (.iadd, 1) := by decide +kernel
theorem dX5_inBucket_36 : decode cX5_inBucket 36 = .ok (.istore_n 3, 1) := by decide +kernel
theorem dX5_inBucket_37 : decode cX5_inBucket 37 = .ok (.iinc 4 1, 3) := by decide +kernel
theorem dX5_inBucket_40 : decode cX5_inBucket 40 = .ok (.goto (-35), 3) := by decide +kernel
theorem dX5_inBucket_43 : decode cX5_inBucket 43 = .ok (.iload_n 3, 1) := by decide +kernel
theorem dX5_inBucket_44 : decode cX5_inBucket 44 = .ok (.ireturn, 1) := by decide +kernel
theorem dX5_deepens_0 : decode cX5_deepens 0 = .ok (.iconst 0, 1) := by decide +kernel
theorem dX5_deepens_1 : decode cX5_deepens 1 = .ok (.istore 4, 2) := by decide +kernel
theorem dX5_deepens_3 : decode cX5_deepens 3 = .ok (.iload 4, 2) := by decide +kernel
theorem dX5_deepens_5 : decode cX5_deepens 5 = .ok (.sipush 256, 3) := by decide +kernel
theorem dX5_deepens_8 : decode cX5_deepens 8 = .ok (.if_icmp .ge 38, 3) := by decide +kernel
theorem dX5_deepens_11 : decode cX5_deepens 11 = .ok (.aload_n 0, 1) := by decide +kernel
theorem dX5_deepens_12 : decode cX5_deepens 12 = .ok (.getfield 26, 3) := by decide +kernel
theorem dX5_deepens_15 : decode cX5_deepens 15 = .ok (.iload 4, 2) := by decide +kernel
theorem dX5_deepens_17 : decode cX5_deepens 17 = .ok (.iload 4, 2) := by decide +kernel
theorem dX5_deepens_19 : decode cX5_deepens 19 = .ok (.iload_n 1, 1) := by decide +kernel
theorem dX5_deepens_20 : decode cX5_deepens 20 = .ok (.ixor, 1) := by decide +kernel
theorem dX5_deepens_21 : decode cX5_deepens 21 = .ok (.iload_n 2, 1) := by decide +kernel
theorem dX5_deepens_22 : decode cX5_deepens 22 = .ok (.invokestatic 58, 3) := by decide +kernel
theorem dX5_deepens_25 : decode cX5_deepens 25 = .ok (.ifCond .ne 7, 3) := by decide +kernel
theorem dX5_deepens_28 : decode cX5_deepens 28 = .ok (.iload_n 3, 1) := by decide +kernel
theorem dX5_deepens_29 : decode cX5_deepens 29 = .ok (.goto 10, 3) := by decide +kernel
theorem dX5_deepens_32 : decode cX5_deepens 32 = .ok (.aload_n 0, 1) := by decide +kernel
theorem dX5_deepens_33 : decode cX5_deepens 33 = .ok (.getfield 26, 3) := by decide +kernel
theorem dX5_deepens_36 : decode cX5_deepens 36 = .ok (.iload 4, 2) := by decide +kernel
theorem dX5_deepens_38 : decode cX5_deepens 38 = .ok (.iaload, 1) := by decide +kernel
theorem dX5_deepens_39 : decode cX5_deepens 39 = .ok (.iastore, 1) := by decide +kernel
theorem dX5_deepens_40 : decode cX5_deepens 40 = .ok (.iinc 4 1, 3) := by decide +kernel
theorem dX5_deepens_43 : decode cX5_deepens 43 = .ok (.goto (-40), 3) := by decide +kernel
theorem dX5_deepens_46 : decode cX5_deepens 46 = .ok (.return_, 1) := by decide +kernel
theorem dX5_puts_0 : decode cX5_puts 0 = .ok (.iload_n 1, 1) := by decide +kernel
theorem dX5_puts_1 : decode cX5_puts 1 = .ok (.invokestatic 54, 3) := by decide +kernel
theorem dX5_puts_4 : decode cX5_puts 4 = .ok (.sipush 255, 3) := by decide +kernel
theorem dX5_puts_7 : decode cX5_puts 7 = .ok (.iand, 1) := by decide +kernel
theorem dX5_puts_8 : decode cX5_puts 8 = .ok (.istore_n 2, 1) := by decide +kernel
theorem dX5_puts_9 : decode cX5_puts 9 = .ok (.aload_n 0, 1) := by decide +kernel
theorem dX5_puts_10 : decode cX5_puts 10 = .ok (.getfield 26, 3) := by decide +kernel
theorem dX5_puts_13 : decode cX5_puts 13 = .ok (.iload_n 2, 1) := by decide +kernel
theorem dX5_puts_14 : decode cX5_puts 14 = .ok (.iaload, 1) := by decide +kernel
theorem dX5_puts_15 : decode cX5_puts 15 = .ok (.bipush 8, 2) := by decide +kernel
theorem dX5_puts_17 : decode cX5_puts 17 = .ok (.if_icmp .ge 78, 3) := by decide +kernel
theorem dX5_puts_20 : decode cX5_puts 20 = .ok (.aload_n 0, 1) := by decide +kernel
theorem dX5_puts_21 : decode cX5_puts 21 = .ok (.iload_n 2, 1) := by decide +kernel
theorem dX5_puts_22 : decode cX5_puts 22 = .ok (.aload_n 0, 1) := by decide +kernel
theorem dX5_puts_23 : decode cX5_puts 23 = .ok (.getfield 26, 3) := by decide +kernel
theorem dX5_puts_26 : decode cX5_puts 26 = .ok (.iload_n 2, 1) := by decide +kernel
theorem dX5_puts_27 : decode cX5_puts 27 = .ok (.iaload, 1) := by decide +kernel
theorem dX5_puts_28 : decode cX5_puts 28 = .ok (.invokevirtual 65, 3) := by decide +kernel
theorem dX5_puts_31 : decode cX5_puts 31 = .ok (.aload_n 0, 1) := by decide +kernel
theorem dX5_puts_32 : decode cX5_puts 32 = .ok (.getfield 16, 3) := by decide +kernel
theorem dX5_puts_35 : decode cX5_puts 35 = .ok (.if_icmp .lt 60, 3) := by decide +kernel
theorem dX5_puts_38 : decode cX5_puts 38 = .ok (.aload_n 0, 1) := by decide +kernel
theorem dX5_puts_39 : decode cX5_puts 39 = .ok (.getfield 26, 3) := by decide +kernel
theorem dX5_puts_42 : decode cX5_puts 42 = .ok (.iload_n 2, 1) := by decide +kernel
theorem dX5_puts_43 : decode cX5_puts 43 = .ok (.iaload, 1) := by decide +kernel
theorem dX5_puts_44 : decode cX5_puts 44 = .ok (.istore_n 3, 1) := by decide +kernel
theorem dX5_puts_45 : decode cX5_puts 45 = .ok (.iload_n 3, 1) := by decide +kernel
theorem dX5_puts_46 : decode cX5_puts 46 = .ok (.aload_n 0, 1) := by decide +kernel
theorem dX5_puts_47 : decode cX5_puts 47 = .ok (.getfield 68, 3) := by decide +kernel
theorem dX5_puts_50 : decode cX5_puts 50 = .ok (.if_icmp .ne 23, 3) := by decide +kernel
theorem dX5_puts_53 : decode cX5_puts 53 = .ok (.aload_n 0, 1) := by decide +kernel
theorem dX5_puts_54 : decode cX5_puts 54 = .ok (.dup, 1) := by decide +kernel
theorem dX5_puts_55 : decode cX5_puts 55 = .ok (.getfield 68, 3) := by decide +kernel
theorem dX5_puts_58 : decode cX5_puts 58 = .ok (.iconst 1, 1) := by decide +kernel
theorem dX5_puts_59 : decode cX5_puts 59 = .ok (.iadd, 1) := by decide +kernel
theorem dX5_puts_60 : decode cX5_puts 60 = .ok (.putfield 68, 3) := by decide +kernel
theorem dX5_puts_63 : decode cX5_puts 63 = .ok (.aload_n 0, 1) := by decide +kernel
theorem dX5_puts_64 : decode cX5_puts 64 = .ok (.dup, 1) := by decide +kernel
theorem dX5_puts_65 : decode cX5_puts 65 = .ok (.getfield 71, 3) := by decide +kernel
theorem dX5_puts_68 : decode cX5_puts 68 = .ok (.iconst 1, 1) := by decide +kernel
theorem dX5_puts_69 : decode cX5_puts 69 = .ok (.iadd, 1) := by decide +kernel
theorem dX5_puts_70 : decode cX5_puts 70 = .ok (.putfield 71, 3) := by decide +kernel
theorem dX5_puts_73 : decode cX5_puts 73 = .ok (.aload_n 0, 1) := by decide +kernel
theorem dX5_puts_74 : decode cX5_puts 74 = .ok (.iload_n 2, 1) := by decide +kernel
theorem dX5_puts_75 : decode cX5_puts 75 = .ok (.iload_n 3, 1) := by decide +kernel
theorem dX5_puts_76 : decode cX5_puts 76 = .ok (.iload_n 3, 1) := by decide +kernel
theorem dX5_puts_77 : decode cX5_puts 77 = .ok (.iconst 1, 1) := by decide +kernel
theorem dX5_puts_78 : decode cX5_puts 78 = .ok (.iadd, 1) := by decide +kernel
theorem dX5_puts_79 : decode cX5_puts 79 = .ok (.invokevirtual 74, 3) := by decide +kernel
theorem dX5_puts_82 : decode cX5_puts 82 = .ok (.aload_n 0, 1) := by decide +kernel
theorem dX5_puts_83 : decode cX5_puts 83 = .ok (.dup, 1) := by decide +kernel
theorem dX5_puts_84 : decode cX5_puts 84 = .ok (.getfield 78, 3) := by decide +kernel
theorem dX5_puts_87 : decode cX5_puts 87 = .ok (.iconst 1, 1) := by decide +kernel
theorem dX5_puts_88 : decode cX5_puts 88 = .ok (.iadd, 1) := by decide +kernel
theorem dX5_puts_89 : decode cX5_puts 89 = .ok (.putfield 78, 3) := by decide +kernel
theorem dX5_puts_92 : decode cX5_puts 92 = .ok (.goto (-83), 3) := by decide +kernel
theorem dX5_puts_95 : decode cX5_puts 95 = .ok (.aload_n 0, 1) := by decide +kernel
theorem dX5_puts_96 : decode cX5_puts 96 = .ok (.getfield 29, 3) := by decide +kernel
theorem dX5_puts_99 : decode cX5_puts 99 = .ok (.aload_n 0, 1) := by decide +kernel
theorem dX5_puts_100 : decode cX5_puts 100 = .ok (.getfield 51, 3) := by decide +kernel
theorem dX5_puts_103 : decode cX5_puts 103 = .ok (.iload_n 1, 1) := by decide +kernel
theorem dX5_puts_104 : decode cX5_puts 104 = .ok (.iastore, 1) := by decide +kernel
theorem dX5_puts_105 : decode cX5_puts 105 = .ok (.return_, 1) := by decide +kernel
theorem dX5_movesBehind_0 : decode cX5_movesBehind 0 = .ok (.iconst 0, 1) := by decide +kernel
theorem dX5_movesBehind_1 : decode cX5_movesBehind 1 = .ok (.istore_n 3, 1) := by decide +kernel
theorem dX5_movesBehind_2 : decode cX5_movesBehind 2 = .ok (.iconst 0, 1) := by decide +kernel
theorem dX5_movesBehind_3 : decode cX5_movesBehind 3 = .ok (.istore 4, 2) := by decide +kernel
theorem dX5_movesBehind_5 : decode cX5_movesBehind 5 = .ok (.iconst 0, 1) := by decide +kernel
theorem dX5_movesBehind_6 : decode cX5_movesBehind 6 = .ok (.istore 5, 2) := by decide +kernel
theorem dX5_movesBehind_8 : decode cX5_movesBehind 8 = .ok (.iload 5, 2) := by decide +kernel
theorem dX5_movesBehind_10 : decode cX5_movesBehind 10 = .ok (.aload_n 0, 1) := by decide +kernel
theorem dX5_movesBehind_11 : decode cX5_movesBehind 11 = .ok (.getfield 51, 3) := by decide +kernel
theorem dX5_movesBehind_14 : decode cX5_movesBehind 14 = .ok (.if_icmp .ge 54, 3) := by decide +kernel
theorem dX5_movesBehind_17 : decode cX5_movesBehind 17 = .ok (.aload_n 0, 1) := by decide +kernel
theorem dX5_movesBehind_18 : decode cX5_movesBehind 18 = .ok (.getfield 29, 3) := by decide +kernel
theorem dX5_movesBehind_21 : decode cX5_movesBehind 21 = .ok (.iload 5, 2) := by decide +kernel
theorem dX5_movesBehind_23 : decode cX5_movesBehind 23 = .ok (.iaload, 1) := by decide +kernel
theorem dX5_movesBehind_24 : decode cX5_movesBehind 24 = .ok (.istore 6, 2) := by decide +kernel
theorem dX5_movesBehind_26 : decode cX5_movesBehind 26 = .ok (.iload 6, 2) := by decide +kernel
theorem dX5_movesBehind_28 : decode cX5_movesBehind 28 = .ok (.iload_n 1, 1) := by decide +kernel
theorem dX5_movesBehind_29 : decode cX5_movesBehind 29 = .ok (.iload_n 2, 1) := by decide +kernel
theorem dX5_movesBehind_30 : decode cX5_movesBehind 30 = .ok (.invokestatic 62, 3) := by decide +kernel
theorem dX5_movesBehind_33 : decode cX5_movesBehind 33 = .ok (.ifCond .eq 18, 3) := by decide +kernel
theorem dX5_movesBehind_36 : decode cX5_movesBehind 36 = .ok (.aload_n 0, 1) := by decide +kernel
theorem dX5_movesBehind_37 : decode cX5_movesBehind 37 = .ok (.getfield 35, 3) := by decide +kernel
theorem dX5_movesBehind_40 : decode cX5_movesBehind 40 = .ok (.iload 4, 2) := by decide +kernel
theorem dX5_movesBehind_42 : decode cX5_movesBehind 42 = .ok (.iload 6, 2) := by decide +kernel
theorem dX5_movesBehind_44 : decode cX5_movesBehind 44 = .ok (.iastore, 1) := by decide +kernel
theorem dX5_movesBehind_45 : decode cX5_movesBehind 45 = .ok (.iinc 4 1, 3) := by decide +kernel
theorem dX5_movesBehind_48 : decode cX5_movesBehind 48 = .ok (.goto 14, 3) := by decide +kernel
theorem dX5_movesBehind_51 : decode cX5_movesBehind 51 = .ok (.aload_n 0, 1) := by decide +kernel
theorem dX5_movesBehind_52 : decode cX5_movesBehind 52 = .ok (.getfield 29, 3) := by decide +kernel
theorem dX5_movesBehind_55 : decode cX5_movesBehind 55 = .ok (.iload_n 3, 1) := by decide +kernel
theorem dX5_movesBehind_56 : decode cX5_movesBehind 56 = .ok (.iload 6, 2) := by decide +kernel
theorem dX5_movesBehind_58 : decode cX5_movesBehind 58 = .ok (.iastore, 1) := by decide +kernel
theorem dX5_movesBehind_59 : decode cX5_movesBehind 59 = .ok (.iinc 3 1, 3) := by decide +kernel
theorem dX5_movesBehind_62 : decode cX5_movesBehind 62 = .ok (.iinc 5 1, 3) := by decide +kernel
theorem dX5_movesBehind_65 : decode cX5_movesBehind 65 = .ok (.goto (-57), 3) := by decide +kernel
theorem dX5_movesBehind_68 : decode cX5_movesBehind 68 = .ok (.iconst 0, 1) := by decide +kernel
theorem dX5_movesBehind_69 : decode cX5_movesBehind 69 = .ok (.istore 5, 2) := by decide +kernel
theorem dX5_movesBehind_71 : decode cX5_movesBehind 71 = .ok (.iload 5, 2) := by decide +kernel
theorem dX5_movesBehind_73 : decode cX5_movesBehind 73 = .ok (.iload 4, 2) := by decide +kernel
theorem dX5_movesBehind_75 : decode cX5_movesBehind 75 = .ok (.if_icmp .ge 25, 3) := by decide +kernel
theorem dX5_movesBehind_78 : decode cX5_movesBehind 78 = .ok (.aload_n 0, 1) := by decide +kernel
theorem dX5_movesBehind_79 : decode cX5_movesBehind 79 = .ok (.getfield 29, 3) := by decide +kernel
theorem dX5_movesBehind_82 : decode cX5_movesBehind 82 = .ok (.iload_n 3, 1) := by decide +kernel
theorem dX5_movesBehind_83 : decode cX5_movesBehind 83 = .ok (.iload 5, 2) := by decide +kernel
theorem dX5_movesBehind_85 : decode cX5_movesBehind 85 = .ok (.iadd, 1) := by decide +kernel
theorem dX5_movesBehind_86 : decode cX5_movesBehind 86 = .ok (.aload_n 0, 1) := by decide +kernel
theorem dX5_movesBehind_87 : decode cX5_movesBehind 87 = .ok (.getfield 35, 3) := by decide +kernel
theorem dX5_movesBehind_90 : decode cX5_movesBehind 90 = .ok (.iload 5, 2) := by decide +kernel
theorem dX5_movesBehind_92 : decode cX5_movesBehind 92 = .ok (.iaload, 1) := by decide +kernel
theorem dX5_movesBehind_93 : decode cX5_movesBehind 93 = .ok (.iastore, 1) := by decide +kernel
theorem dX5_movesBehind_94 : decode cX5_movesBehind 94 = .ok (.iinc 5 1, 3) := by decide +kernel
theorem dX5_movesBehind_97 : decode cX5_movesBehind 97 = .ok (.goto (-26), 3) := by decide +kernel
theorem dX5_movesBehind_100 : decode cX5_movesBehind 100 = .ok (.return_, 1) := by decide +kernel
theorem dX5_buddy_0 : decode cX5_buddy 0 = .ok (.iload_n 1, 1) := by decide +kernel
theorem dX5_buddy_1 : decode cX5_buddy 1 = .ok (.iconst 1, 1) := by decide +kernel
theorem dX5_buddy_2 : decode cX5_buddy 2 = .ok (.aload_n 0, 1) := by decide +kernel
theorem dX5_buddy_3 : decode cX5_buddy 3 = .ok (.getfield 26, 3) := by decide +kernel
theorem dX5_buddy_6 : decode cX5_buddy 6 = .ok (.iload_n 1, 1) := by decide +kernel
theorem dX5_buddy_7 : decode cX5_buddy 7 = .ok (.iaload, 1) := by decide +kernel
theorem dX5_buddy_8 : decode cX5_buddy 8 = .ok (.iconst 1, 1) := by decide +kernel
theorem dX5_buddy_9 : decode cX5_buddy 9 = .ok (.isub, 1) := by decide +kernel
theorem dX5_buddy_10 : decode cX5_buddy 10 = .ok (.ishl, 1) := by decide +kernel
theorem dX5_buddy_11 : decode cX5_buddy 11 = .ok (.ixor, 1) := by decide +kernel
theorem dX5_buddy_12 : decode cX5_buddy 12 = .ok (.ireturn, 1) := by decide +kernel
theorem dX5_canMerge_0 : decode cX5_canMerge 0 = .ok (.aload_n 0, 1) := by decide +kernel
theorem dX5_canMerge_1 : decode cX5_canMerge 1 = .ok (.getfield 26, 3) := by decide +kernel
theorem dX5_canMerge_4 : decode cX5_canMerge 4 = .ok (.iload_n 1, 1) := by decide +kernel
theorem dX5_canMerge_5 : decode cX5_canMerge 5 = .ok (.iaload, 1) := by decide +kernel
theorem dX5_canMerge_6 : decode cX5_canMerge 6 = .ok (.istore_n 2, 1) := by decide +kernel
theorem dX5_canMerge_7 : decode cX5_canMerge 7 = .ok (.iload_n 2, 1) := by decide +kernel
theorem dX5_canMerge_8 : decode cX5_canMerge 8 = .ok (.ifCond .le 36, 3) := by decide +kernel
theorem dX5_canMerge_11 : decode cX5_canMerge 11 = .ok (.aload_n 0, 1) := by decide +kernel
theorem dX5_canMerge_12 : decode cX5_canMerge 12 = .ok (.getfield 26, 3) := by decide +kernel
theorem dX5_canMerge_15 : decode cX5_canMerge 15 = .ok (.aload_n 0, 1) := by decide +kernel
theorem dX5_canMerge_16 : decode cX5_canMerge 16 = .ok (.iload_n 1, 1) := by decide +kernel
theorem dX5_canMerge_17 : decode cX5_canMerge 17 = .ok (.invokevirtual 81, 3) := by decide +kernel
theorem dX5_canMerge_20 : decode cX5_canMerge 20 = .ok (.iaload, 1) := by decide +kernel
theorem dX5_canMerge_21 : decode cX5_canMerge 21 = .ok (.iload_n 2, 1) := by decide +kernel
theorem dX5_canMerge_22 : decode cX5_canMerge 22 = .ok (.if_icmp .ne 22, 3) := by decide +kernel
theorem dX5_canMerge_25 : decode cX5_canMerge 25 = .ok (.aload_n 0, 1) := by decide +kernel
theorem dX5_canMerge_26 : decode cX5_canMerge 26 = .ok (.iload_n 1, 1) := by decide +kernel
theorem dX5_canMerge_27 : decode cX5_canMerge 27 = .ok (.iload_n 2, 1) := by decide +kernel
theorem dX5_canMerge_28 : decode cX5_canMerge 28 = .ok (.iconst 1, 1) := by decide +kernel
theorem dX5_canMerge_29 : decode cX5_canMerge 29 = .ok (.isub, 1) := by decide +kernel
theorem dX5_canMerge_30 : decode cX5_canMerge 30 = .ok (.invokevirtual 65, 3) := by decide +kernel
theorem dX5_canMerge_33 : decode cX5_canMerge 33 = .ok (.aload_n 0, 1) := by decide +kernel
theorem dX5_canMerge_34 : decode cX5_canMerge 34 = .ok (.getfield 16, 3) := by decide +kernel
theorem dX5_canMerge_37 : decode cX5_canMerge 37 = .ok (.if_icmp .gt 7, 3) := by decide +kernel
theorem dX5_canMerge_40 : decode cX5_canMerge 40 = .ok (.iconst 1, 1) := by decide +kernel
theorem dX5_canMerge_41 : decode cX5_canMerge 41 = .ok (.goto 4, 3) := by decide +kernel
theorem dX5_canMerge_44 : decode cX5_canMerge 44 = .ok (.iconst 0, 1) := by decide +kernel
theorem dX5_canMerge_45 : decode cX5_canMerge 45 = .ok (.ireturn, 1) := by decide +kernel
theorem dX5_isDeep_0 : decode cX5_isDeep 0 = .ok (.iconst 0, 1) := by decide +kernel
theorem dX5_isDeep_1 : decode cX5_isDeep 1 = .ok (.istore_n 1, 1) := by decide +kernel
theorem dX5_isDeep_2 : decode cX5_isDeep 2 = .ok (.iconst 0, 1) := by decide +kernel
theorem dX5_isDeep_3 : decode cX5_isDeep 3 = .ok (.istore_n 2, 1) := by decide +kernel
theorem dX5_isDeep_4 : decode cX5_isDeep 4 = .ok (.iload_n 2, 1) := by decide +kernel
theorem dX5_isDeep_5 : decode cX5_isDeep 5 = .ok (.sipush 256, 3) := by decide +kernel
theorem dX5_isDeep_8 : decode cX5_isDeep 8 = .ok (.if_icmp .ge 32, 3) := by decide +kernel
theorem dX5_isDeep_11 : decode cX5_isDeep 11 = .ok (.iload_n 1, 1) := by decide +kernel
theorem dX5_isDeep_12 : decode cX5_isDeep 12 = .ok (.ifCond .ne 16, 3) := by decide +kernel
theorem dX5_isDeep_15 : decode cX5_isDeep 15 = .ok (.aload_n 0, 1) := by decide +kernel
theorem dX5_isDeep_16 : decode cX5_isDeep 16 = .ok (.getfield 26, 3) := by decide +kernel
theorem dX5_isDeep_19 : decode cX5_isDeep 19 = .ok (.iload_n 2, 1) := by decide +kernel
theorem dX5_isDeep_20 : decode cX5_isDeep 20 = .ok (.iaload, 1) := by decide +kernel
theorem dX5_isDeep_21 : decode cX5_isDeep 21 = .ok (.aload_n 0, 1) := by decide +kernel
theorem dX5_isDeep_22 : decode cX5_isDeep 22 = .ok (.getfield 68, 3) := by decide +kernel
theorem dX5_isDeep_25 : decode cX5_isDeep 25 = .ok (.if_icmp .ne 7, 3) := by decide +kernel
theorem dX5_isDeep_28 : decode cX5_isDeep 28 = .ok (.iconst 1, 1) := by decide +kernel
theorem dX5_isDeep_29 : decode cX5_isDeep 29 = .ok (.goto 4, 3) := by decide +kernel
theorem dX5_isDeep_32 : decode cX5_isDeep 32 = .ok (.iconst 0, 1) := by decide +kernel
theorem dX5_isDeep_33 : decode cX5_isDeep 33 = .ok (.istore_n 1, 1) := by decide +kernel
theorem dX5_isDeep_34 : decode cX5_isDeep 34 = .ok (.iinc 2 1, 3) := by decide +kernel
theorem dX5_isDeep_37 : decode cX5_isDeep 37 = .ok (.goto (-33), 3) := by decide +kernel
theorem dX5_isDeep_40 : decode cX5_isDeep 40 = .ok (.iload_n 1, 1) := by decide +kernel
theorem dX5_isDeep_41 : decode cX5_isDeep 41 = .ok (.ireturn, 1) := by decide +kernel
theorem dX5_shrinks_0 : decode cX5_shrinks 0 = .ok (.aload_n 0, 1) := by decide +kernel
theorem dX5_shrinks_1 : decode cX5_shrinks 1 = .ok (.iload_n 1, 1) := by decide +kernel
theorem dX5_shrinks_2 : decode cX5_shrinks 2 = .ok (.invokevirtual 84, 3) := by decide +kernel
theorem dX5_shrinks_5 : decode cX5_shrinks 5 = .ok (.ifCond .eq 46, 3) := by decide +kernel
theorem dX5_shrinks_8 : decode cX5_shrinks 8 = .ok (.aload_n 0, 1) := by decide +kernel
theorem dX5_shrinks_9 : decode cX5_shrinks 9 = .ok (.getfield 26, 3) := by decide +kernel
theorem dX5_shrinks_12 : decode cX5_shrinks 12 = .ok (.iload_n 1, 1) := by decide +kernel
theorem dX5_shrinks_13 : decode cX5_shrinks 13 = .ok (.iaload, 1) := by decide +kernel
theorem dX5_shrinks_14 : decode cX5_shrinks 14 = .ok (.istore_n 2, 1) := by decide +kernel
theorem dX5_shrinks_15 : decode cX5_shrinks 15 = .ok (.aload_n 0, 1) := by decide +kernel
theorem dX5_shrinks_16 : decode cX5_shrinks 16 = .ok (.iload_n 1, 1) := by decide +kernel
theorem dX5_shrinks_17 : decode cX5_shrinks 17 = .ok (.iconst 1, 1) := by decide +kernel
theorem dX5_shrinks_18 : decode cX5_shrinks 18 = .ok (.iload_n 2, 1) := by decide +kernel
theorem dX5_shrinks_19 : decode cX5_shrinks 19 = .ok (.iconst 1, 1) := by decide +kernel
theorem dX5_shrinks_20 : decode cX5_shrinks 20 = .ok (.isub, 1) := by decide +kernel
theorem dX5_shrinks_21 : decode cX5_shrinks 21 = .ok (.ishl, 1) := by decide +kernel
theorem dX5_shrinks_22 : decode cX5_shrinks 22 = .ok (.ior, 1) := by decide +kernel
theorem dX5_shrinks_23 : decode cX5_shrinks 23 = .ok (.iload_n 2, 1) := by decide +kernel
theorem dX5_shrinks_24 : decode cX5_shrinks 24 = .ok (.invokevirtual 88, 3) := by decide +kernel
theorem dX5_shrinks_27 : decode cX5_shrinks 27 = .ok (.aload_n 0, 1) := by decide +kernel
theorem dX5_shrinks_28 : decode cX5_shrinks 28 = .ok (.iload_n 1, 1) := by decide +kernel
theorem dX5_shrinks_29 : decode cX5_shrinks 29 = .ok (.iload_n 2, 1) := by decide +kernel
theorem dX5_shrinks_30 : decode cX5_shrinks 30 = .ok (.iconst 1, 1) := by decide +kernel
theorem dX5_shrinks_31 : decode cX5_shrinks 31 = .ok (.isub, 1) := by decide +kernel
theorem dX5_shrinks_32 : decode cX5_shrinks 32 = .ok (.iload_n 2, 1) := by decide +kernel
theorem dX5_shrinks_33 : decode cX5_shrinks 33 = .ok (.iconst 1, 1) := by decide +kernel
theorem dX5_shrinks_34 : decode cX5_shrinks 34 = .ok (.isub, 1) := by decide +kernel
theorem dX5_shrinks_35 : decode cX5_shrinks 35 = .ok (.invokevirtual 74, 3) := by decide +kernel
theorem dX5_shrinks_38 : decode cX5_shrinks 38 = .ok (.aload_n 0, 1) := by decide +kernel
theorem dX5_shrinks_39 : decode cX5_shrinks 39 = .ok (.dup, 1) := by decide +kernel
theorem dX5_shrinks_40 : decode cX5_shrinks 40 = .ok (.getfield 92, 3) := by decide +kernel
theorem dX5_shrinks_43 : decode cX5_shrinks 43 = .ok (.iconst 1, 1) := by decide +kernel
theorem dX5_shrinks_44 : decode cX5_shrinks 44 = .ok (.iadd, 1) := by decide +kernel
theorem dX5_shrinks_45 : decode cX5_shrinks 45 = .ok (.putfield 92, 3) := by decide +kernel
theorem dX5_shrinks_48 : decode cX5_shrinks 48 = .ok (.goto (-48), 3) := by decide +kernel
theorem dX5_shrinks_51 : decode cX5_shrinks 51 = .ok (.aload_n 0, 1) := by decide +kernel
theorem dX5_shrinks_52 : decode cX5_shrinks 52 = .ok (.getfield 68, 3) := by decide +kernel
theorem dX5_shrinks_55 : decode cX5_shrinks 55 = .ok (.ifCond .le 33, 3) := by decide +kernel
theorem dX5_shrinks_58 : decode cX5_shrinks 58 = .ok (.aload_n 0, 1) := by decide +kernel
theorem dX5_shrinks_59 : decode cX5_shrinks 59 = .ok (.invokevirtual 95, 3) := by decide +kernel
theorem dX5_shrinks_62 : decode cX5_shrinks 62 = .ok (.ifCond .ne 26, 3) := by decide +kernel
theorem dX5_shrinks_65 : decode cX5_shrinks 65 = .ok (.aload_n 0, 1) := by decide +kernel
theorem dX5_shrinks_66 : decode cX5_shrinks 66 = .ok (.dup, 1) := by decide +kernel
theorem dX5_shrinks_67 : decode cX5_shrinks 67 = .ok (.getfield 68, 3) := by decide +kernel
theorem dX5_shrinks_70 : decode cX5_shrinks 70 = .ok (.iconst 1, 1) := by decide +kernel
theorem dX5_shrinks_71 : decode cX5_shrinks 71 = .ok (.isub, 1) := by decide +kernel
theorem dX5_shrinks_72 : decode cX5_shrinks 72 = .ok (.putfield 68, 3) := by decide +kernel
theorem dX5_shrinks_75 : decode cX5_shrinks 75 = .ok (.aload_n 0, 1) := by decide +kernel
theorem dX5_shrinks_76 : decode cX5_shrinks 76 = .ok (.dup, 1) := by decide +kernel
theorem dX5_shrinks_77 : decode cX5_shrinks 77 = .ok (.getfield 99, 3) := by decide +kernel
theorem dX5_shrinks_80 : decode cX5_shrinks 80 = .ok (.iconst 1, 1) := by decide +kernel
theorem dX5_shrinks_81 : decode cX5_shrinks 81 = .ok (.iadd, 1) := by decide +kernel
theorem dX5_shrinks_82 : decode cX5_shrinks 82 = .ok (.putfield 99, 3) := by decide +kernel
theorem dX5_shrinks_85 : decode cX5_shrinks 85 = .ok (.goto (-34), 3) := by decide +kernel
theorem dX5_shrinks_88 : decode cX5_shrinks 88 = .ok (.return_, 1) := by decide +kernel
set_option maxHeartbeats 4000000 in
set_option maxRecDepth 100000 in
theorem c_X5_in (l : Launch) (D : va_G) (cy : ClassId)  (va9 : Int32) (lo9 : Int32) (hi9 : Int32)  : tq_F l yX5_in cX5_in 3 (some .boolean) 0 0 D cy [] [.int (va9), .int (lo9), .int (hi9)] (fun r => ((lo9 ≤ va9 ∧ va9 ≤ hi9) ∧ r = nI 1) ∨ (¬ (lo9 ≤ va9 ∧ va9 ≤ hi9) ∧ r = nI 0)) := by
  refine tq_F.mk (by decide) (Nat.le_of_ble_eq_true rfl) ?_
  intro p e s m args below meth c C hP hK ls hl
  obtain ⟨hx, hb, hml, hown, hrt, hlk, hT⟩ := id C
  have hl : lv_has ls 3 [(0, .int (va9)), (1, .int (lo9)), (2, .int (hi9))] := hl
  refine lv_iload_n hx hb dX5_in_0 rfl (lv_at hl 0 rfl) ?_
  refine lv_iload_n hx hb dX5_in_1 rfl (lv_at hl 1 rfl) ?_
  refine lv_icmp_lt (tgt := 14) hx hb dX5_in_2 (by decide) (fun h2 => ?_) (fun h2 => ?_)
  · refine lv_iconst (v := nI 0) hx hb dX5_in_14 (by decide) ?_
    exact tq_fret (v := (nI (0))) C (by decide) (Or.inr ⟨fun q => absurd q.1 (Int32.not_le.mpr h2), rfl⟩) dX5_in_15
  · refine lv_iload_n hx hb dX5_in_5 rfl (lv_at hl 0 rfl) ?_
    refine lv_iload_n hx hb dX5_in_6 rfl (lv_at hl 2 rfl) ?_
    refine lv_icmp_gt (tgt := 14) hx hb dX5_in_7 (by decide) (fun h7 => ?_) (fun h7 => ?_)
    · refine lv_iconst (v := nI 0) hx hb dX5_in_14 (by decide) ?_
      exact tq_fret (v := (nI (0))) C (by decide) (Or.inr ⟨fun q => absurd q.2 (Int32.not_le.mpr h7), rfl⟩) dX5_in_15
    · refine lv_iconst (v := nI 1) hx hb dX5_in_10 (by decide) ?_
      refine lv_goto (tgt := 15) hx hb dX5_in_11 (by decide) ?_
      exact tq_fret (v := (nI (1))) C (by decide) (Or.inl ⟨⟨Int32.not_lt.mp h2, Int32.not_lt.mp h7⟩, rfl⟩) dX5_in_15
set_option maxHeartbeats 4000000 in
set_option maxRecDepth 100000 in
theorem c_X5_asked_1 (l : Launch) (D : va_G) (cy : ClassId) (bb : Nat → Nat) (sto : Nat → Nat) (vas : Nat → Nat) (sz : Nat) (cap : Nat) (low : Nat) (hig : Nat) (dpt : Nat → Nat) (glo : Nat) (ext : Nat → Nat) (mdb : Int32) (mhl : Int32) (msp : Int32) (mmg : Int32) (lin : Nat → Nat) (mlv : Nat) (mpt : Nat) (mls : Int32) (mov : Nat → Nat) (thr : Nat) (bz : Nat) (hbz : bz = 1) : tq_I (S := Unit) l yX5_asked cX5_asked 2 (some .boolean) 0 0 0 0 D cy (wM cy bb sto vas sz cap low hig dpt glo ext mdb mhl msp mmg lin mlv mpt mls mov thr) [.ref (bb 0), .int (nI (bz))] (fun r _ => r = (nI (bz))) (fun u => (wM cy bb sto vas sz cap low hig dpt glo ext mdb mhl msp mmg lin mlv mpt mls mov 0)) := by
  refine tq_I.mk (by decide) (Nat.le_of_ble_eq_true rfl) ?_
  intro p e s m args below meth c A C hP hK hD hS hA ls hl
  obtain ⟨hx, hb, hml, hown, hrt, hlk, hT⟩ := id C
  have hl : lv_has ls 2 [(0, .ref (bb 0)), (1, .int (nI (bz)))] := hl
  refine lv_aload_n hx hb dX5_asked_0 rfl (lv_at hl 0 rfl) ?_
  refine lv_iload_n hx hb dX5_asked_1 rfl (lv_at hl 1 rfl) ?_
  refine tq_if_eq (tgt := 9) C (by omega) dX5_asked_2 (by decide) (fun h2 => ?_) (fun h2 => ?_)
  · omega
  · refine lv_iconst (v := nI 0) hx hb dX5_asked_5 (by decide) ?_
    refine lv_goto (tgt := 10) hx hb dX5_asked_6 (by decide) ?_
    refine tq_put (v := .int (nI (0))) (C0 := RX5) (T := TX5) (N := 19) (ci := 5) (k := 18) (ty := .int) C gX5 inX5 tyX5_ok nmX5 rfl (by decide) rfl fl_X5_38 rfl (by decide +kernel) hK hP hD hS 0 rfl rfl rfl (Nat.le_of_ble_eq_true rfl) dX5_asked_10 (fun H locs hP hD hS => ?_)
    have hP : va_P D vwCl (wM cy bb sto vas sz cap low hig dpt glo ext mdb mhl msp mmg lin mlv mpt mls mov 0) H := hP
    have hD : va_D A (wM cy bb sto vas sz cap low hig dpt glo ext mdb mhl msp mmg lin mlv mpt mls mov 0) := hD
    refine lv_iload_n hx hb dX5_asked_13 rfl (lv_at hl 1 rfl) ?_
    exact tq_iret (v := (nI (bz))) C (by rw [hbz]; decide) () hP hD hS (rfl) (Nat.le_of_ble_eq_true rfl) (Nat.le_of_ble_eq_true rfl) dX5_asked_14
set_option maxHeartbeats 4000000 in
set_option maxRecDepth 100000 in
theorem c_X5_asked_0 (l : Launch) (D : va_G) (cy : ClassId) (bb : Nat → Nat) (sto : Nat → Nat) (vas : Nat → Nat) (sz : Nat) (cap : Nat) (low : Nat) (hig : Nat) (dpt : Nat → Nat) (glo : Nat) (ext : Nat → Nat) (mdb : Int32) (mhl : Int32) (msp : Int32) (mmg : Int32) (lin : Nat → Nat) (mlv : Nat) (mpt : Nat) (mls : Int32) (mov : Nat → Nat) (thr : Nat) (bz : Nat) (hbz : bz = 0) : tq_I (S := Unit) l yX5_asked cX5_asked 2 (some .boolean) 0 0 0 0 D cy (wM cy bb sto vas sz cap low hig dpt glo ext mdb mhl msp mmg lin mlv mpt mls mov thr) [.ref (bb 0), .int (nI (bz))] (fun r _ => r = (nI (bz))) (fun u => (wM cy bb sto vas sz cap low hig dpt glo ext mdb mhl msp mmg lin mlv mpt mls mov 1)) := by
  refine tq_I.mk (by decide) (Nat.le_of_ble_eq_true rfl) ?_
  intro p e s m args below meth c A C hP hK hD hS hA ls hl
  obtain ⟨hx, hb, hml, hown, hrt, hlk, hT⟩ := id C
  have hl : lv_has ls 2 [(0, .ref (bb 0)), (1, .int (nI (bz)))] := hl
  refine lv_aload_n hx hb dX5_asked_0 rfl (lv_at hl 0 rfl) ?_
  refine lv_iload_n hx hb dX5_asked_1 rfl (lv_at hl 1 rfl) ?_
  refine tq_if_eq (tgt := 9) C (by omega) dX5_asked_2 (by decide) (fun h2 => ?_) (fun h2 => ?_)
  · refine lv_iconst (v := nI 1) hx hb dX5_asked_9 (by decide) ?_
    refine tq_put (v := .int (nI (1))) (C0 := RX5) (T := TX5) (N := 19) (ci := 5) (k := 18) (ty := .int) C gX5 inX5 tyX5_ok nmX5 rfl (by decide) rfl fl_X5_38 rfl (by decide +kernel) hK hP hD hS 0 rfl rfl rfl (Nat.le_of_ble_eq_true rfl) dX5_asked_10 (fun H locs hP hD hS => ?_)
    have hP : va_P D vwCl (wM cy bb sto vas sz cap low hig dpt glo ext mdb mhl msp mmg lin mlv mpt mls mov 1) H := hP
    have hD : va_D A (wM cy bb sto vas sz cap low hig dpt glo ext mdb mhl msp mmg lin mlv mpt mls mov 1) := hD
    refine lv_iload_n hx hb dX5_asked_13 rfl (lv_at hl 1 rfl) ?_
    exact tq_iret (v := (nI (bz))) C (by rw [hbz]; decide) () hP hD hS (rfl) (Nat.le_of_ble_eq_true rfl) (Nat.le_of_ble_eq_true rfl) dX5_asked_14
  · omega
set_option maxHeartbeats 4000000 in
set_option maxRecDepth 100000 in
theorem c_X5_told (l : Launch) (D : va_G) (cy : ClassId) (bb : Nat → Nat) (sto : Nat → Nat) (vas : Nat → Nat) (sz : Nat) (cap : Nat) (low : Nat) (hig : Nat) (dpt : Nat → Nat) (glo : Nat) (ext : Nat → Nat) (mdb : Int32) (mhl : Int32) (msp : Int32) (mmg : Int32) (lin : Nat → Nat) (mlv : Nat) (mpt : Nat) (mls : Int32) (mov : Nat → Nat) (thr : Nat) (tv : Nat)  : tq_I (S := Unit) l yX5_told cX5_told 2 (some .int) 0 0 0 0 D cy (wM cy bb sto vas sz cap low hig dpt glo ext mdb mhl msp mmg lin mlv mpt mls mov thr) [.ref (bb 0), .int (nI (tv))] (fun r _ => r = (nI (tv))) (fun u => (wM cy bb sto vas sz cap low hig dpt glo ext mdb mhl msp mmg lin mlv mpt mls mov 0)) := by
  refine tq_I.mk (by decide) (Nat.le_of_ble_eq_true rfl) ?_
  intro p e s m args below meth c A C hP hK hD hS hA ls hl
  obtain ⟨hx, hb, hml, hown, hrt, hlk, hT⟩ := id C
  have hl : lv_has ls 2 [(0, .ref (bb 0)), (1, .int (nI (tv)))] := hl
  refine lv_aload_n hx hb dX5_told_0 rfl (lv_at hl 0 rfl) ?_
  refine lv_iconst (v := nI 0) hx hb dX5_told_1 (by decide) ?_
  refine tq_put (v := .int (nI (0))) (C0 := RX5) (T := TX5) (N := 19) (ci := 5) (k := 18) (ty := .int) C gX5 inX5 tyX5_ok nmX5 rfl (by decide) rfl fl_X5_38 rfl (by decide +kernel) hK hP hD hS 0 rfl rfl rfl (Nat.le_of_ble_eq_true rfl) dX5_told_2 (fun H locs hP hD hS => ?_)
  have hP : va_P D vwCl (wM cy bb sto vas sz cap low hig dpt glo ext mdb mhl msp mmg lin mlv mpt mls mov 0) H := hP
  have hD : va_D A (wM cy bb sto vas sz cap low hig dpt glo ext mdb mhl msp mmg lin mlv mpt mls mov 0) := hD
  refine lv_iload_n hx hb dX5_told_5 rfl (lv_at hl 1 rfl) ?_
  exact tq_iret (v := (nI (tv))) C rfl () hP hD hS (rfl) (Nat.le_of_ble_eq_true rfl) (Nat.le_of_ble_eq_true rfl) dX5_told_6
set_option maxHeartbeats 4000000 in
set_option maxRecDepth 100000 in
theorem c_X5_told_i (l : Launch) (D : va_G) (cy : ClassId) (bb : Nat → Nat) (sto : Nat → Nat) (vas : Nat → Nat) (sz : Nat) (cap : Nat) (low : Nat) (hig : Nat) (dpt : Nat → Nat) (glo : Nat) (ext : Nat → Nat) (mdb : Int32) (mhl : Int32) (msp : Int32) (mmg : Int32) (lin : Nat → Nat) (mlv : Nat) (mpt : Nat) (mls : Int32) (mov : Nat → Nat) (thr : Nat) (tv : Int32)  : tq_I (S := Unit) l yX5_told cX5_told 2 (some .int) 0 0 0 0 D cy (wM cy bb sto vas sz cap low hig dpt glo ext mdb mhl msp mmg lin mlv mpt mls mov thr) [.ref (bb 0), .int (tv)] (fun r _ => r = (tv)) (fun u => (wM cy bb sto vas sz cap low hig dpt glo ext mdb mhl msp mmg lin mlv mpt mls mov 0)) := by
  refine tq_I.mk (by decide) (Nat.le_of_ble_eq_true rfl) ?_
  intro p e s m args below meth c A C hP hK hD hS hA ls hl
  obtain ⟨hx, hb, hml, hown, hrt, hlk, hT⟩ := id C
  have hl : lv_has ls 2 [(0, .ref (bb 0)), (1, .int (tv))] := hl
  refine lv_aload_n hx hb dX5_told_0 rfl (lv_at hl 0 rfl) ?_
  refine lv_iconst (v := nI 0) hx hb dX5_told_1 (by decide) ?_
  refine tq_put (v := .int (nI (0))) (C0 := RX5) (T := TX5) (N := 19) (ci := 5) (k := 18) (ty := .int) C gX5 inX5 tyX5_ok nmX5 rfl (by decide) rfl fl_X5_38 rfl (by decide +kernel) hK hP hD hS 0 rfl rfl rfl (Nat.le_of_ble_eq_true rfl) dX5_told_2 (fun H locs hP hD hS => ?_)
  have hP : va_P D vwCl (wM cy bb sto vas sz cap low hig dpt glo ext mdb mhl msp mmg lin mlv mpt mls mov 0) H := hP
  have hD : va_D A (wM cy bb sto vas sz cap low hig dpt glo ext mdb mhl msp mmg lin mlv mpt mls mov 0) := hD
  refine lv_iload_n hx hb dX5_told_5 rfl (lv_at hl 1 rfl) ?_
  exact tq_iret (v := (tv)) C rfl () hP hD hS (rfl) (Nat.le_of_ble_eq_true rfl) (Nat.le_of_ble_eq_true rfl) dX5_told_6
set_option maxHeartbeats 4000000 in
set_option maxRecDepth 100000 in
theorem c_X5_isKey (l : Launch) (D : va_G) (cy : ClassId) (bb : Nat → Nat) (sto : Nat → Nat) (vas : Nat → Nat) (sz : Nat) (cap : Nat) (low : Nat) (hig : Nat) (dpt : Nat → Nat) (glo : Nat) (ext : Nat → Nat) (mdb : Int32) (mhl : Int32) (msp : Int32) (mmg : Int32) (lin : Nat → Nat) (mlv : Nat) (mpt : Nat) (mls : Int32) (mov : Nat → Nat) (thr : Nat) (kx : Int32)  : tq_I (S := Nat) l yX5_isKey cX5_isKey 2 (some .boolean) 1 22 0 0 D cy (wM cy bb sto vas sz cap low hig dpt glo ext mdb mhl msp mmg lin mlv mpt mls mov thr) [.ref (bb 0), .int (kx)] (fun r u => (isKey kx ∧ r = nI 1 ∧ u = 0) ∨ (¬ isKey kx ∧ r = nI 0 ∧ u = 1)) (fun u => (wM cy bb sto vas sz cap low hig dpt glo ext mdb mhl msp mmg lin mlv mpt mls mov u)) := by
  refine tq_I.mk (by decide) (Nat.le_of_ble_eq_true rfl) ?_
  intro p e s m args below meth c A C hP hK hD hS hA ls hl
  obtain ⟨hx, hb, hml, hown, hrt, hlk, hT⟩ := id C
  have hl : lv_has ls 2 [(0, .ref (bb 0)), (1, .int (kx))] := hl
  refine lv_aload_n hx hb dX5_isKey_0 rfl (lv_at hl 0 rfl) ?_
  refine lv_iload_n hx hb dX5_isKey_1 rfl (lv_at hl 1 rfl) ?_
  refine lv_iconst (v := nI 0) hx hb dX5_isKey_2 (by decide) ?_
  refine lv_ldc (v := 65535) hx hb hown (hT.use kc_X5_41 rfl) dX5_isKey_3 ?_
  refine tq_top (y := nI 65535) (by decide) ?_
  refine tq_callF (va_runS C.fix (As := [.int (kx), .int (nI 0), .int (nI 65535)]) (rest := [.ref (bb 0)]) (c_X5_in l D cy kx (nI 0) (nI 65535)) (tq_cS (n := 3) C ml_X5_42 sm_X5_in ini_X5 cd_X5_in ⟨by decide, by decide, by decide +kernel⟩ ⟨Nat.le_of_ble_eq_true rfl, Nat.le_of_ble_eq_true rfl⟩) ⟨tq_Pf.blind, tq_preF C hK (hP.sub [] rfl)⟩ rfl rfl hl.1 rfl (lv_room (Nat.le_of_ble_eq_true rfl)) dX5_isKey_5 ⟨Nat.le_of_ble_eq_true rfl, Nat.le_of_ble_eq_true rfl⟩) (fun r5 hr5 => ?_)
  rcases hr5 with ⟨hr5, rfl⟩ | ⟨hr5, rfl⟩
  · refine tq_callI (W3 := fun u => (wM cy bb sto vas sz cap low hig dpt glo ext mdb mhl msp mmg lin mlv mpt mls mov 0)) (wr := []) (va_runV C.fix (As := [.int (nI (1))]) (rest := []) ((c_X5_asked_1 l D cy bb sto vas sz cap low hig dpt glo ext mdb mhl msp mmg lin mlv mpt mls mov thr 1 rfl) s.heap.size) (tq_cV (n := 1) C ml_X5_46 im_X5_asked se_X5_asked ini_X5 cd_X5_asked ⟨by decide, by decide, by decide +kernel⟩ ⟨Nat.le_of_ble_eq_true rfl, Nat.le_of_ble_eq_true rfl⟩) ⟨tq_Pc.blind, va_recv hK hP (ci := 5) (q0 := 0) rfl rfl, tq_preC C hK hP hD⟩ rfl rfl hl.1 rfl (lv_room (Nat.le_of_ble_eq_true rfl)) dX5_isKey_8 ⟨Nat.le_of_ble_eq_true rfl, Nat.le_of_ble_eq_true rfl⟩) hP hD hS hA [0, 1, 2, 3, 4, 5, 6] [] [0, 1, 2, 3, 4, 5, 6] rfl rfl (by decide) (by decide) (by decide) (fun _ => rfl) (fun r8 u8 H locs hr8 hP hD hS => ?_)
    have hP : va_P D vwCl (wM cy bb sto vas sz cap low hig dpt glo ext mdb mhl msp mmg lin mlv mpt mls mov 0) H := hP
    have hD : va_D A (wM cy bb sto vas sz cap low hig dpt glo ext mdb mhl msp mmg lin mlv mpt mls mov 0) := hD
    obtain rfl := hr8
    exact tq_iret (v := (nI (1))) C (by decide) (0) hP hD hS (Or.inl ⟨(tq_rng (x := kx) (M := 65535) (by decide) (by rw [← nI_0]; exact Int32.not_lt.mpr hr5.1) hr5.2).elim fun k hk => ⟨k, Nat.lt_succ_of_le hk.1, hk.2⟩, rfl, rfl⟩) (Nat.le_of_ble_eq_true rfl) (Nat.le_of_ble_eq_true rfl) dX5_isKey_11
  · refine tq_callI (W3 := fun u => (wM cy bb sto vas sz cap low hig dpt glo ext mdb mhl msp mmg lin mlv mpt mls mov 1)) (wr := []) (va_runV C.fix (As := [.int (nI (0))]) (rest := []) ((c_X5_asked_0 l D cy bb sto vas sz cap low hig dpt glo ext mdb mhl msp mmg lin mlv mpt mls mov thr 0 rfl) s.heap.size) (tq_cV (n := 1) C ml_X5_46 im_X5_asked se_X5_asked ini_X5 cd_X5_asked ⟨by decide, by decide, by decide +kernel⟩ ⟨Nat.le_of_ble_eq_true rfl, Nat.le_of_ble_eq_true rfl⟩) ⟨tq_Pc.blind, va_recv hK hP (ci := 5) (q0 := 0) rfl rfl, tq_preC C hK hP hD⟩ rfl rfl hl.1 rfl (lv_room (Nat.le_of_ble_eq_true rfl)) dX5_isKey_8 ⟨Nat.le_of_ble_eq_true rfl, Nat.le_of_ble_eq_true rfl⟩) hP hD hS hA [0, 1, 2, 3, 4, 5, 6] [] [0, 1, 2, 3, 4, 5, 6] rfl rfl (by decide) (by decide) (by decide) (fun _ => rfl) (fun r8 u8 H locs hr8 hP hD hS => ?_)
    have hP : va_P D vwCl (wM cy bb sto vas sz cap low hig dpt glo ext mdb mhl msp mmg lin mlv mpt mls mov 1) H := hP
    have hD : va_D A (wM cy bb sto vas sz cap low hig dpt glo ext mdb mhl msp mmg lin mlv mpt mls mov 1) := hD
    obtain rfl := hr8
    exact tq_iret (v := (nI (0))) C (by decide) (1) hP hD hS (Or.inr ⟨fun ⟨k, hk, e9⟩ => hr5 (by subst e9; exact ⟨nI_le (Nat.zero_le k) (by omega), nI_le (by omega) (by decide)⟩), rfl, rfl⟩) (Nat.le_of_ble_eq_true rfl) (Nat.le_of_ble_eq_true rfl) dX5_isKey_11
set_option maxHeartbeats 4000000 in
set_option maxRecDepth 100000 in
theorem c_X5_hash (l : Launch) (D : va_G) (cy : ClassId)  (key : Nat) (hkey : key < 65536) : tq_F l yX5_hash cX5_hash 1 (some .int) 0 0 D cy [] [.int (nI (key))] (fun r => r = (nI (hs key))) := by
  refine tq_F.mk (by decide) (Nat.le_of_ble_eq_true rfl) ?_
  intro p e s m args below meth c C hP hK ls hl
  obtain ⟨hx, hb, hml, hown, hrt, hlk, hT⟩ := id C
  have hl : lv_has ls 1 [(0, .int (nI (key)))] := hl
  refine lv_iload_n hx hb dX5_hash_0 rfl (lv_at hl 0 rfl) ?_
  refine lv_ldc (v := 40503) hx hb hown (hT.use kc_X5_50 rfl) dX5_hash_1 ?_
  refine tq_top (y := nI 40503) (by decide) ?_
  refine tq_imul C dX5_hash_3 ?_
  refine lv_ldc (v := 65535) hx hb hown (hT.use kc_X5_41 rfl) dX5_hash_4 ?_
  refine tq_top (y := nI 65535) (by decide) ?_
  refine tq_iandM (b := 16) C (by decide) (by decide) (by omega) dX5_hash_6 ?_
  exact tq_fret (v := (nI ((key * 40503) % 2 ^ 16))) C rfl (rfl) dX5_hash_7
set_option maxHeartbeats 4000000 in
set_option maxRecDepth 100000 in
theorem c_X5_lowest (l : Launch) (D : va_G) (cy : ClassId)  (xv : Nat) (nb : Nat) (hxb : xv < 2 ^ 32) (hbb : nb ≤ 16) : tq_F l yX5_lowest cX5_lowest 2 (some .int) 0 0 D cy [] [.int (nI (xv)), .int (nI (nb))] (fun r => r = (nI (xv % 2 ^ nb))) := by
  refine tq_F.mk (by decide) (Nat.le_of_ble_eq_true rfl) ?_
  intro p e s m args below meth c C hP hK ls hl
  obtain ⟨hx, hb, hml, hown, hrt, hlk, hT⟩ := id C
  have hl : lv_has ls 2 [(0, .int (nI (xv))), (1, .int (nI (nb)))] := hl
  refine lv_iload_n hx hb dX5_lowest_0 rfl (lv_at hl 0 rfl) ?_
  refine lv_iconst (v := nI 1) hx hb dX5_lowest_1 (by decide) ?_
  refine lv_iload_n hx hb dX5_lowest_2 rfl (lv_at hl 1 rfl) ?_
  refine tq_ishl C (by omega) (by have := p2_le hbb; omega) dX5_lowest_3 ?_
  refine tq_top (y := nI (2 ^ nb)) (by rw [Nat.one_mul]) ?_
  refine lv_iconst (v := nI 1) hx hb dX5_lowest_4 (by decide) ?_
  refine tq_isub C (p2_pos nb) dX5_lowest_5 ?_
  refine tq_iandM (b := nb) C (by omega) rfl hxb dX5_lowest_6 ?_
  exact tq_fret (v := (nI (xv % 2 ^ nb))) C rfl (rfl) dX5_lowest_7
set_option maxHeartbeats 4000000 in
set_option maxRecDepth 100000 in
theorem c_X5_found (l : Launch) (D : va_G) (cy : ClassId) (bb : Nat → Nat) (sto : Nat → Nat) (vas : Nat → Nat) (sz : Nat) (cap : Nat) (low : Nat) (hig : Nat) (dpt : Nat → Nat) (glo : Nat) (ext : Nat → Nat) (mdb : Int32) (mhl : Int32) (msp : Int32) (mmg : Int32) (lin : Nat → Nat) (mlv : Nat) (mpt : Nat) (mls : Int32) (mov : Nat → Nat) (thr : Nat) (kx : Int32) (hsz : sz ≤ 120) : tq_F l yX5_found cX5_found 4 (some .int) 0 0 D cy (wM cy bb sto vas sz cap low hig dpt glo ext mdb mhl msp mmg lin mlv mpt mls mov thr) [.ref (bb 0), .int (kx)] (fun r => (∃ i, i < sz ∧ kx = nI (sto i) ∧ r = nI i) ∨ ((∀ i, i < sz → kx ≠ nI (sto i)) ∧ r = -1)) := by
  refine tq_F.mk (by decide) (Nat.le_of_ble_eq_true rfl) ?_
  intro p e s m args below meth c C hP hK ls hl
  obtain ⟨hx, hb, hml, hown, hrt, hlk, hT⟩ := id C
  have hl : lv_has ls 4 [(0, .ref (bb 0)), (1, .int (kx))] := hl
  refine lv_iconst (v := (-1)) hx hb dX5_found_0 (by decide) ?_
  refine lv_istore_n (lv' := [(2, .int ((-1))), (0, .ref (bb 0)), (1, .int (kx))]) hx hb dX5_found_1 rfl hl (by decide) rfl (fun ls hl => ?_)
  refine lv_iconst (v := nI 0) hx hb dX5_found_2 (by decide) ?_
  refine lv_istore_n (lv' := [(3, .int (nI (0))), (2, .int ((-1))), (0, .ref (bb 0)), (1, .int (kx))]) hx hb dX5_found_3 rfl hl (by decide) rfl (fun ls hl => ?_)
  suffices hlp4 : ∀ (n4 : Nat) (i : Nat) (at1 : Int32), sz - i < n4 → (i ≤ sz) → ((∃ j, j < i ∧ kx = nI (sto j) ∧ at1 = nI j) ∨ ((∀ j, j < i → kx ≠ nI (sto j)) ∧ at1 = -1)) → ∀ ls : Array Slot, lv_has ls 4 [(0, .ref (bb 0)), (1, .int (kx)), (2, .int (at1)), (3, .int (nI (i)))] → W p l e ({ frames := 0, cells := 0, slots := 0, locals := 0 } : Room) s m args below meth c s.heap [] 0 0 (MQ below (tq_Qf (fun r => (∃ i, i < sz ∧ kx = nI (sto i) ∧ r = nI i) ∨ ((∀ i, i < sz → kx ≠ nI (sto i)) ∧ r = -1))) args s 0 0 (fun _ => False)) (F0 m 4 ls []) from
    hlp4 (sz + 1) 0 (-1) (by omega) (by omega) (Or.inr ⟨fun j h => absurd h (Nat.not_lt_zero _), rfl⟩) _ (lv_sub hl [2, 3, 1, 0] rfl)
  intro n4
  induction n4 with
  | zero => intro i at1 hf; exact absurd hf (Nat.not_lt_zero _)
  | succ n4 ih4 =>
    intro i at1 hf4 hi hat ls hl
    refine lv_iload_n hx hb dX5_found_4 rfl (lv_at hl 3 rfl) ?_
    refine lv_aload_n hx hb dX5_found_5 rfl (lv_at hl 0 rfl) ?_
    refine tq_get (C0 := RX5) (T := TX5) (N := 19) (ci := 5) (k := 2) C gX5 inX5 rfl (by decide) rfl fl_X5_51 hK hP 0 rfl rfl dX5_found_6 ?_
    refine tq_icmp_ge (tgt := 34) C (by omega) (by omega) dX5_found_9 (by decide) (fun h9 => ?_) (fun h9 => ?_)
    · refine lv_iload_n hx hb dX5_found_34 rfl (lv_at hl 2 rfl) ?_
      exact tq_fret (v := (at1)) C rfl (by rwa [show i = sz from by omega] at hat) dX5_found_35
    · refine lv_aload_n hx hb dX5_found_12 rfl (lv_at hl 0 rfl) ?_
      refine tq_get (C0 := RX5) (T := TX5) (N := 19) (ci := 5) (k := 0) C gX5 inX5 rfl (by decide) rfl fl_X5_7 hK hP 0 rfl rfl dX5_found_13 ?_
      refine lv_iload_n hx hb dX5_found_16 rfl (lv_at hl 3 rfl) ?_
      refine tq_iald (n := 120) (i := i) (f := sto) C hK hP 1 0 rfl rfl (by omega) (Nat.le_of_ble_eq_true rfl) dX5_found_17 ?_
      refine lv_iload_n hx hb dX5_found_18 rfl (lv_at hl 1 rfl) ?_
      refine lv_icmp_ne (tgt := 26) hx hb dX5_found_19 (by decide) (fun h19 => ?_) (fun h19 => ?_)
      · refine lv_iload_n hx hb dX5_found_26 rfl (lv_at hl 2 rfl) ?_
        refine lv_istore_n (lv' := [(2, .int (at1)), (0, .ref (bb 0)), (1, .int (kx)), (3, .int (nI (i)))]) hx hb dX5_found_27 rfl hl (by decide) rfl (fun ls hl => ?_)
        refine lv_iinc (v := (nI (i + 1))) (lv' := [(3, .int (nI (i + 1))), (2, .int (at1)), (0, .ref (bb 0)), (1, .int (kx))]) hx hb dX5_found_28 hl (k := 3) rfl (tq_inc1 _) (by decide) rfl (fun ls hl => ?_)
        refine lv_goto (tgt := 4) hx hb dX5_found_31 (by decide) ?_
        exact ih4 (i + 1) at1 (by omega) (by omega) (hat.elim (fun ⟨j, a1, a2, a3⟩ => Or.inl ⟨j, by omega, a2, a3⟩) (fun q => Or.inr ⟨fun j h => (Nat.lt_or_eq_of_le (Nat.le_of_lt_succ h)).elim (q.1 j) (fun z y => h19 (z ▸ y.symm)), q.2⟩)) _ (lv_sub hl [2, 3, 1, 0] rfl)
      · refine lv_iload_n hx hb dX5_found_22 rfl (lv_at hl 3 rfl) ?_
        refine lv_goto (tgt := 27) hx hb dX5_found_23 (by decide) ?_
        refine lv_istore_n (lv' := [(2, .int (nI (i))), (0, .ref (bb 0)), (1, .int (kx)), (3, .int (nI (i)))]) hx hb dX5_found_27 rfl hl (by decide) rfl (fun ls hl => ?_)
        refine lv_iinc (v := (nI (i + 1))) (lv' := [(3, .int (nI (i + 1))), (2, .int (nI (i))), (0, .ref (bb 0)), (1, .int (kx))]) hx hb dX5_found_28 hl (k := 3) rfl (tq_inc1 _) (by decide) rfl (fun ls hl => ?_)
        refine lv_goto (tgt := 4) hx hb dX5_found_31 (by decide) ?_
        exact ih4 (i + 1) (nI i) (by omega) (by omega) (Or.inl ⟨i, by omega, h19.symm, rfl⟩) _ (lv_sub hl [2, 3, 1, 0] rfl)
set_option maxHeartbeats 4000000 in
set_option maxRecDepth 100000 in
theorem c_X5_drops_e (l : Launch) (D : va_G) (cy : ClassId) (bb : Nat → Nat) (sto : Nat → Nat) (vas : Nat → Nat) (sz : Nat) (cap : Nat) (low : Nat) (hig : Nat) (dpt : Nat → Nat) (glo : Nat) (ext : Nat → Nat) (mdb : Int32) (mhl : Int32) (msp : Int32) (mmg : Int32) (lin : Nat → Nat) (mlv : Nat) (mpt : Nat) (mls : Int32) (mov : Nat → Nat) (thr : Nat) (mny : Nat) (kx : Nat) (E : List Nat) (hE : AL ext E) (hm : mny = E.length) (hm2 : mny ≤ 120) (hbd : ∀ i, ext i < 65536) (hkx : kx < 65536) : tq_V (S := (Nat → Nat)) l yX5_drops cX5_drops 5 0 0 0 0 D cy (wM cy bb sto vas sz cap low hig dpt glo ext mdb mhl msp mmg lin mlv mpt mls mov thr) [.ref (bb 4), .int (nI (mny)), .int (nI (kx))] (fun u => AL u (E.filter (· != kx)) ∧ ∀ i, u i < 65536) (fun u => (wM cy bb sto vas sz cap low hig dpt glo u mdb mhl msp mmg lin mlv mpt mls mov thr)) := by
  refine tq_V.mk (by decide) (Nat.le_of_ble_eq_true rfl) ?_
  intro p e s m args below meth c A C hin hP hK hD hS hA ls hl
  obtain ⟨hx, hb, hml, hown, hrt, hlk, hT⟩ := id C
  have hl : lv_has ls 5 [(0, .ref (bb 4)), (1, .int (nI (mny))), (2, .int (nI (kx)))] := hl
  refine lv_iconst (v := nI 0) hx hb dX5_drops_0 (by decide) ?_
  refine lv_istore_n (lv' := [(3, .int (nI (0))), (0, .ref (bb 4)), (1, .int (nI (mny))), (2, .int (nI (kx)))]) hx hb dX5_drops_1 rfl hl (by decide) rfl (fun ls hl => ?_)
  refine lv_iconst (v := nI 0) hx hb dX5_drops_2 (by decide) ?_
  refine lv_istore (lv' := [(4, .int (nI (0))), (3, .int (nI (0))), (0, .ref (bb 4)), (1, .int (nI (mny))), (2, .int (nI (kx)))]) hx hb dX5_drops_3 hl (by decide) rfl (fun ls hl => ?_)
  suffices hlp5 : ∀ (n5 : Nat) (i : Nat) (ext1 : Nat → Nat), mny - i < n5 → (i ≤ mny) → (AL ext1 ((E.take i).filter (· != kx))) → (∀ j, i ≤ j → ext1 j = ext j) → (∀ j, ext1 j < 65536) → ∀ (H : Heap) (locs : List Loc), va_P D vwCl (wM cy bb sto vas sz cap low hig dpt glo ext1 mdb mhl msp mmg lin mlv mpt mls mov thr) H → va_D A (wM cy bb sto vas sz cap low hig dpt glo ext1 mdb mhl msp mmg lin mlv mpt mls mov thr) → va_S A s.heap H locs → ∀ ls : Array Slot, lv_has ls 5 [(0, .ref (bb 4)), (1, .int (nI (mny))), (2, .int (nI (kx))), (3, .int (nI (((E.take i).filter (· != kx)).length))), (4, .int (nI (i)))] → W p l e ({ frames := 0, cells := 0, slots := 0, locals := 0 } : Room) s m args below meth c H locs 0 0 (MQ below (va_Qv (S := (Nat → Nat)) (fun u => AL u (E.filter (· != kx)) ∧ ∀ i, u i < 65536) (tq_B D A (fun u => (wM cy bb sto vas sz cap low hig dpt glo u mdb mhl msp mmg lin mlv mpt mls mov thr))) A) args s 0 0 A) (F0 m 5 ls []) from
    hlp5 (mny + 1) 0 ext (by omega) (by omega) (by rw [List.take_zero]; exact AL_nil) (fun _ _ => rfl) (hbd) _ _ hP hD hS _ (lv_sub hl [2, 3, 4, 1, 0] rfl)
  intro n5
  induction n5 with
  | zero => intro i ext1 hf; exact absurd hf (Nat.not_lt_zero _)
  | succ n5 ih5 =>
    intro i ext1 hf5 hi hlo hhi hbd1 H locs hP hD hS ls hl
    refine lv_iload hx hb dX5_drops_5 (lv_at hl 4 rfl) ?_
    refine lv_iload_n hx hb dX5_drops_7 rfl (lv_at hl 1 rfl) ?_
    refine tq_icmp_ge (tgt := 40) C (by omega) (by omega) dX5_drops_8 (by decide) (fun h8 => ?_) (fun h8 => ?_)
    · exact tq_vret C (ext1) hP hD hS (⟨by rw [show i = E.length from by omega, List.take_length] at hlo; exact hlo, hbd1⟩) (Nat.le_of_ble_eq_true rfl) (Nat.le_of_ble_eq_true rfl) dX5_drops_40
    · have hi2 : i < E.length := by omega
      have hfl := flen (E := E) (p := (· != kx)) (i := i)
      have hft := filter_take (p := (· != kx)) hi2
      refine lv_aload_n hx hb dX5_drops_11 rfl (lv_at hl 0 rfl) ?_
      refine lv_iload_n hx hb dX5_drops_12 rfl (lv_at hl 3 rfl) ?_
      refine lv_aload_n hx hb dX5_drops_13 rfl (lv_at hl 0 rfl) ?_
      refine lv_iload hx hb dX5_drops_14 (lv_at hl 4 rfl) ?_
      refine tq_iald (n := 120) (i := i) (f := ext1) C hK hP 4 0 rfl rfl (by omega) (Nat.le_of_ble_eq_true rfl) dX5_drops_16 ?_
      refine tq_iast (n := 120) (i := (((E.take i).filter (· != kx)).length)) (v := (ext1 i)) (f := ext1) C hK hP hD hS 4 0 rfl rfl (by omega) (Nat.le_of_ble_eq_true rfl) dX5_drops_17 (fun H locs hP hD hS => ?_)
      have hP : va_P D vwCl (wM cy bb sto vas sz cap low hig dpt glo (va_up ext1 (((E.take i).filter (· != kx)).length) (ext1 i)) mdb mhl msp mmg lin mlv mpt mls mov thr) H := hP
      have hD : va_D A (wM cy bb sto vas sz cap low hig dpt glo (va_up ext1 (((E.take i).filter (· != kx)).length) (ext1 i)) mdb mhl msp mmg lin mlv mpt mls mov thr) := hD
      have hw9 : va_up ext1 (((E.take i).filter (· != kx)).length) (ext1 i) i = E.getD i 0 := by unfold va_up; rw [ite_self, hhi i (Nat.le_refl _)]; exact hE i hi2
      have hb9 := hbd1 i
      refine lv_iload_n hx hb dX5_drops_18 rfl (lv_at hl 3 rfl) ?_
      refine lv_aload_n hx hb dX5_drops_19 rfl (lv_at hl 0 rfl) ?_
      refine lv_iload hx hb dX5_drops_20 (lv_at hl 4 rfl) ?_
      refine tq_iald (n := 120) (i := i) (f := (va_up ext1 (((E.take i).filter (· != kx)).length) (ext1 i))) C hK hP 4 0 rfl rfl (by omega) (Nat.le_of_ble_eq_true rfl) dX5_drops_22 ?_
      refine lv_iload_n hx hb dX5_drops_23 rfl (lv_at hl 2 rfl) ?_
      refine tq_icmp_ne (tgt := 31) C (by have := bd_up (n := ((E.take i).filter (· != kx)).length) hbd1 (hbd1 i) i; omega) (by omega) dX5_drops_24 (by decide) (fun h24 => ?_) (fun h24 => ?_)
      · refine lv_iconst (v := nI 1) hx hb dX5_drops_31 (by decide) ?_
        refine tq_iadd C dX5_drops_32 ?_
        refine lv_istore_n (lv' := [(3, .int (nI ((((E.take i).filter (· != kx)).length) + 1))), (0, .ref (bb 4)), (1, .int (nI (mny))), (2, .int (nI (kx))), (4, .int (nI (i)))]) hx hb dX5_drops_33 rfl hl (by decide) rfl (fun ls hl => ?_)
        refine lv_iinc (v := (nI (i + 1))) (lv' := [(4, .int (nI (i + 1))), (3, .int (nI ((((E.take i).filter (· != kx)).length) + 1))), (0, .ref (bb 4)), (1, .int (nI (mny))), (2, .int (nI (kx)))]) hx hb dX5_drops_34 hl (k := 4) rfl (tq_inc1 _) (by decide) rfl (fun ls hl => ?_)
        refine lv_goto (tgt := 5) hx hb dX5_drops_37 (by decide) ?_
        rw [hw9] at h24
        rw [if_pos (by simpa using h24)] at hft
        rw [show ((E.take i).filter (· != kx)).length + 1 = ((E.take (i + 1)).filter (· != kx)).length from by rw [hft]; simp] at hl
        exact ih5 (i + 1) (va_up ext1 (((E.take i).filter (· != kx)).length) (ext1 i)) (by omega) (by omega) (by rw [hft, ← hE i hi2, ← hhi i (Nat.le_refl _)]; exact AL_push hlo rfl) (fun j hj => by rw [up_n _ _ (by omega)]; exact hhi j (by omega)) (bd_up hbd1 (hbd1 i)) _ _ hP hD hS _ (lv_sub hl [2, 3, 4, 1, 0] rfl)
      · refine lv_iconst (v := nI 0) hx hb dX5_drops_27 (by decide) ?_
        refine lv_goto (tgt := 32) hx hb dX5_drops_28 (by decide) ?_
        refine tq_iadd C dX5_drops_32 ?_
        refine lv_istore_n (lv' := [(3, .int (nI ((((E.take i).filter (· != kx)).length) + 0))), (0, .ref (bb 4)), (1, .int (nI (mny))), (2, .int (nI (kx))), (4, .int (nI (i)))]) hx hb dX5_drops_33 rfl hl (by decide) rfl (fun ls hl => ?_)
        refine lv_iinc (v := (nI (i + 1))) (lv' := [(4, .int (nI (i + 1))), (3, .int (nI ((((E.take i).filter (· != kx)).length) + 0))), (0, .ref (bb 4)), (1, .int (nI (mny))), (2, .int (nI (kx)))]) hx hb dX5_drops_34 hl (k := 4) rfl (tq_inc1 _) (by decide) rfl (fun ls hl => ?_)
        refine lv_goto (tgt := 5) hx hb dX5_drops_37 (by decide) ?_
        rw [hw9] at h24
        rw [if_neg (by simpa using h24)] at hft
        rw [show ((E.take i).filter (· != kx)).length = ((E.take (i + 1)).filter (· != kx)).length from by rw [hft]] at hl
        exact ih5 (i + 1) (va_up ext1 (((E.take i).filter (· != kx)).length) (ext1 i)) (by omega) (by omega) (by rw [hft]; exact AL_up hlo (Nat.le_refl _)) (fun j hj => by rw [up_n _ _ (by omega)]; exact hhi j (by omega)) (bd_up hbd1 (hbd1 i)) _ _ hP hD hS _ (lv_sub hl [2, 3, 4, 1, 0] rfl)
set_option maxHeartbeats 4000000 in
set_option maxRecDepth 100000 in
theorem c_X5_drops_l (l : Launch) (D : va_G) (cy : ClassId) (bb : Nat → Nat) (sto : Nat → Nat) (vas : Nat → Nat) (sz : Nat) (cap : Nat) (low : Nat) (hig : Nat) (dpt : Nat → Nat) (glo : Nat) (ext : Nat → Nat) (mdb : Int32) (mhl : Int32) (msp : Int32) (mmg : Int32) (lin : Nat → Nat) (mlv : Nat) (mpt : Nat) (mls : Int32) (mov : Nat → Nat) (thr : Nat) (mny : Nat) (kx : Nat) (E : List Nat) (hE : AL lin E) (hm : mny = E.length) (hm2 : mny ≤ 120) (hbd : ∀ i, lin i < 65536) (hkx : kx < 65536) : tq_V (S := (Nat → Nat)) l yX5_drops cX5_drops 5 0 0 0 0 D cy (wM cy bb sto vas sz cap low hig dpt glo ext mdb mhl msp mmg lin mlv mpt mls mov thr) [.ref (bb 5), .int (nI (mny)), .int (nI (kx))] (fun u => AL u (E.filter (· != kx)) ∧ ∀ i, u i < 65536) (fun u => (wM cy bb sto vas sz cap low hig dpt glo ext mdb mhl msp mmg u mlv mpt mls mov thr)) := by
  refine tq_V.mk (by decide) (Nat.le_of_ble_eq_true rfl) ?_
  intro p e s m args below meth c A C hin hP hK hD hS hA ls hl
  obtain ⟨hx, hb, hml, hown, hrt, hlk, hT⟩ := id C
  have hl : lv_has ls 5 [(0, .ref (bb 5)), (1, .int (nI (mny))), (2, .int (nI (kx)))] := hl
  refine lv_iconst (v := nI 0) hx hb dX5_drops_0 (by decide) ?_
  refine lv_istore_n (lv' := [(3, .int (nI (0))), (0, .ref (bb 5)), (1, .int (nI (mny))), (2, .int (nI (kx)))]) hx hb dX5_drops_1 rfl hl (by decide) rfl (fun ls hl => ?_)
  refine lv_iconst (v := nI 0) hx hb dX5_drops_2 (by decide) ?_
  refine lv_istore (lv' := [(4, .int (nI (0))), (3, .int (nI (0))), (0, .ref (bb 5)), (1, .int (nI (mny))), (2, .int (nI (kx)))]) hx hb dX5_drops_3 hl (by decide) rfl (fun ls hl => ?_)
  suffices hlp5 : ∀ (n5 : Nat) (i : Nat) (lin1 : Nat → Nat), mny - i < n5 → (i ≤ mny) → (AL lin1 ((E.take i).filter (· != kx))) → (∀ j, i ≤ j → lin1 j = lin j) → (∀ j, lin1 j < 65536) → ∀ (H : Heap) (locs : List Loc), va_P D vwCl (wM cy bb sto vas sz cap low hig dpt glo ext mdb mhl msp mmg lin1 mlv mpt mls mov thr) H → va_D A (wM cy bb sto vas sz cap low hig dpt glo ext mdb mhl msp mmg lin1 mlv mpt mls mov thr) → va_S A s.heap H locs → ∀ ls : Array Slot, lv_has ls 5 [(0, .ref (bb 5)), (1, .int (nI (mny))), (2, .int (nI (kx))), (3, .int (nI (((E.take i).filter (· != kx)).length))), (4, .int (nI (i)))] → W p l e ({ frames := 0, cells := 0, slots := 0, locals := 0 } : Room) s m args below meth c H locs 0 0 (MQ below (va_Qv (S := (Nat → Nat)) (fun u => AL u (E.filter (· != kx)) ∧ ∀ i, u i < 65536) (tq_B D A (fun u => (wM cy bb sto vas sz cap low hig dpt glo ext mdb mhl msp mmg u mlv mpt mls mov thr))) A) args s 0 0 A) (F0 m 5 ls []) from
    hlp5 (mny + 1) 0 lin (by omega) (by omega) (by rw [List.take_zero]; exact AL_nil) (fun _ _ => rfl) (hbd) _ _ hP hD hS _ (lv_sub hl [2, 3, 4, 1, 0] rfl)
  intro n5
  induction n5 with
  | zero => intro i lin1 hf; exact absurd hf (Nat.not_lt_zero _)
  | succ n5 ih5 =>
    intro i lin1 hf5 hi hlo hhi hbd1 H locs hP hD hS ls hl
    refine lv_iload hx hb dX5_drops_5 (lv_at hl 4 rfl) ?_
    refine lv_iload_n hx hb dX5_drops_7 rfl (lv_at hl 1 rfl) ?_
    refine tq_icmp_ge (tgt := 40) C (by omega) (by omega) dX5_drops_8 (by decide) (fun h8 => ?_) (fun h8 => ?_)
    · exact tq_vret C (lin1) hP hD hS (⟨by rw [show i = E.length from by omega, List.take_length] at hlo; exact hlo, hbd1⟩) (Nat.le_of_ble_eq_true rfl) (Nat.le_of_ble_eq_true rfl) dX5_drops_40
    · have hi2 : i < E.length := by omega
      have hfl := flen (E := E) (p := (· != kx)) (i := i)
      have hft := filter_take (p := (· != kx)) hi2
      refine lv_aload_n hx hb dX5_drops_11 rfl (lv_at hl 0 rfl) ?_
      refine lv_iload_n hx hb dX5_drops_12 rfl (lv_at hl 3 rfl) ?_
      refine lv_aload_n hx hb dX5_drops_13 rfl (lv_at hl 0 rfl) ?_
      refine lv_iload hx hb dX5_drops_14 (lv_at hl 4 rfl) ?_
      refine tq_iald (n := 120) (i := i) (f := lin1) C hK hP 5 0 rfl rfl (by omega) (Nat.le_of_ble_eq_true rfl) dX5_drops_16 ?_
      refine tq_iast (n := 120) (i := (((E.take i).filter (· != kx)).length)) (v := (lin1 i)) (f := lin1) C hK hP hD hS 5 0 rfl rfl (by omega) (Nat.le_of_ble_eq_true rfl) dX5_drops_17 (fun H locs hP hD hS => ?_)
      have hP : va_P D vwCl (wM cy bb sto vas sz cap low hig dpt glo ext mdb mhl msp mmg (va_up lin1 (((E.take i).filter (· != kx)).length) (lin1 i)) mlv mpt mls mov thr) H := hP
      have hD : va_D A (wM cy bb sto vas sz cap low hig dpt glo ext mdb mhl msp mmg (va_up lin1 (((E.take i).filter (· != kx)).length) (lin1 i)) mlv mpt mls mov thr) := hD
      have hw9 : va_up lin1 (((E.take i).filter (· != kx)).length) (lin1 i) i = E.getD i 0 := by unfold va_up; rw [ite_self, hhi i (Nat.le_refl _)]; exact hE i hi2
      have hb9 := hbd1 i
      refine lv_iload_n hx hb dX5_drops_18 rfl (lv_at hl 3 rfl) ?_
      refine lv_aload_n hx hb dX5_drops_19 rfl (lv_at hl 0 rfl) ?_
      refine lv_iload hx hb dX5_drops_20 (lv_at hl 4 rfl) ?_
      refine tq_iald (n := 120) (i := i) (f := (va_up lin1 (((E.take i).filter (· != kx)).length) (lin1 i))) C hK hP 5 0 rfl rfl (by omega) (Nat.le_of_ble_eq_true rfl) dX5_drops_22 ?_
      refine lv_iload_n hx hb dX5_drops_23 rfl (lv_at hl 2 rfl) ?_
      refine tq_icmp_ne (tgt := 31) C (by have := bd_up (n := ((E.take i).filter (· != kx)).length) hbd1 (hbd1 i) i; omega) (by omega) dX5_drops_24 (by decide) (fun h24 => ?_) (fun h24 => ?_)
      · refine lv_iconst (v := nI 1) hx hb dX5_drops_31 (by decide) ?_
        refine tq_iadd C dX5_drops_32 ?_
        refine lv_istore_n (lv' := [(3, .int (nI ((((E.take i).filter (· != kx)).length) + 1))), (0, .ref (bb 5)), (1, .int (nI (mny))), (2, .int (nI (kx))), (4, .int (nI (i)))]) hx hb dX5_drops_33 rfl hl (by decide) rfl (fun ls hl => ?_)
        refine lv_iinc (v := (nI (i + 1))) (lv' := [(4, .int (nI (i + 1))), (3, .int (nI ((((E.take i).filter (· != kx)).length) + 1))), (0, .ref (bb 5)), (1, .int (nI (mny))), (2, .int (nI (kx)))]) hx hb dX5_drops_34 hl (k := 4) rfl (tq_inc1 _) (by decide) rfl (fun ls hl => ?_)
        refine lv_goto (tgt := 5) hx hb dX5_drops_37 (by decide) ?_
        rw [hw9] at h24
        rw [if_pos (by simpa using h24)] at hft
        rw [show ((E.take i).filter (· != kx)).length + 1 = ((E.take (i + 1)).filter (· != kx)).length from by rw [hft]; simp] at hl
        exact ih5 (i + 1) (va_up lin1 (((E.take i).filter (· != kx)).length) (lin1 i)) (by omega) (by omega) (by rw [hft, ← hE i hi2, ← hhi i (Nat.le_refl _)]; exact AL_push hlo rfl) (fun j hj => by rw [up_n _ _ (by omega)]; exact hhi j (by omega)) (bd_up hbd1 (hbd1 i)) _ _ hP hD hS _ (lv_sub hl [2, 3, 4, 1, 0] rfl)
      · refine lv_iconst (v := nI 0) hx hb dX5_drops_27 (by decide) ?_
        refine lv_goto (tgt := 32) hx hb dX5_drops_28 (by decide) ?_
        refine tq_iadd C dX5_drops_32 ?_
        refine lv_istore_n (lv' := [(3, .int (nI ((((E.take i).filter (· != kx)).length) + 0))), (0, .ref (bb 5)), (1, .int (nI (mny))), (2, .int (nI (kx))), (4, .int (nI (i)))]) hx hb dX5_drops_33 rfl hl (by decide) rfl (fun ls hl => ?_)
        refine lv_iinc (v := (nI (i + 1))) (lv' := [(4, .int (nI (i + 1))), (3, .int (nI ((((E.take i).filter (· != kx)).length) + 0))), (0, .ref (bb 5)), (1, .int (nI (mny))), (2, .int (nI (kx)))]) hx hb dX5_drops_34 hl (k := 4) rfl (tq_inc1 _) (by decide) rfl (fun ls hl => ?_)
        refine lv_goto (tgt := 5) hx hb dX5_drops_37 (by decide) ?_
        rw [hw9] at h24
        rw [if_neg (by simpa using h24)] at hft
        rw [show ((E.take i).filter (· != kx)).length = ((E.take (i + 1)).filter (· != kx)).length from by rw [hft]] at hl
        exact ih5 (i + 1) (va_up lin1 (((E.take i).filter (· != kx)).length) (lin1 i)) (by omega) (by omega) (by rw [hft]; exact AL_up hlo (Nat.le_refl _)) (fun j hj => by rw [up_n _ _ (by omega)]; exact hhi j (by omega)) (bd_up hbd1 (hbd1 i)) _ _ hP hD hS _ (lv_sub hl [2, 3, 4, 1, 0] rfl)
set_option maxHeartbeats 4000000 in
set_option maxRecDepth 100000 in
theorem c_X5_belongs (l : Launch) (D : va_G) (cy : ClassId)  (kx : Nat) (pt : Nat) (nb : Nat) (hkx : kx < 65536) (hpt : pt < 65536) (hnb : nb ≤ 16) : tq_F l yX5_belongs cX5_belongs 3 (some .boolean) 1 21 D cy [] [.int (nI (kx)), .int (nI (pt)), .int (nI (nb))] (fun r => ((hs kx % 2 ^ nb = pt % 2 ^ nb) ∧ r = nI 1) ∨ (¬ (hs kx % 2 ^ nb = pt % 2 ^ nb) ∧ r = nI 0)) := by
  refine tq_F.mk (by decide) (Nat.le_of_ble_eq_true rfl) ?_
  intro p e s m args below meth c C hP hK ls hl
  obtain ⟨hx, hb, hml, hown, hrt, hlk, hT⟩ := id C
  have hl : lv_has ls 3 [(0, .int (nI (kx))), (1, .int (nI (pt))), (2, .int (nI (nb)))] := hl
  have hh := hs_lt kx
  have hxx := Nat.xor_lt_two_pow (n := 16) hh hpt
  have hml := Nat.mod_le (hs kx ^^^ pt) (2 ^ nb)
  refine lv_iload_n hx hb dX5_belongs_0 rfl (lv_at hl 0 rfl) ?_
  refine tq_callF (va_runS C.fix (As := [.int (nI (kx))]) (rest := []) (c_X5_hash l D cy kx hkx) (tq_cS (n := 1) C ml_X5_54 sm_X5_hash ini_X5 cd_X5_hash ⟨by decide, by decide, by decide +kernel⟩ ⟨Nat.le_of_ble_eq_true rfl, Nat.le_of_ble_eq_true rfl⟩) ⟨tq_Pf.blind, tq_preF C hK (hP.sub [] rfl)⟩ rfl rfl hl.1 rfl (lv_room (Nat.le_of_ble_eq_true rfl)) dX5_belongs_1 ⟨Nat.le_of_ble_eq_true rfl, Nat.le_of_ble_eq_true rfl⟩) (fun r1 hr1 => ?_)
  obtain rfl := hr1
  refine lv_iload_n hx hb dX5_belongs_4 rfl (lv_at hl 1 rfl) ?_
  refine tq_ixor C (by omega) (by omega) dX5_belongs_5 ?_
  refine lv_iload_n hx hb dX5_belongs_6 rfl (lv_at hl 2 rfl) ?_
  refine tq_callF (va_runS C.fix (As := [.int (nI ((hs kx) ^^^ pt)), .int (nI (nb))]) (rest := []) (c_X5_lowest l D cy ((hs kx) ^^^ pt) nb (by omega) hnb) (tq_cS (n := 2) C ml_X5_58 sm_X5_lowest ini_X5 cd_X5_lowest ⟨by decide, by decide, by decide +kernel⟩ ⟨Nat.le_of_ble_eq_true rfl, Nat.le_of_ble_eq_true rfl⟩) ⟨tq_Pf.blind, tq_preF C hK (hP.sub [] rfl)⟩ rfl rfl hl.1 rfl (lv_room (Nat.le_of_ble_eq_true rfl)) dX5_belongs_7 ⟨Nat.le_of_ble_eq_true rfl, Nat.le_of_ble_eq_true rfl⟩) (fun r7 hr7 => ?_)
  obtain rfl := hr7
  refine tq_if_ne (tgt := 17) C (by omega) dX5_belongs_10 (by decide) (fun h10 => ?_) (fun h10 => ?_)
  · refine lv_iconst (v := nI 0) hx hb dX5_belongs_17 (by decide) ?_
    exact tq_fret (v := (nI (0))) C (by decide) (Or.inr ⟨fun q => h10 (xor_zero.mpr q), rfl⟩) dX5_belongs_18
  · refine lv_iconst (v := nI 1) hx hb dX5_belongs_13 (by decide) ?_
    refine lv_goto (tgt := 18) hx hb dX5_belongs_14 (by decide) ?_
    exact tq_fret (v := (nI (1))) C (by decide) (Or.inl ⟨xor_zero.mp h10, rfl⟩) dX5_belongs_18
set_option maxHeartbeats 4000000 in
set_option maxRecDepth 100000 in
theorem c_X5_inBucket (l : Launch) (D : va_G) (cy : ClassId) (bb : Nat → Nat) (sto : Nat → Nat) (vas : Nat → Nat) (sz : Nat) (cap : Nat) (low : Nat) (hig : Nat) (dpt : Nat → Nat) (glo : Nat) (ext : Nat → Nat) (mdb : Int32) (mhl : Int32) (msp : Int32) (mmg : Int32) (lin : Nat → Nat) (mlv : Nat) (mpt : Nat) (mls : Int32) (mov : Nat → Nat) (thr : Nat) (pt : Nat) (nb : Nat) (E : List Nat) (hE : AL ext E) (hsz : sz = E.length) (hsz2 : sz ≤ 120) (hbd : ∀ i, ext i < 65536) (hpt : pt < 65536) (hnb : nb ≤ 16) : tq_F l yX5_inBucket cX5_inBucket 5 (some .int) 2 43 D cy (wM cy bb sto vas sz cap low hig dpt glo ext mdb mhl msp mmg lin mlv mpt mls mov thr) [.ref (bb 0), .int (nI (pt)), .int (nI (nb))] (fun r => r = (nI (cntB E pt nb))) := by
  refine tq_F.mk (by decide) (Nat.le_of_ble_eq_true rfl) ?_
  intro p e s m args below meth c C hP hK ls hl
  obtain ⟨hx, hb, hml, hown, hrt, hlk, hT⟩ := id C
  have hl : lv_has ls 5 [(0, .ref (bb 0)), (1, .int (nI (pt))), (2, .int (nI (nb)))] := hl
  refine lv_iconst (v := nI 0) hx hb dX5_inBucket_0 (by decide) ?_
  refine lv_istore_n (lv' := [(3, .int (nI (0))), (0, .ref (bb 0)), (1, .int (nI (pt))), (2, .int (nI (nb)))]) hx hb dX5_inBucket_1 rfl hl (by decide) rfl (fun ls hl => ?_)
  refine lv_iconst (v := nI 0) hx hb dX5_inBucket_2 (by decide) ?_
  refine lv_istore (lv' := [(4, .int (nI (0))), (3, .int (nI (0))), (0, .ref (bb 0)), (1, .int (nI (pt))), (2, .int (nI (nb)))]) hx hb dX5_inBucket_3 hl (by decide) rfl (fun ls hl => ?_)
  suffices hlp5 : ∀ (n5 : Nat) (i : Nat), sz - i < n5 → (i ≤ sz) → ∀ ls : Array Slot, lv_has ls 5 [(0, .ref (bb 0)), (1, .int (nI (pt))), (2, .int (nI (nb))), (3, .int (nI (cntB (E.take i) pt nb))), (4, .int (nI (i)))] → W p l e ({ frames := 2, cells := 0, slots := 0, locals := 43 } : Room) s m args below meth c s.heap [] 0 0 (MQ below (tq_Qf (fun r => r = (nI (cntB E pt nb)))) args s 0 0 (fun _ => False)) (F0 m 5 ls []) from
    hlp5 (sz + 1) 0 (by omega) (by omega) _ (lv_sub hl [2, 3, 4, 1, 0] rfl)
  intro n5
  induction n5 with
  | zero => intro i hf; exact absurd hf (Nat.not_lt_zero _)
  | succ n5 ih5 =>
    intro i hf5 hi ls hl
    refine lv_iload hx hb dX5_inBucket_5 (lv_at hl 4 rfl) ?_
    refine lv_aload_n hx hb dX5_inBucket_7 rfl (lv_at hl 0 rfl) ?_
    refine tq_get (C0 := RX5) (T := TX5) (N := 19) (ci := 5) (k := 2) C gX5 inX5 rfl (by decide) rfl fl_X5_51 hK hP 0 rfl rfl dX5_inBucket_8 ?_
    refine tq_icmp_ge (tgt := 43) C (by omega) (by omega) dX5_inBucket_11 (by decide) (fun h11 => ?_) (fun h11 => ?_)
    · refine lv_iload_n hx hb dX5_inBucket_43 rfl (lv_at hl 3 rfl) ?_
      exact tq_fret (v := (nI (cntB (E.take i) pt nb))) C rfl (by rw [show i = E.length from by omega, List.take_length]) dX5_inBucket_44
    · have hi2 : i < E.length := by omega
      have hct := cnt_take (x := pt) (b := nb) hi2
      rw [← hE i hi2] at hct
      refine lv_iload_n hx hb dX5_inBucket_14 rfl (lv_at hl 3 rfl) ?_
      refine lv_aload_n hx hb dX5_inBucket_15 rfl (lv_at hl 0 rfl) ?_
      refine tq_get (C0 := RX5) (T := TX5) (N := 19) (ci := 5) (k := 8) C gX5 inX5 rfl (by decide) rfl fl_X5_29 hK hP 0 rfl rfl dX5_inBucket_16 ?_
      refine lv_iload hx hb dX5_inBucket_19 (lv_at hl 4 rfl) ?_
      refine tq_iald (n := 120) (i := i) (f := ext) C hK hP 4 0 rfl rfl (by omega) (Nat.le_of_ble_eq_true rfl) dX5_inBucket_21 ?_
      refine lv_iload_n hx hb dX5_inBucket_22 rfl (lv_at hl 1 rfl) ?_
      refine lv_iload_n hx hb dX5_inBucket_23 rfl (lv_at hl 2 rfl) ?_
      refine tq_callF (va_runS C.fix (As := [.int (nI (ext i)), .int (nI (pt)), .int (nI (nb))]) (rest := [.int (nI (cntB (E.take i) pt nb))]) (c_X5_belongs l D cy (ext i) pt nb (hbd i) hpt hnb) (tq_cS (n := 3) C ml_X5_62 sm_X5_belongs ini_X5 cd_X5_belongs ⟨by decide, by decide, by decide +kernel⟩ ⟨Nat.le_of_ble_eq_true rfl, Nat.le_of_ble_eq_true rfl⟩) ⟨tq_Pf.blind, tq_preF C hK (hP.sub [] rfl)⟩ rfl rfl hl.1 rfl (lv_room (Nat.le_of_ble_eq_true rfl)) dX5_inBucket_24 ⟨Nat.le_of_ble_eq_true rfl, Nat.le_of_ble_eq_true rfl⟩) (fun r24 hr24 => ?_)
      rcases hr24 with ⟨hr24, rfl⟩ | ⟨hr24, rfl⟩
      · rw [if_pos hr24] at hct
        refine lv_if_eq (tgt := 34) hx hb dX5_inBucket_27 (by decide) (fun h9 => absurd h9 (by decide)) (fun _ => ?_)
        refine lv_iconst (v := nI 1) hx hb dX5_inBucket_30 (by decide) ?_
        refine lv_goto (tgt := 35) hx hb dX5_inBucket_31 (by decide) ?_
        refine tq_iadd C dX5_inBucket_35 ?_
        refine lv_istore_n (lv' := [(3, .int (nI ((cntB (E.take i) pt nb) + 1))), (0, .ref (bb 0)), (1, .int (nI (pt))), (2, .int (nI (nb))), (4, .int (nI (i)))]) hx hb dX5_inBucket_36 rfl hl (by decide) rfl (fun ls hl => ?_)
        refine lv_iinc (v := (nI (i + 1))) (lv' := [(4, .int (nI (i + 1))), (3, .int (nI ((cntB (E.take i) pt nb) + 1))), (0, .ref (bb 0)), (1, .int (nI (pt))), (2, .int (nI (nb)))]) hx hb dX5_inBucket_37 hl (k := 4) rfl (tq_inc1 _) (by decide) rfl (fun ls hl => ?_)
        refine lv_goto (tgt := 5) hx hb dX5_inBucket_40 (by decide) ?_
        rw [← hct] at hl
        exact ih5 (i + 1) (by omega) (by omega) _ (lv_sub hl [2, 3, 4, 1, 0] rfl)
      · rw [if_neg hr24] at hct
        refine lv_if_eq (tgt := 34) hx hb dX5_inBucket_27 (by decide) (fun _ => ?_) (fun h9 => absurd (by decide : nI 0 = 0) h9)
        refine lv_iconst (v := nI 0) hx hb dX5_inBucket_34 (by decide) ?_
        refine tq_iadd C dX5_inBucket_35 ?_
        refine lv_istore_n (lv' := [(3, .int (nI ((cntB (E.take i) pt nb) + 0))), (0, .ref (bb 0)), (1, .int (nI (pt))), (2, .int (nI (nb))), (4, .int (nI (i)))]) hx hb dX5_inBucket_36 rfl hl (by decide) rfl (fun ls hl => ?_)
        refine lv_iinc (v := (nI (i + 1))) (lv' := [(4, .int (nI (i + 1))), (3, .int (nI ((cntB (E.take i) pt nb) + 0))), (0, .ref (bb 0)), (1, .int (nI (pt))), (2, .int (nI (nb)))]) hx hb dX5_inBucket_37 hl (k := 4) rfl (tq_inc1 _) (by decide) rfl (fun ls hl => ?_)
        refine lv_goto (tgt := 5) hx hb dX5_inBucket_40 (by decide) ?_
        rw [← hct] at hl
        exact ih5 (i + 1) (by omega) (by omega) _ (lv_sub hl [2, 3, 4, 1, 0] rfl)
set_option maxHeartbeats 4000000 in
set_option maxRecDepth 100000 in
theorem c_X5_deepens (l : Launch) (D : va_G) (cy : ClassId) (bb : Nat → Nat) (sto : Nat → Nat) (vas : Nat → Nat) (sz : Nat) (cap : Nat) (low : Nat) (hig : Nat) (dpt : Nat → Nat) (glo : Nat) (ext : Nat → Nat) (mdb : Int32) (mhl : Int32) (msp : Int32) (mmg : Int32) (lin : Nat → Nat) (mlv : Nat) (mpt : Nat) (mls : Int32) (mov : Nat → Nat) (thr : Nat) (pt : Nat) (nb : Nat) (tv : Nat) (hpt : pt < 256) (hnb : nb ≤ 16) : tq_V (S := (Nat → Nat)) l yX5_deepens cX5_deepens 5 1 21 0 0 D cy (wM cy bb sto vas sz cap low hig dpt glo ext mdb mhl msp mmg lin mlv mpt mls mov thr) [.ref (bb 0), .int (nI (pt)), .int (nI (nb)), .int (nI (tv))] (fun u => ∀ q, u q = if q < 256 ∧ q % 2 ^ nb = pt % 2 ^ nb then tv else dpt q) (fun u => (wM cy bb sto vas sz cap low hig u glo ext mdb mhl msp mmg lin mlv mpt mls mov thr)) := by
  refine tq_V.mk (by decide) (Nat.le_of_ble_eq_true rfl) ?_
  intro p e s m args below meth c A C hin hP hK hD hS hA ls hl
  obtain ⟨hx, hb, hml, hown, hrt, hlk, hT⟩ := id C
  have hl : lv_has ls 5 [(0, .ref (bb 0)), (1, .int (nI (pt))), (2, .int (nI (nb))), (3, .int (nI (tv)))] := hl
  refine lv_iconst (v := nI 0) hx hb dX5_deepens_0 (by decide) ?_
  refine lv_istore (lv' := [(4, .int (nI (0))), (0, .ref (bb 0)), (1, .int (nI (pt))), (2, .int (nI (nb))), (3, .int (nI (tv)))]) hx hb dX5_deepens_1 hl (by decide) rfl (fun ls hl => ?_)
  suffices hlp3 : ∀ (n3 : Nat) (i : Nat) (dpt1 : Nat → Nat), 256 - i < n3 → (i ≤ 256) → (∀ q, dpt1 q = if q < i ∧ q % 2 ^ nb = pt % 2 ^ nb then tv else dpt q) → ∀ (H : Heap) (locs : List Loc), va_P D vwCl (wM cy bb sto vas sz cap low hig dpt1 glo ext mdb mhl msp mmg lin mlv mpt mls mov thr) H → va_D A (wM cy bb sto vas sz cap low hig dpt1 glo ext mdb mhl msp mmg lin mlv mpt mls mov thr) → va_S A s.heap H locs → ∀ ls : Array Slot, lv_has ls 5 [(0, .ref (bb 0)), (1, .int (nI (pt))), (2, .int (nI (nb))), (3, .int (nI (tv))), (4, .int (nI (i)))] → W p l e ({ frames := 1, cells := 0, slots := 0, locals := 21 } : Room) s m args below meth c H locs 0 0 (MQ below (va_Qv (S := (Nat → Nat)) (fun u => ∀ q, u q = if q < 256 ∧ q % 2 ^ nb = pt % 2 ^ nb then tv else dpt q) (tq_B D A (fun u => (wM cy bb sto vas sz cap low hig u glo ext mdb mhl msp mmg lin mlv mpt mls mov thr))) A) args s 0 0 A) (F0 m 3 ls []) from
    hlp3 257 0 dpt (by omega) (by omega) (fun q => by rw [if_neg (by omega)]) _ _ hP hD hS _ (lv_sub hl [1, 2, 3, 4, 0] rfl)
  intro n3
  induction n3 with
  | zero => intro i dpt1 hf; exact absurd hf (Nat.not_lt_zero _)
  | succ n3 ih3 =>
    intro i dpt1 hf3 hi hq H locs hP hD hS ls hl
    refine lv_iload hx hb dX5_deepens_3 (lv_at hl 4 rfl) ?_
    refine lv_sipush (v := nI 256) hx hb dX5_deepens_5 (by decide) ?_
    refine tq_icmp_ge (tgt := 46) C (by omega) (by omega) dX5_deepens_8 (by decide) (fun h8 => ?_) (fun h8 => ?_)
    · exact tq_vret C (dpt1) hP hD hS (fun q => by rw [hq q, show i = 256 from by omega]) (Nat.le_of_ble_eq_true rfl) (Nat.le_of_ble_eq_true rfl) dX5_deepens_46
    · have hxx := Nat.xor_lt_two_pow (n := 8) (show i < 256 by omega) hpt
      have hml := Nat.mod_le (i ^^^ pt) (2 ^ nb)
      refine lv_aload_n hx hb dX5_deepens_11 rfl (lv_at hl 0 rfl) ?_
      refine tq_get (C0 := RX5) (T := TX5) (N := 19) (ci := 5) (k := 6) C gX5 inX5 rfl (by decide) rfl fl_X5_26 hK hP 0 rfl rfl dX5_deepens_12 ?_
      refine lv_iload hx hb dX5_deepens_15 (lv_at hl 4 rfl) ?_
      refine lv_iload hx hb dX5_deepens_17 (lv_at hl 4 rfl) ?_
      refine lv_iload_n hx hb dX5_deepens_19 rfl (lv_at hl 1 rfl) ?_
      refine tq_ixor C (by omega) (by omega) dX5_deepens_20 ?_
      refine lv_iload_n hx hb dX5_deepens_21 rfl (lv_at hl 2 rfl) ?_
      refine tq_callF (va_runS C.fix (As := [.int (nI (i ^^^ pt)), .int (nI (nb))]) (rest := [.int (nI (i)), .ref (bb 3)]) (c_X5_lowest l D cy (i ^^^ pt) nb (by omega) hnb) (tq_cS (n := 2) C ml_X5_58 sm_X5_lowest ini_X5 cd_X5_lowest ⟨by decide, by decide, by decide +kernel⟩ ⟨Nat.le_of_ble_eq_true rfl, Nat.le_of_ble_eq_true rfl⟩) ⟨tq_Pf.blind, tq_preF C hK (hP.sub [] rfl)⟩ rfl rfl hl.1 rfl (lv_room (Nat.le_of_ble_eq_true rfl)) dX5_deepens_22 ⟨Nat.le_of_ble_eq_true rfl, Nat.le_of_ble_eq_true rfl⟩) (fun r22 hr22 => ?_)
      obtain rfl := hr22
      refine tq_if_ne (tgt := 32) C (by omega) dX5_deepens_25 (by decide) (fun h25 => ?_) (fun h25 => ?_)
      · refine lv_aload_n hx hb dX5_deepens_32 rfl (lv_at hl 0 rfl) ?_
        refine tq_get (C0 := RX5) (T := TX5) (N := 19) (ci := 5) (k := 6) C gX5 inX5 rfl (by decide) rfl fl_X5_26 hK hP 0 rfl rfl dX5_deepens_33 ?_
        refine lv_iload hx hb dX5_deepens_36 (lv_at hl 4 rfl) ?_
        refine tq_iald (n := 256) (i := i) (f := dpt1) C hK hP 3 0 rfl rfl (by omega) (Nat.le_of_ble_eq_true rfl) dX5_deepens_38 ?_
        refine tq_iast (n := 256) (i := i) (v := (dpt1 i)) (f := dpt1) C hK hP hD hS 3 0 rfl rfl (by omega) (Nat.le_of_ble_eq_true rfl) dX5_deepens_39 (fun H locs hP hD hS => ?_)
        have hP : va_P D vwCl (wM cy bb sto vas sz cap low hig (va_up dpt1 i (dpt1 i)) glo ext mdb mhl msp mmg lin mlv mpt mls mov thr) H := hP
        have hD : va_D A (wM cy bb sto vas sz cap low hig (va_up dpt1 i (dpt1 i)) glo ext mdb mhl msp mmg lin mlv mpt mls mov thr) := hD
        refine lv_iinc (v := (nI (i + 1))) (lv' := [(4, .int (nI (i + 1))), (0, .ref (bb 0)), (1, .int (nI (pt))), (2, .int (nI (nb))), (3, .int (nI (tv)))]) hx hb dX5_deepens_40 hl (k := 4) rfl (tq_inc1 _) (by decide) rfl (fun ls hl => ?_)
        refine lv_goto (tgt := 3) hx hb dX5_deepens_43 (by decide) ?_
        exact ih3 (i + 1) (va_up dpt1 i (dpt1 i)) (by omega) (by omega) (fun q => (by
          rw [← sd_no (fun z => h25 (xor_zero.mpr z))]
          by_cases z : q = i
          · rw [z, up_s, hq i]
          · rw [up_n _ _ z, hq q])) _ _ hP hD hS _ (lv_sub hl [1, 2, 3, 4, 0] rfl)
      · refine lv_iload_n hx hb dX5_deepens_28 rfl (lv_at hl 3 rfl) ?_
        refine lv_goto (tgt := 39) hx hb dX5_deepens_29 (by decide) ?_
        refine tq_iast (n := 256) (i := i) (v := tv) (f := dpt1) C hK hP hD hS 3 0 rfl rfl (by omega) (Nat.le_of_ble_eq_true rfl) dX5_deepens_39 (fun H locs hP hD hS => ?_)
        have hP : va_P D vwCl (wM cy bb sto vas sz cap low hig (va_up dpt1 i tv) glo ext mdb mhl msp mmg lin mlv mpt mls mov thr) H := hP
        have hD : va_D A (wM cy bb sto vas sz cap low hig (va_up dpt1 i tv) glo ext mdb mhl msp mmg lin mlv mpt mls mov thr) := hD
        refine lv_iinc (v := (nI (i + 1))) (lv' := [(4, .int (nI (i + 1))), (0, .ref (bb 0)), (1, .int (nI (pt))), (2, .int (nI (nb))), (3, .int (nI (tv)))]) hx hb dX5_deepens_40 hl (k := 4) rfl (tq_inc1 _) (by decide) rfl (fun ls hl => ?_)
        refine lv_goto (tgt := 3) hx hb dX5_deepens_43 (by decide) ?_
        exact ih3 (i + 1) (va_up dpt1 i tv) (by omega) (by omega) (fun q => sd_step (xor_zero.mp h25) hq) _ _ hP hD hS _ (lv_sub hl [1, 2, 3, 4, 0] rfl)
set_option maxHeartbeats 4000000 in
set_option maxRecDepth 100000 in
theorem c_X5_puts (l : Launch) (D : va_G) (cy : ClassId) (bb : Nat → Nat) (sto : Nat → Nat) (vas : Nat → Nat) (sz : Nat) (cap : Nat) (low : Nat) (hig : Nat) (dpt : Nat → Nat) (glo : Nat) (ext : Nat → Nat) (mdb : Int32) (mhl : Int32) (msp : Int32) (mmg : Int32) (lin : Nat → Nat) (mlv : Nat) (mpt : Nat) (mls : Int32) (mov : Nat → Nat) (thr : Nat) (kx : Nat) (dep : Nat → Nat) (hd : ∀ q, q < 256 → dpt q = dep q) (hX : XOK dep glo) (E : List Nat) (hE : AL ext E) (hsz : sz = E.length) (hsz2 : sz < 120) (hbd : ∀ i, ext i < 65536) (hkx : kx < 65536) (hcp2 : cap ≤ 5) : tq_V (S := (Nat → Nat) × Nat × Int32 × Int32) l yX5_puts cX5_puts 4 3 67 0 0 D cy (wM cy bb sto vas sz cap low hig dpt glo ext mdb mhl msp mmg lin mlv mpt mls mov thr) [.ref (bb 0), .int (nI (kx))] (fun u => (∀ q, q < 256 → u.1 q = (pS cap E (hs kx % 256) 9 (dep, glo, mdb, msp)).1 q) ∧ (u.2.1, u.2.2.1, u.2.2.2) = (pS cap E (hs kx % 256) 9 (dep, glo, mdb, msp)).2 ∧ XOK (pS cap E (hs kx % 256) 9 (dep, glo, mdb, msp)).1 (pS cap E (hs kx % 256) 9 (dep, glo, mdb, msp)).2.1) (fun u => (wM cy bb sto vas sz cap low hig u.1 u.2.1 (va_up ext sz kx) u.2.2.1 mhl u.2.2.2 mmg lin mlv mpt mls mov thr)) := by
  refine tq_V.mk (by decide) (Nat.le_of_ble_eq_true rfl) ?_
  intro p e s m args below meth c A C hin hP hK hD hS hA ls hl
  obtain ⟨hx, hb, hml, hown, hrt, hlk, hT⟩ := id C
  have hl : lv_has ls 4 [(0, .ref (bb 0)), (1, .int (nI (kx)))] := hl
  have hh := hs_lt kx
  have hxx := mod_lt256 (hs kx)
  refine lv_iload_n hx hb dX5_puts_0 rfl (lv_at hl 1 rfl) ?_
  refine tq_callF (va_runS C.fix (As := [.int (nI (kx))]) (rest := []) (c_X5_hash l D cy kx hkx) (tq_cS (n := 1) C ml_X5_54 sm_X5_hash ini_X5 cd_X5_hash ⟨by decide, by decide, by decide +kernel⟩ ⟨Nat.le_of_ble_eq_true rfl, Nat.le_of_ble_eq_true rfl⟩) ⟨tq_Pf.blind, tq_preF C hK (hP.sub [] rfl)⟩ rfl rfl hl.1 rfl (lv_room (Nat.le_of_ble_eq_true rfl)) dX5_puts_1 ⟨Nat.le_of_ble_eq_true rfl, Nat.le_of_ble_eq_true rfl⟩) (fun r1 hr1 => ?_)
  obtain rfl := hr1
  refine lv_sipush (v := nI 255) hx hb dX5_puts_4 (by decide) ?_
  refine tq_iandM (b := 8) C (by omega) (by decide) (by omega) dX5_puts_7 ?_
  refine tq_top (y := nI ((hs kx % 256))) (rfl) ?_
  refine lv_istore_n (lv' := [(2, .int (nI ((hs kx % 256)))), (0, .ref (bb 0)), (1, .int (nI (kx)))]) hx hb dX5_puts_8 rfl hl (by decide) rfl (fun ls hl => ?_)
  suffices hlp9 : ∀ (n9 : Nat) (k : Nat) (dep1 : Nat → Nat) (dpt1 : Nat → Nat) (glo1 : Nat) (mdb1 : Int32) (msp1 : Int32), k < n9 → (9 ≤ k + dep1 (hs kx % 256)) → (∀ q, q < 256 → dpt1 q = dep1 q) → (XOK dep1 glo1) → (pS cap E (hs kx % 256) k (dep1, glo1, mdb1, msp1) = pS cap E (hs kx % 256) 9 (dep, glo, mdb, msp)) → ∀ (H : Heap) (locs : List Loc), va_P D vwCl (wM cy bb sto vas sz cap low hig dpt1 glo1 ext mdb1 mhl msp1 mmg lin mlv mpt mls mov thr) H → va_D A (wM cy bb sto vas sz cap low hig dpt1 glo1 ext mdb1 mhl msp1 mmg lin mlv mpt mls mov thr) → va_S A s.heap H locs → ∀ ls : Array Slot, lv_has ls 4 [(0, .ref (bb 0)), (1, .int (nI (kx))), (2, .int (nI ((hs kx % 256))))] → W p l e ({ frames := 3, cells := 0, slots := 0, locals := 67 } : Room) s m args below meth c H locs 0 0 (MQ below (va_Qv (S := (Nat → Nat) × Nat × Int32 × Int32) (fun u => (∀ q, q < 256 → u.1 q = (pS cap E (hs kx % 256) 9 (dep, glo, mdb, msp)).1 q) ∧ (u.2.1, u.2.2.1, u.2.2.2) = (pS cap E (hs kx % 256) 9 (dep, glo, mdb, msp)).2 ∧ XOK (pS cap E (hs kx % 256) 9 (dep, glo, mdb, msp)).1 (pS cap E (hs kx % 256) 9 (dep, glo, mdb, msp)).2.1) (tq_B D A (fun u => (wM cy bb sto vas sz cap low hig u.1 u.2.1 (va_up ext sz kx) u.2.2.1 mhl u.2.2.2 mmg lin mlv mpt mls mov thr))) A) args s 0 0 A) (F0 m 9 ls []) from
    hlp9 10 9 dep dpt glo mdb msp (by omega) (Nat.le_add_right _ _) (hd) (hX) (rfl) _ _ hP hD hS _ (lv_sub hl [1, 2, 0] rfl)
  intro n9
  induction n9 with
  | zero => intro k dep1 dpt1 glo1 mdb1 msp1 hf; exact absurd hf (Nat.not_lt_zero _)
  | succ n9 ih9 =>
    intro k dep1 dpt1 glo1 mdb1 msp1 hf9 hk hd1 hX1 hres H locs hP hD hS ls hl
    have hdx := hd1 (hs kx % 256) hxx
    have hx8 := hX1.2.1 (hs kx % 256) hxx
    have hg8 := hX1.1
    have hcl : cntB E (hs kx % 256) (dpt1 (hs kx % 256)) ≤ 120 := by unfold cntB; exact Nat.le_trans (List.length_filter_le _ _) (by omega)
    refine lv_aload_n hx hb dX5_puts_9 rfl (lv_at hl 0 rfl) ?_
    refine tq_get (C0 := RX5) (T := TX5) (N := 19) (ci := 5) (k := 6) C gX5 inX5 rfl (by decide) rfl fl_X5_26 hK hP 0 rfl rfl dX5_puts_10 ?_
    refine lv_iload_n hx hb dX5_puts_13 rfl (lv_at hl 2 rfl) ?_
    refine tq_iald (n := 256) (i := (hs kx % 256)) (f := dpt1) C hK hP 3 0 rfl rfl (by omega) (Nat.le_of_ble_eq_true rfl) dX5_puts_14 ?_
    refine lv_bipush (v := nI 8) hx hb dX5_puts_15 (by decide) ?_
    refine tq_icmp_ge (tgt := 95) C (by omega) (by omega) dX5_puts_17 (by decide) (fun h17 => ?_) (fun h17 => ?_)
    · have hR9 := pS_end hres (Or.inl (show 8 ≤ dep1 (hs kx % 256) by omega))
      refine lv_aload_n hx hb dX5_puts_95 rfl (lv_at hl 0 rfl) ?_
      refine tq_get (C0 := RX5) (T := TX5) (N := 19) (ci := 5) (k := 8) C gX5 inX5 rfl (by decide) rfl fl_X5_29 hK hP 0 rfl rfl dX5_puts_96 ?_
      refine lv_aload_n hx hb dX5_puts_99 rfl (lv_at hl 0 rfl) ?_
      refine tq_get (C0 := RX5) (T := TX5) (N := 19) (ci := 5) (k := 2) C gX5 inX5 rfl (by decide) rfl fl_X5_51 hK hP 0 rfl rfl dX5_puts_100 ?_
      refine lv_iload_n hx hb dX5_puts_103 rfl (lv_at hl 1 rfl) ?_
      refine tq_iast (n := 120) (i := sz) (v := kx) (f := ext) C hK hP hD hS 4 0 rfl rfl (by omega) (Nat.le_of_ble_eq_true rfl) dX5_puts_104 (fun H locs hP hD hS => ?_)
      have hP : va_P D vwCl (wM cy bb sto vas sz cap low hig dpt1 glo1 (va_up ext sz kx) mdb1 mhl msp1 mmg lin mlv mpt mls mov thr) H := hP
      have hD : va_D A (wM cy bb sto vas sz cap low hig dpt1 glo1 (va_up ext sz kx) mdb1 mhl msp1 mmg lin mlv mpt mls mov thr) := hD
      exact tq_vret C (dpt1, glo1, mdb1, msp1) hP hD hS (⟨fun q hq => by rw [← hR9]; exact hd1 q hq, by rw [← hR9], by rw [← hR9]; exact hX1⟩) (Nat.le_of_ble_eq_true rfl) (Nat.le_of_ble_eq_true rfl) dX5_puts_105
    · refine lv_aload_n hx hb dX5_puts_20 rfl (lv_at hl 0 rfl) ?_
      refine lv_iload_n hx hb dX5_puts_21 rfl (lv_at hl 2 rfl) ?_
      refine lv_aload_n hx hb dX5_puts_22 rfl (lv_at hl 0 rfl) ?_
      refine tq_get (C0 := RX5) (T := TX5) (N := 19) (ci := 5) (k := 6) C gX5 inX5 rfl (by decide) rfl fl_X5_26 hK hP 0 rfl rfl dX5_puts_23 ?_
      refine lv_iload_n hx hb dX5_puts_26 rfl (lv_at hl 2 rfl) ?_
      refine tq_iald (n := 256) (i := (hs kx % 256)) (f := dpt1) C hK hP 3 0 rfl rfl (by omega) (Nat.le_of_ble_eq_true rfl) dX5_puts_27 ?_
      refine tq_callF (va_runV C.fix (As := [.int (nI ((hs kx % 256))), .int (nI (dpt1 (hs kx % 256)))]) (rest := []) (c_X5_inBucket l D cy bb sto vas sz cap low hig dpt1 glo1 ext mdb1 mhl msp1 mmg lin mlv mpt mls mov thr (hs kx % 256) (dpt1 (hs kx % 256)) E hE hsz (by omega) hbd (by omega) (by omega)) (tq_cV (n := 2) C ml_X5_65 im_X5_inBucket se_X5_inBucket ini_X5 cd_X5_inBucket ⟨by decide, by decide, by decide +kernel⟩ ⟨Nat.le_of_ble_eq_true rfl, Nat.le_of_ble_eq_true rfl⟩) ⟨tq_Pf.blind, va_recv hK hP (ci := 5) (q0 := 0) rfl rfl, tq_preF C hK hP⟩ rfl rfl hl.1 rfl (lv_room (Nat.le_of_ble_eq_true rfl)) dX5_puts_28 ⟨Nat.le_of_ble_eq_true rfl, Nat.le_of_ble_eq_true rfl⟩) (fun r28 hr28 => ?_)
      obtain rfl := hr28
      refine lv_aload_n hx hb dX5_puts_31 rfl (lv_at hl 0 rfl) ?_
      refine tq_get (C0 := RX5) (T := TX5) (N := 19) (ci := 5) (k := 3) C gX5 inX5 rfl (by decide) rfl fl_X5_16 hK hP 0 rfl rfl dX5_puts_32 ?_
      refine tq_icmp_lt (tgt := 95) C (by omega) (by omega) dX5_puts_35 (by decide) (fun h35 => ?_) (fun h35 => ?_)
      · have hR9 := pS_end hres (Or.inr (by have h7 := h35; rw [hdx] at h7; exact h7))
        refine lv_aload_n hx hb dX5_puts_95 rfl (lv_at hl 0 rfl) ?_
        refine tq_get (C0 := RX5) (T := TX5) (N := 19) (ci := 5) (k := 8) C gX5 inX5 rfl (by decide) rfl fl_X5_29 hK hP 0 rfl rfl dX5_puts_96 ?_
        refine lv_aload_n hx hb dX5_puts_99 rfl (lv_at hl 0 rfl) ?_
        refine tq_get (C0 := RX5) (T := TX5) (N := 19) (ci := 5) (k := 2) C gX5 inX5 rfl (by decide) rfl fl_X5_51 hK hP 0 rfl rfl dX5_puts_100 ?_
        refine lv_iload_n hx hb dX5_puts_103 rfl (lv_at hl 1 rfl) ?_
        refine tq_iast (n := 120) (i := sz) (v := kx) (f := ext) C hK hP hD hS 4 0 rfl rfl (by omega) (Nat.le_of_ble_eq_true rfl) dX5_puts_104 (fun H locs hP hD hS => ?_)
        have hP : va_P D vwCl (wM cy bb sto vas sz cap low hig dpt1 glo1 (va_up ext sz kx) mdb1 mhl msp1 mmg lin mlv mpt mls mov thr) H := hP
        have hD : va_D A (wM cy bb sto vas sz cap low hig dpt1 glo1 (va_up ext sz kx) mdb1 mhl msp1 mmg lin mlv mpt mls mov thr) := hD
        exact tq_vret C (dpt1, glo1, mdb1, msp1) hP hD hS (⟨fun q hq => by rw [← hR9]; exact hd1 q hq, by rw [← hR9], by rw [← hR9]; exact hX1⟩) (Nat.le_of_ble_eq_true rfl) (Nat.le_of_ble_eq_true rfl) dX5_puts_105
      · refine lv_aload_n hx hb dX5_puts_38 rfl (lv_at hl 0 rfl) ?_
        refine tq_get (C0 := RX5) (T := TX5) (N := 19) (ci := 5) (k := 6) C gX5 inX5 rfl (by decide) rfl fl_X5_26 hK hP 0 rfl rfl dX5_puts_39 ?_
        refine lv_iload_n hx hb dX5_puts_42 rfl (lv_at hl 2 rfl) ?_
        refine tq_iald (n := 256) (i := (hs kx % 256)) (f := dpt1) C hK hP 3 0 rfl rfl (by omega) (Nat.le_of_ble_eq_true rfl) dX5_puts_43 ?_
        refine lv_istore_n (lv' := [(3, .int (nI (dpt1 (hs kx % 256)))), (0, .ref (bb 0)), (1, .int (nI (kx))), (2, .int (nI ((hs kx % 256))))]) hx hb dX5_puts_44 rfl hl (by decide) rfl (fun ls hl => ?_)
        refine lv_iload_n hx hb dX5_puts_45 rfl (lv_at hl 0 rfl) ?_
        refine lv_aload_n hx hb dX5_puts_46 rfl (lv_at hl 1 rfl) ?_
        refine tq_get (C0 := RX5) (T := TX5) (N := 19) (ci := 5) (k := 7) C gX5 inX5 rfl (by decide) rfl fl_X5_68 hK hP 0 rfl rfl dX5_puts_47 ?_
        refine tq_icmp_ne (tgt := 73) C (by omega) (by omega) dX5_puts_50 (by decide) (fun h50 => ?_) (fun h50 => ?_)
        · refine lv_aload_n hx hb dX5_puts_73 rfl (lv_at hl 1 rfl) ?_
          refine lv_iload_n hx hb dX5_puts_74 rfl (lv_at hl 3 rfl) ?_
          refine lv_iload_n hx hb dX5_puts_75 rfl (lv_at hl 0 rfl) ?_
          refine lv_iload_n hx hb dX5_puts_76 rfl (lv_at hl 0 rfl) ?_
          refine lv_iconst (v := nI 1) hx hb dX5_puts_77 (by decide) ?_
          refine tq_iadd C dX5_puts_78 ?_
          refine tq_callV (W3 := fun u => (wM cy bb sto vas sz cap low hig u glo1 ext mdb1 mhl msp1 mmg lin mlv mpt mls mov thr)) (wr := []) (va_runV C.fix (As := [.int (nI ((hs kx % 256))), .int (nI (dpt1 (hs kx % 256))), .int (nI ((dpt1 (hs kx % 256)) + 1))]) (rest := []) ((c_X5_deepens l D cy bb sto vas sz cap low hig dpt1 glo1 ext mdb1 mhl msp1 mmg lin mlv mpt mls mov thr (hs kx % 256) (dpt1 (hs kx % 256)) ((dpt1 (hs kx % 256)) + 1) hxx (by omega)) H.size) (tq_cV (n := 3) C ml_X5_74 im_X5_deepens se_X5_deepens ini_X5 cd_X5_deepens ⟨by decide, by decide, by decide +kernel⟩ ⟨Nat.le_of_ble_eq_true rfl, Nat.le_of_ble_eq_true rfl⟩) ⟨tq_Pc.blind, va_recv hK hP (ci := 5) (q0 := 0) rfl rfl, tq_preC C hK hP hD⟩ rfl rfl hl.1 rfl (lv_room (Nat.le_of_ble_eq_true rfl)) dX5_puts_79 ⟨Nat.le_of_ble_eq_true rfl, Nat.le_of_ble_eq_true rfl⟩) hP hD hS hA [0, 1, 2, 3, 4, 5, 6] [] [0, 1, 2, 3, 4, 5, 6] rfl rfl (by decide) (by decide) (by decide) (fun _ => rfl) (fun u79 H locs hr79 hP hD hS => ?_)
          obtain ⟨dpt2, rfl⟩ : ∃ z, z = u79 := ⟨_, rfl⟩
          try dsimp only at hr79
          have hP : va_P D vwCl (wM cy bb sto vas sz cap low hig dpt2 glo1 ext mdb1 mhl msp1 mmg lin mlv mpt mls mov thr) H := hP
          have hD : va_D A (wM cy bb sto vas sz cap low hig dpt2 glo1 ext mdb1 mhl msp1 mmg lin mlv mpt mls mov thr) := hD
          have h98 : dep1 (hs kx % 256) < 8 := by omega
          have hgo := pS_go hres (by omega) h98 (by have h7 := h35; rw [hdx] at h7; exact h7)
          have hok := pstep_ok (X := (dep1, glo1, mdb1, msp1)) hX1 hxx h98
          unfold pstep at hgo hok
          dsimp only at hgo hok
          simp only [if_neg (show ¬ dep1 (hs kx % 256) = glo1 by omega)] at hgo hok
          have hd2 : ∀ q, q < 256 → dpt2 q = deepen dep1 (hs kx % 256) (dep1 (hs kx % 256)) (dep1 (hs kx % 256) + 1) q := fun q hq => by
            rw [hr79 q, hdx]; unfold deepen
            by_cases z : q % 2 ^ dep1 (hs kx % 256) = (hs kx % 256) % 2 ^ dep1 (hs kx % 256)
            · rw [if_pos ⟨hq, z⟩, if_pos z]
            · rw [if_neg (fun y => z y.2), if_neg z]; exact hd1 q hq
          refine lv_aload_n hx hb dX5_puts_82 rfl (lv_at hl 1 rfl) ?_
          refine lv_dup hx hb dX5_puts_83 rfl ?_
          refine tq_get (C0 := RX5) (T := TX5) (N := 19) (ci := 5) (k := 11) C gX5 inX5 rfl (by decide) rfl fl_X5_78 hK hP 0 rfl rfl dX5_puts_84 ?_
          refine lv_iconst (v := nI 1) hx hb dX5_puts_87 (by decide) ?_
          refine lv_iadd hx hb dX5_puts_88 ?_
          refine tq_put (v := .int (msp1 + nI 1)) (C0 := RX5) (T := TX5) (N := 19) (ci := 5) (k := 11) (ty := .int) C gX5 inX5 tyX5_ok nmX5 rfl (by decide) rfl fl_X5_78 rfl (by decide +kernel) hK hP hD hS 0 rfl rfl rfl (Nat.le_of_ble_eq_true rfl) dX5_puts_89 (fun H locs hP hD hS => ?_)
          have hP : va_P D vwCl (wM cy bb sto vas sz cap low hig dpt2 glo1 ext mdb1 mhl (msp1 + nI 1) mmg lin mlv mpt mls mov thr) H := hP
          have hD : va_D A (wM cy bb sto vas sz cap low hig dpt2 glo1 ext mdb1 mhl (msp1 + nI 1) mmg lin mlv mpt mls mov thr) := hD
          refine lv_goto (tgt := 9) hx hb dX5_puts_92 (by decide) ?_
          have hd9 : deepen dep1 (hs kx % 256) (dep1 (hs kx % 256)) (dep1 (hs kx % 256) + 1) (hs kx % 256) = dep1 (hs kx % 256) + 1 := if_pos rfl
          exact ih9 (k - 1) (deepen dep1 (hs kx % 256) (dep1 (hs kx % 256)) (dep1 (hs kx % 256) + 1)) dpt2 glo1 mdb1 (msp1 + nI 1) (by omega) (by omega) (hd2) (hok) (hgo) _ _ hP hD hS _ (lv_sub hl [1, 2, 3] rfl)
        · refine lv_aload_n hx hb dX5_puts_53 rfl (lv_at hl 1 rfl) ?_
          refine lv_dup hx hb dX5_puts_54 rfl ?_
          refine tq_get (C0 := RX5) (T := TX5) (N := 19) (ci := 5) (k := 7) C gX5 inX5 rfl (by decide) rfl fl_X5_68 hK hP 0 rfl rfl dX5_puts_55 ?_
          refine lv_iconst (v := nI 1) hx hb dX5_puts_58 (by decide) ?_
          refine tq_iadd C dX5_puts_59 ?_
          refine tq_put (v := .int (nI (glo1 + 1))) (C0 := RX5) (T := TX5) (N := 19) (ci := 5) (k := 7) (ty := .int) C gX5 inX5 tyX5_ok nmX5 rfl (by decide) rfl fl_X5_68 rfl (by decide +kernel) hK hP hD hS 0 rfl rfl rfl (Nat.le_of_ble_eq_true rfl) dX5_puts_60 (fun H locs hP hD hS => ?_)
          have hP : va_P D vwCl (wM cy bb sto vas sz cap low hig dpt1 (glo1 + 1) ext mdb1 mhl msp1 mmg lin mlv mpt mls mov thr) H := hP
          have hD : va_D A (wM cy bb sto vas sz cap low hig dpt1 (glo1 + 1) ext mdb1 mhl msp1 mmg lin mlv mpt mls mov thr) := hD
          refine lv_aload_n hx hb dX5_puts_63 rfl (lv_at hl 1 rfl) ?_
          refine lv_dup hx hb dX5_puts_64 rfl ?_
          refine tq_get (C0 := RX5) (T := TX5) (N := 19) (ci := 5) (k := 9) C gX5 inX5 rfl (by decide) rfl fl_X5_71 hK hP 0 rfl rfl dX5_puts_65 ?_
          refine lv_iconst (v := nI 1) hx hb dX5_puts_68 (by decide) ?_
          refine lv_iadd hx hb dX5_puts_69 ?_
          refine tq_put (v := .int (mdb1 + nI 1)) (C0 := RX5) (T := TX5) (N := 19) (ci := 5) (k := 9) (ty := .int) C gX5 inX5 tyX5_ok nmX5 rfl (by decide) rfl fl_X5_71 rfl (by decide +kernel) hK hP hD hS 0 rfl rfl rfl (Nat.le_of_ble_eq_true rfl) dX5_puts_70 (fun H locs hP hD hS => ?_)
          have hP : va_P D vwCl (wM cy bb sto vas sz cap low hig dpt1 (glo1 + 1) ext (mdb1 + nI 1) mhl msp1 mmg lin mlv mpt mls mov thr) H := hP
          have hD : va_D A (wM cy bb sto vas sz cap low hig dpt1 (glo1 + 1) ext (mdb1 + nI 1) mhl msp1 mmg lin mlv mpt mls mov thr) := hD
          refine lv_aload_n hx hb dX5_puts_73 rfl (lv_at hl 1 rfl) ?_
          refine lv_iload_n hx hb dX5_puts_74 rfl (lv_at hl 3 rfl) ?_
          refine lv_iload_n hx hb dX5_puts_75 rfl (lv_at hl 0 rfl) ?_
          refine lv_iload_n hx hb dX5_puts_76 rfl (lv_at hl 0 rfl) ?_
          refine lv_iconst (v := nI 1) hx hb dX5_puts_77 (by decide) ?_
          refine tq_iadd C dX5_puts_78 ?_
          refine tq_callV (W3 := fun u => (wM cy bb sto vas sz cap low hig u (glo1 + 1) ext (mdb1 + nI 1) mhl msp1 mmg lin mlv mpt mls mov thr)) (wr := []) (va_runV C.fix (As := [.int (nI ((hs kx % 256))), .int (nI (dpt1 (hs kx % 256))), .int (nI ((dpt1 (hs kx % 256)) + 1))]) (rest := []) ((c_X5_deepens l D cy bb sto vas sz cap low hig dpt1 (glo1 + 1) ext (mdb1 + nI 1) mhl msp1 mmg lin mlv mpt mls mov thr (hs kx % 256) (dpt1 (hs kx % 256)) ((dpt1 (hs kx % 256)) + 1) hxx (by omega)) H.size) (tq_cV (n := 3) C ml_X5_74 im_X5_deepens se_X5_deepens ini_X5 cd_X5_deepens ⟨by decide, by decide, by decide +kernel⟩ ⟨Nat.le_of_ble_eq_true rfl, Nat.le_of_ble_eq_true rfl⟩) ⟨tq_Pc.blind, va_recv hK hP (ci := 5) (q0 := 0) rfl rfl, tq_preC C hK hP hD⟩ rfl rfl hl.1 rfl (lv_room (Nat.le_of_ble_eq_true rfl)) dX5_puts_79 ⟨Nat.le_of_ble_eq_true rfl, Nat.le_of_ble_eq_true rfl⟩) hP hD hS hA [0, 1, 2, 3, 4, 5, 6] [] [0, 1, 2, 3, 4, 5, 6] rfl rfl (by decide) (by decide) (by decide) (fun _ => rfl) (fun u79 H locs hr79 hP hD hS => ?_)
          obtain ⟨dpt2, rfl⟩ : ∃ z, z = u79 := ⟨_, rfl⟩
          try dsimp only at hr79
          have hP : va_P D vwCl (wM cy bb sto vas sz cap low hig dpt2 (glo1 + 1) ext (mdb1 + nI 1) mhl msp1 mmg lin mlv mpt mls mov thr) H := hP
          have hD : va_D A (wM cy bb sto vas sz cap low hig dpt2 (glo1 + 1) ext (mdb1 + nI 1) mhl msp1 mmg lin mlv mpt mls mov thr) := hD
          have h98 : dep1 (hs kx % 256) < 8 := by omega
          have hgo := pS_go hres (by omega) h98 (by have h7 := h35; rw [hdx] at h7; exact h7)
          have hok := pstep_ok (X := (dep1, glo1, mdb1, msp1)) hX1 hxx h98
          unfold pstep at hgo hok
          dsimp only at hgo hok
          simp only [if_pos (show dep1 (hs kx % 256) = glo1 by omega)] at hgo hok
          have hd2 : ∀ q, q < 256 → dpt2 q = deepen dep1 (hs kx % 256) (dep1 (hs kx % 256)) (dep1 (hs kx % 256) + 1) q := fun q hq => by
            rw [hr79 q, hdx]; unfold deepen
            by_cases z : q % 2 ^ dep1 (hs kx % 256) = (hs kx % 256) % 2 ^ dep1 (hs kx % 256)
            · rw [if_pos ⟨hq, z⟩, if_pos z]
            · rw [if_neg (fun y => z y.2), if_neg z]; exact hd1 q hq
          refine lv_aload_n hx hb dX5_puts_82 rfl (lv_at hl 1 rfl) ?_
          refine lv_dup hx hb dX5_puts_83 rfl ?_
          refine tq_get (C0 := RX5) (T := TX5) (N := 19) (ci := 5) (k := 11) C gX5 inX5 rfl (by decide) rfl fl_X5_78 hK hP 0 rfl rfl dX5_puts_84 ?_
          refine lv_iconst (v := nI 1) hx hb dX5_puts_87 (by decide) ?_
          refine lv_iadd hx hb dX5_puts_88 ?_
          refine tq_put (v := .int (msp1 + nI 1)) (C0 := RX5) (T := TX5) (N := 19) (ci := 5) (k := 11) (ty := .int) C gX5 inX5 tyX5_ok nmX5 rfl (by decide) rfl fl_X5_78 rfl (by decide +kernel) hK hP hD hS 0 rfl rfl rfl (Nat.le_of_ble_eq_true rfl) dX5_puts_89 (fun H locs hP hD hS => ?_)
          have hP : va_P D vwCl (wM cy bb sto vas sz cap low hig dpt2 (glo1 + 1) ext (mdb1 + nI 1) mhl (msp1 + nI 1) mmg lin mlv mpt mls mov thr) H := hP
          have hD : va_D A (wM cy bb sto vas sz cap low hig dpt2 (glo1 + 1) ext (mdb1 + nI 1) mhl (msp1 + nI 1) mmg lin mlv mpt mls mov thr) := hD
          refine lv_goto (tgt := 9) hx hb dX5_puts_92 (by decide) ?_
          have hd9 : deepen dep1 (hs kx % 256) (dep1 (hs kx % 256)) (dep1 (hs kx % 256) + 1) (hs kx % 256) = dep1 (hs kx % 256) + 1 := if_pos rfl
          exact ih9 (k - 1) (deepen dep1 (hs kx % 256) (dep1 (hs kx % 256)) (dep1 (hs kx % 256) + 1)) dpt2 (glo1 + 1) (mdb1 + nI 1) (msp1 + nI 1) (by omega) (by omega) (hd2) (hok) (hgo) _ _ hP hD hS _ (lv_sub hl [1, 2, 3] rfl)
set_option maxHeartbeats 4000000 in
set_option maxRecDepth 100000 in
theorem c_X5_movesBehind (l : Launch) (D : va_G) (cy : ClassId) (bb : Nat → Nat) (sto : Nat → Nat) (vas : Nat → Nat) (sz : Nat) (cap : Nat) (low : Nat) (hig : Nat) (dpt : Nat → Nat) (glo : Nat) (ext : Nat → Nat) (mdb : Int32) (mhl : Int32) (msp : Int32) (mmg : Int32) (lin : Nat → Nat) (mlv : Nat) (mpt : Nat) (mls : Int32) (mov : Nat → Nat) (thr : Nat) (pt : Nat) (nb : Nat) (E : List Nat) (hE : AL ext E) (hsz : sz = E.length) (hsz2 : sz ≤ 120) (hbd : ∀ i, ext i < 65536) (hbm : ∀ i, mov i < 65536) (hpt : pt < 65536) (hnb : nb ≤ 16) : tq_V (S := (Nat → Nat) × (Nat → Nat)) l yX5_movesBehind cX5_movesBehind 7 2 43 0 0 D cy (wM cy bb sto vas sz cap low hig dpt glo ext mdb mhl msp mmg lin mlv mpt mls mov thr) [.ref (bb 0), .int (nI (pt)), .int (nI (nb))] (fun u => AL u.1 (mvB E pt nb) ∧ (∀ i, u.1 i < 65536) ∧ ∀ i, u.2 i < 65536) (fun u => (wM cy bb sto vas sz cap low hig dpt glo u.1 mdb mhl msp mmg lin mlv mpt mls u.2 thr)) := by
  refine tq_V.mk (by decide) (Nat.le_of_ble_eq_true rfl) ?_
  intro p e s m args below meth c A C hin hP hK hD hS hA ls hl
  obtain ⟨hx, hb, hml, hown, hrt, hlk, hT⟩ := id C
  have hl : lv_has ls 7 [(0, .ref (bb 0)), (1, .int (nI (pt))), (2, .int (nI (nb)))] := hl
  refine lv_iconst (v := nI 0) hx hb dX5_movesBehind_0 (by decide) ?_
  refine lv_istore_n (lv' := [(3, .int (nI (0))), (0, .ref (bb 0)), (1, .int (nI (pt))), (2, .int (nI (nb)))]) hx hb dX5_movesBehind_1 rfl hl (by decide) rfl (fun ls hl => ?_)
  refine lv_iconst (v := nI 0) hx hb dX5_movesBehind_2 (by decide) ?_
  refine lv_istore (lv' := [(4, .int (nI (0))), (3, .int (nI (0))), (0, .ref (bb 0)), (1, .int (nI (pt))), (2, .int (nI (nb)))]) hx hb dX5_movesBehind_3 hl (by decide) rfl (fun ls hl => ?_)
  refine lv_iconst (v := nI 0) hx hb dX5_movesBehind_5 (by decide) ?_
  refine lv_istore (lv' := [(5, .int (nI (0))), (4, .int (nI (0))), (3, .int (nI (0))), (0, .ref (bb 0)), (1, .int (nI (pt))), (2, .int (nI (nb)))]) hx hb dX5_movesBehind_6 hl (by decide) rfl (fun ls hl => ?_)
  suffices hlp8 : ∀ (n8 : Nat) (i : Nat) (ext1 : Nat → Nat) (mov1 : Nat → Nat), sz - i < n8 → (i ≤ sz) → (AL ext1 ((E.take i).filter (fun k => !(hs k % 2 ^ nb == pt % 2 ^ nb)))) → (AL mov1 ((E.take i).filter (fun k => hs k % 2 ^ nb == pt % 2 ^ nb))) → (∀ j, i ≤ j → ext1 j = ext j) → (∀ j, ext1 j < 65536) → (∀ j, mov1 j < 65536) → ∀ (H : Heap) (locs : List Loc), va_P D vwCl (wM cy bb sto vas sz cap low hig dpt glo ext1 mdb mhl msp mmg lin mlv mpt mls mov1 thr) H → va_D A (wM cy bb sto vas sz cap low hig dpt glo ext1 mdb mhl msp mmg lin mlv mpt mls mov1 thr) → va_S A s.heap H locs → ∀ ls : Array Slot, lv_has ls 7 [(0, .ref (bb 0)), (1, .int (nI (pt))), (2, .int (nI (nb))), (3, .int (nI (((E.take i).filter (fun k => !(hs k % 2 ^ nb == pt % 2 ^ nb))).length))), (4, .int (nI (((E.take i).filter (fun k => hs k % 2 ^ nb == pt % 2 ^ nb)).length))), (5, .int (nI (i)))] → W p l e ({ frames := 2, cells := 0, slots := 0, locals := 43 } : Room) s m args below meth c H locs 0 0 (MQ below (va_Qv (S := (Nat → Nat) × (Nat → Nat)) (fun u => AL u.1 (mvB E pt nb) ∧ (∀ i, u.1 i < 65536) ∧ ∀ i, u.2 i < 65536) (tq_B D A (fun u => (wM cy bb sto vas sz cap low hig dpt glo u.1 mdb mhl msp mmg lin mlv mpt mls u.2 thr))) A) args s 0 0 A) (F0 m 8 ls []) from
    hlp8 (sz + 1) 0 ext mov (by omega) (by omega) (by rw [List.take_zero]; exact AL_nil) (by rw [List.take_zero]; exact AL_nil) (fun _ _ => rfl) (hbd) (hbm) _ _ hP hD hS _ (lv_sub hl [3, 4, 5, 2, 1, 0] rfl)
  intro n8
  induction n8 with
  | zero => intro i ext1 mov1 hf; exact absurd hf (Nat.not_lt_zero _)
  | succ n8 ih8 =>
    intro i ext1 mov1 hf8 hi hlo hmo hhi hbd1 hbm1 H locs hP hD hS ls hl
    refine lv_iload hx hb dX5_movesBehind_8 (lv_at hl 5 rfl) ?_
    refine lv_aload_n hx hb dX5_movesBehind_10 rfl (lv_at hl 0 rfl) ?_
    refine tq_get (C0 := RX5) (T := TX5) (N := 19) (ci := 5) (k := 2) C gX5 inX5 rfl (by decide) rfl fl_X5_51 hK hP 0 rfl rfl dX5_movesBehind_11 ?_
    refine tq_icmp_ge (tgt := 68) C (by omega) (by omega) dX5_movesBehind_14 (by decide) (fun h14 => ?_) (fun h14 => ?_)
    · rw [show i = E.length from by omega, List.take_length] at hlo hmo hl
      have hfl2 := flen2 (E := E) (p := (fun k => hs k % 2 ^ nb == pt % 2 ^ nb))
      refine lv_iconst (v := nI 0) hx hb dX5_movesBehind_68 (by decide) ?_
      refine lv_istore (lv' := [(5, .int (nI (0))), (0, .ref (bb 0)), (1, .int (nI (pt))), (2, .int (nI (nb))), (3, .int (nI ((E.filter (fun k => !(hs k % 2 ^ nb == pt % 2 ^ nb))).length))), (4, .int (nI ((E.filter (fun k => hs k % 2 ^ nb == pt % 2 ^ nb)).length)))]) hx hb dX5_movesBehind_69 hl (by decide) rfl (fun ls hl => ?_)
      suffices hlp71 : ∀ (n71 : Nat) (j : Nat) (ext2 : Nat → Nat), (E.filter (fun k => hs k % 2 ^ nb == pt % 2 ^ nb)).length - j < n71 → (j ≤ (E.filter (fun k => hs k % 2 ^ nb == pt % 2 ^ nb)).length) → (AL ext2 (E.filter (fun k => !(hs k % 2 ^ nb == pt % 2 ^ nb)) ++ (E.filter (fun k => hs k % 2 ^ nb == pt % 2 ^ nb)).take j)) → (∀ j, ext2 j < 65536) → ∀ (H : Heap) (locs : List Loc), va_P D vwCl (wM cy bb sto vas sz cap low hig dpt glo ext2 mdb mhl msp mmg lin mlv mpt mls mov1 thr) H → va_D A (wM cy bb sto vas sz cap low hig dpt glo ext2 mdb mhl msp mmg lin mlv mpt mls mov1 thr) → va_S A s.heap H locs → ∀ ls : Array Slot, lv_has ls 7 [(0, .ref (bb 0)), (1, .int (nI (pt))), (2, .int (nI (nb))), (3, .int (nI ((E.filter (fun k => !(hs k % 2 ^ nb == pt % 2 ^ nb))).length))), (4, .int (nI ((E.filter (fun k => hs k % 2 ^ nb == pt % 2 ^ nb)).length))), (5, .int (nI (j)))] → W p l e ({ frames := 2, cells := 0, slots := 0, locals := 43 } : Room) s m args below meth c H locs 0 0 (MQ below (va_Qv (S := (Nat → Nat) × (Nat → Nat)) (fun u => AL u.1 (mvB E pt nb) ∧ (∀ i, u.1 i < 65536) ∧ ∀ i, u.2 i < 65536) (tq_B D A (fun u => (wM cy bb sto vas sz cap low hig dpt glo u.1 mdb mhl msp mmg lin mlv mpt mls u.2 thr))) A) args s 0 0 A) (F0 m 71 ls []) from
        hlp71 ((E.filter (fun k => hs k % 2 ^ nb == pt % 2 ^ nb)).length + 1) 0 ext1 (by omega) (by omega) (by rw [List.take_zero, List.append_nil]; exact hlo) (hbd1) _ _ hP hD hS _ (lv_sub hl [1, 2, 3, 4, 5, 0] rfl)
      intro n71
      induction n71 with
      | zero => intro j ext2 hf; exact absurd hf (Nat.not_lt_zero _)
      | succ n71 ih71 =>
        intro j ext2 hf71 hj hA2 hbd2 H locs hP hD hS ls hl
        refine lv_iload hx hb dX5_movesBehind_71 (lv_at hl 5 rfl) ?_
        refine lv_iload hx hb dX5_movesBehind_73 (lv_at hl 4 rfl) ?_
        refine tq_icmp_ge (tgt := 100) C (by omega) (by omega) dX5_movesBehind_75 (by decide) (fun h75 => ?_) (fun h75 => ?_)
        · exact tq_vret C (ext2, mov1) hP hD hS (⟨by rw [show j = (E.filter (fun k => hs k % 2 ^ nb == pt % 2 ^ nb)).length from by omega, List.take_length] at hA2; exact hA2, hbd2, hbm1⟩) (Nat.le_of_ble_eq_true rfl) (Nat.le_of_ble_eq_true rfl) dX5_movesBehind_100
        · have hj2 : j < (E.filter (fun k => hs k % 2 ^ nb == pt % 2 ^ nb)).length := by omega
          refine lv_aload_n hx hb dX5_movesBehind_78 rfl (lv_at hl 0 rfl) ?_
          refine tq_get (C0 := RX5) (T := TX5) (N := 19) (ci := 5) (k := 8) C gX5 inX5 rfl (by decide) rfl fl_X5_29 hK hP 0 rfl rfl dX5_movesBehind_79 ?_
          refine lv_iload_n hx hb dX5_movesBehind_82 rfl (lv_at hl 3 rfl) ?_
          refine lv_iload hx hb dX5_movesBehind_83 (lv_at hl 5 rfl) ?_
          refine tq_iadd C dX5_movesBehind_85 ?_
          refine lv_aload_n hx hb dX5_movesBehind_86 rfl (lv_at hl 0 rfl) ?_
          refine tq_get (C0 := RX5) (T := TX5) (N := 19) (ci := 5) (k := 17) C gX5 inX5 rfl (by decide) rfl fl_X5_35 hK hP 0 rfl rfl dX5_movesBehind_87 ?_
          refine lv_iload hx hb dX5_movesBehind_90 (lv_at hl 5 rfl) ?_
          refine tq_iald (n := 120) (i := j) (f := mov1) C hK hP 6 0 rfl rfl (by have := flen2 (E := E) (p := (fun k => hs k % 2 ^ nb == pt % 2 ^ nb)); omega) (Nat.le_of_ble_eq_true rfl) dX5_movesBehind_92 ?_
          refine tq_iast (n := 120) (i := (((E.filter (fun k => !(hs k % 2 ^ nb == pt % 2 ^ nb))).length) + j)) (v := (mov1 j)) (f := ext2) C hK hP hD hS 4 0 rfl rfl (by have := flen2 (E := E) (p := (fun k => hs k % 2 ^ nb == pt % 2 ^ nb)); omega) (Nat.le_of_ble_eq_true rfl) dX5_movesBehind_93 (fun H locs hP hD hS => ?_)
          have hP : va_P D vwCl (wM cy bb sto vas sz cap low hig dpt glo (va_up ext2 (((E.filter (fun k => !(hs k % 2 ^ nb == pt % 2 ^ nb))).length) + j) (mov1 j)) mdb mhl msp mmg lin mlv mpt mls mov1 thr) H := hP
          have hD : va_D A (wM cy bb sto vas sz cap low hig dpt glo (va_up ext2 (((E.filter (fun k => !(hs k % 2 ^ nb == pt % 2 ^ nb))).length) + j) (mov1 j)) mdb mhl msp mmg lin mlv mpt mls mov1 thr) := hD
          refine lv_iinc (v := (nI (j + 1))) (lv' := [(5, .int (nI (j + 1))), (0, .ref (bb 0)), (1, .int (nI (pt))), (2, .int (nI (nb))), (3, .int (nI ((E.filter (fun k => !(hs k % 2 ^ nb == pt % 2 ^ nb))).length))), (4, .int (nI ((E.filter (fun k => hs k % 2 ^ nb == pt % 2 ^ nb)).length)))]) hx hb dX5_movesBehind_94 hl (k := 5) rfl (tq_inc1 _) (by decide) rfl (fun ls hl => ?_)
          refine lv_goto (tgt := 71) hx hb dX5_movesBehind_97 (by decide) ?_
          exact ih71 (j + 1) (va_up ext2 (((E.filter (fun k => !(hs k % 2 ^ nb == pt % 2 ^ nb))).length) + j) (mov1 j)) (by omega) (by omega) (by rw [take_succD hj2, ← List.append_assoc, ← hmo j hj2]; exact AL_push hA2 (by rw [List.length_append, List.length_take]; omega)) (bd_up hbd2 (hbm1 j)) _ _ hP hD hS _ (lv_sub hl [1, 2, 3, 4, 5, 0] rfl)
    · have hi2 : i < E.length := by omega
      have hf0 := filter_take (p := (fun k => !(hs k % 2 ^ nb == pt % 2 ^ nb))) hi2
      have hf1 := filter_take (p := (fun k => hs k % 2 ^ nb == pt % 2 ^ nb)) hi2
      have hl0 := flen (E := E) (p := (fun k => !(hs k % 2 ^ nb == pt % 2 ^ nb))) (i := i)
      have hl1 := flen (E := E) (p := (fun k => hs k % 2 ^ nb == pt % 2 ^ nb)) (i := i)
      have hei : ext1 i = E.getD i 0 := (hhi i (Nat.le_refl _)).trans (hE i hi2)
      have hbi := hbd1 i
      refine lv_aload_n hx hb dX5_movesBehind_17 rfl (lv_at hl 0 rfl) ?_
      refine tq_get (C0 := RX5) (T := TX5) (N := 19) (ci := 5) (k := 8) C gX5 inX5 rfl (by decide) rfl fl_X5_29 hK hP 0 rfl rfl dX5_movesBehind_18 ?_
      refine lv_iload hx hb dX5_movesBehind_21 (lv_at hl 5 rfl) ?_
      refine tq_iald (n := 120) (i := i) (f := ext1) C hK hP 4 0 rfl rfl (by omega) (Nat.le_of_ble_eq_true rfl) dX5_movesBehind_23 ?_
      refine tq_top (y := nI (E.getD i 0)) (by rw [hei]) ?_
      rw [hei] at hbi
      refine lv_istore (lv' := [(6, .int (nI (E.getD i 0))), (0, .ref (bb 0)), (1, .int (nI (pt))), (2, .int (nI (nb))), (3, .int (nI (((E.take i).filter (fun k => !(hs k % 2 ^ nb == pt % 2 ^ nb))).length))), (4, .int (nI (((E.take i).filter (fun k => hs k % 2 ^ nb == pt % 2 ^ nb)).length))), (5, .int (nI (i)))]) hx hb dX5_movesBehind_24 hl (by decide) rfl (fun ls hl => ?_)
      refine lv_iload hx hb dX5_movesBehind_26 (lv_at hl 0 rfl) ?_
      refine lv_iload_n hx hb dX5_movesBehind_28 rfl (lv_at hl 2 rfl) ?_
      refine lv_iload_n hx hb dX5_movesBehind_29 rfl (lv_at hl 3 rfl) ?_
      refine tq_callF (va_runS C.fix (As := [.int (nI (E.getD i 0)), .int (nI (pt)), .int (nI (nb))]) (rest := []) (c_X5_belongs l D cy (E.getD i 0) pt nb hbi hpt hnb) (tq_cS (n := 3) C ml_X5_62 sm_X5_belongs ini_X5 cd_X5_belongs ⟨by decide, by decide, by decide +kernel⟩ ⟨Nat.le_of_ble_eq_true rfl, Nat.le_of_ble_eq_true rfl⟩) ⟨tq_Pf.blind, tq_preF C hK (hP.sub [] rfl)⟩ rfl rfl hl.1 rfl (lv_room (Nat.le_of_ble_eq_true rfl)) dX5_movesBehind_30 ⟨Nat.le_of_ble_eq_true rfl, Nat.le_of_ble_eq_true rfl⟩) (fun r30 hr30 => ?_)
      rcases hr30 with ⟨hr30, rfl⟩ | ⟨hr30, rfl⟩
      · rw [if_pos (by simpa using hr30)] at hf1
        rw [if_neg (by simpa using hr30)] at hf0
        refine lv_if_eq (tgt := 51) hx hb dX5_movesBehind_33 (by decide) (fun h9 => absurd h9 (by decide)) (fun _ => ?_)
        refine lv_aload_n hx hb dX5_movesBehind_36 rfl (lv_at hl 1 rfl) ?_
        refine tq_get (C0 := RX5) (T := TX5) (N := 19) (ci := 5) (k := 17) C gX5 inX5 rfl (by decide) rfl fl_X5_35 hK hP 0 rfl rfl dX5_movesBehind_37 ?_
        refine lv_iload hx hb dX5_movesBehind_40 (lv_at hl 5 rfl) ?_
        refine lv_iload hx hb dX5_movesBehind_42 (lv_at hl 0 rfl) ?_
        refine tq_iast (n := 120) (i := (((E.take i).filter (fun k => hs k % 2 ^ nb == pt % 2 ^ nb)).length)) (v := (E.getD i 0)) (f := mov1) C hK hP hD hS 6 0 rfl rfl (by omega) (Nat.le_of_ble_eq_true rfl) dX5_movesBehind_44 (fun H locs hP hD hS => ?_)
        have hP : va_P D vwCl (wM cy bb sto vas sz cap low hig dpt glo ext1 mdb mhl msp mmg lin mlv mpt mls (va_up mov1 (((E.take i).filter (fun k => hs k % 2 ^ nb == pt % 2 ^ nb)).length) (E.getD i 0)) thr) H := hP
        have hD : va_D A (wM cy bb sto vas sz cap low hig dpt glo ext1 mdb mhl msp mmg lin mlv mpt mls (va_up mov1 (((E.take i).filter (fun k => hs k % 2 ^ nb == pt % 2 ^ nb)).length) (E.getD i 0)) thr) := hD
        refine lv_iinc (v := (nI ((((E.take i).filter (fun k => hs k % 2 ^ nb == pt % 2 ^ nb)).length) + 1))) (lv' := [(4, .int (nI ((((E.take i).filter (fun k => hs k % 2 ^ nb == pt % 2 ^ nb)).length) + 1))), (6, .int (nI (E.getD i 0))), (0, .ref (bb 0)), (1, .int (nI (pt))), (2, .int (nI (nb))), (3, .int (nI (((E.take i).filter (fun k => !(hs k % 2 ^ nb == pt % 2 ^ nb))).length))), (5, .int (nI (i)))]) hx hb dX5_movesBehind_45 hl (k := 5) rfl (tq_inc1 _) (by decide) rfl (fun ls hl => ?_)
        refine lv_goto (tgt := 62) hx hb dX5_movesBehind_48 (by decide) ?_
        refine lv_iinc (v := (nI (i + 1))) (lv' := [(5, .int (nI (i + 1))), (4, .int (nI ((((E.take i).filter (fun k => hs k % 2 ^ nb == pt % 2 ^ nb)).length) + 1))), (6, .int (nI (E.getD i 0))), (0, .ref (bb 0)), (1, .int (nI (pt))), (2, .int (nI (nb))), (3, .int (nI (((E.take i).filter (fun k => !(hs k % 2 ^ nb == pt % 2 ^ nb))).length)))]) hx hb dX5_movesBehind_62 hl (k := 6) rfl (tq_inc1 _) (by decide) rfl (fun ls hl => ?_)
        refine lv_goto (tgt := 8) hx hb dX5_movesBehind_65 (by decide) ?_
        rw [show ((E.take i).filter (fun k => hs k % 2 ^ nb == pt % 2 ^ nb)).length + 1 = ((E.take (i + 1)).filter (fun k => hs k % 2 ^ nb == pt % 2 ^ nb)).length from by rw [hf1]; simp, show ((E.take i).filter (fun k => !(hs k % 2 ^ nb == pt % 2 ^ nb))).length = ((E.take (i + 1)).filter (fun k => !(hs k % 2 ^ nb == pt % 2 ^ nb))).length from by rw [hf0]] at hl
        exact ih8 (i + 1) ext1 (va_up mov1 (((E.take i).filter (fun k => hs k % 2 ^ nb == pt % 2 ^ nb)).length) (E.getD i 0)) (by omega) (by omega) (by rw [hf0]; exact hlo) (by rw [hf1]; exact AL_push hmo rfl) (fun j hj => hhi j (by omega)) (hbd1) (bd_up hbm1 hbi) _ _ hP hD hS _ (lv_sub hl [3, 4, 5, 6, 1, 0] rfl)
      · rw [if_neg (by simpa using hr30)] at hf1
        rw [if_pos (by simpa using hr30)] at hf0
        refine lv_if_eq (tgt := 51) hx hb dX5_movesBehind_33 (by decide) (fun _ => ?_) (fun h9 => absurd (by decide : nI 0 = 0) h9)
        refine lv_aload_n hx hb dX5_movesBehind_51 rfl (lv_at hl 1 rfl) ?_
        refine tq_get (C0 := RX5) (T := TX5) (N := 19) (ci := 5) (k := 8) C gX5 inX5 rfl (by decide) rfl fl_X5_29 hK hP 0 rfl rfl dX5_movesBehind_52 ?_
        refine lv_iload_n hx hb dX5_movesBehind_55 rfl (lv_at hl 4 rfl) ?_
        refine lv_iload hx hb dX5_movesBehind_56 (lv_at hl 0 rfl) ?_
        refine tq_iast (n := 120) (i := (((E.take i).filter (fun k => !(hs k % 2 ^ nb == pt % 2 ^ nb))).length)) (v := (E.getD i 0)) (f := ext1) C hK hP hD hS 4 0 rfl rfl (by omega) (Nat.le_of_ble_eq_true rfl) dX5_movesBehind_58 (fun H locs hP hD hS => ?_)
        have hP : va_P D vwCl (wM cy bb sto vas sz cap low hig dpt glo (va_up ext1 (((E.take i).filter (fun k => !(hs k % 2 ^ nb == pt % 2 ^ nb))).length) (E.getD i 0)) mdb mhl msp mmg lin mlv mpt mls mov1 thr) H := hP
        have hD : va_D A (wM cy bb sto vas sz cap low hig dpt glo (va_up ext1 (((E.take i).filter (fun k => !(hs k % 2 ^ nb == pt % 2 ^ nb))).length) (E.getD i 0)) mdb mhl msp mmg lin mlv mpt mls mov1 thr) := hD
        refine lv_iinc (v := (nI ((((E.take i).filter (fun k => !(hs k % 2 ^ nb == pt % 2 ^ nb))).length) + 1))) (lv' := [(3, .int (nI ((((E.take i).filter (fun k => !(hs k % 2 ^ nb == pt % 2 ^ nb))).length) + 1))), (6, .int (nI (E.getD i 0))), (0, .ref (bb 0)), (1, .int (nI (pt))), (2, .int (nI (nb))), (4, .int (nI (((E.take i).filter (fun k => hs k % 2 ^ nb == pt % 2 ^ nb)).length))), (5, .int (nI (i)))]) hx hb dX5_movesBehind_59 hl (k := 4) rfl (tq_inc1 _) (by decide) rfl (fun ls hl => ?_)
        refine lv_iinc (v := (nI (i + 1))) (lv' := [(5, .int (nI (i + 1))), (3, .int (nI ((((E.take i).filter (fun k => !(hs k % 2 ^ nb == pt % 2 ^ nb))).length) + 1))), (6, .int (nI (E.getD i 0))), (0, .ref (bb 0)), (1, .int (nI (pt))), (2, .int (nI (nb))), (4, .int (nI (((E.take i).filter (fun k => hs k % 2 ^ nb == pt % 2 ^ nb)).length)))]) hx hb dX5_movesBehind_62 hl (k := 6) rfl (tq_inc1 _) (by decide) rfl (fun ls hl => ?_)
        refine lv_goto (tgt := 8) hx hb dX5_movesBehind_65 (by decide) ?_
        rw [show ((E.take i).filter (fun k => !(hs k % 2 ^ nb == pt % 2 ^ nb))).length + 1 = ((E.take (i + 1)).filter (fun k => !(hs k % 2 ^ nb == pt % 2 ^ nb))).length from by rw [hf0]; simp, show ((E.take i).filter (fun k => hs k % 2 ^ nb == pt % 2 ^ nb)).length = ((E.take (i + 1)).filter (fun k => hs k % 2 ^ nb == pt % 2 ^ nb)).length from by rw [hf1]] at hl
        exact ih8 (i + 1) (va_up ext1 (((E.take i).filter (fun k => !(hs k % 2 ^ nb == pt % 2 ^ nb))).length) (E.getD i 0)) mov1 (by omega) (by omega) (by rw [hf0]; exact AL_push hlo rfl) (by rw [hf1]; exact hmo) (fun j hj => by rw [up_n _ _ (by omega)]; exact hhi j (by omega)) (bd_up hbd1 hbi) (hbm1) _ _ hP hD hS _ (lv_sub hl [3, 4, 5, 1, 6, 0] rfl)
set_option maxHeartbeats 4000000 in
set_option maxRecDepth 100000 in
theorem c_X5_buddy (l : Launch) (D : va_G) (cy : ClassId) (bb : Nat → Nat) (sto : Nat → Nat) (vas : Nat → Nat) (sz : Nat) (cap : Nat) (low : Nat) (hig : Nat) (dpt : Nat → Nat) (glo : Nat) (ext : Nat → Nat) (mdb : Int32) (mhl : Int32) (msp : Int32) (mmg : Int32) (lin : Nat → Nat) (mlv : Nat) (mpt : Nat) (mls : Int32) (mov : Nat → Nat) (thr : Nat) (pt : Nat) (hpt : pt < 256) (h0 : 0 < dpt pt) (h8 : dpt pt ≤ 8) : tq_F l yX5_buddy cX5_buddy 2 (some .int) 0 0 D cy (wM cy bb sto vas sz cap low hig dpt glo ext mdb mhl msp mmg lin mlv mpt mls mov thr) [.ref (bb 0), .int (nI (pt))] (fun r => r = (nI (pt ^^^ 2 ^ (dpt pt - 1)))) := by
  refine tq_F.mk (by decide) (Nat.le_of_ble_eq_true rfl) ?_
  intro p e s m args below meth c C hP hK ls hl
  obtain ⟨hx, hb, hml, hown, hrt, hlk, hT⟩ := id C
  have hl : lv_has ls 2 [(0, .ref (bb 0)), (1, .int (nI (pt)))] := hl
  refine lv_iload_n hx hb dX5_buddy_0 rfl (lv_at hl 1 rfl) ?_
  refine lv_iconst (v := nI 1) hx hb dX5_buddy_1 (by decide) ?_
  refine lv_aload_n hx hb dX5_buddy_2 rfl (lv_at hl 0 rfl) ?_
  refine tq_get (C0 := RX5) (T := TX5) (N := 19) (ci := 5) (k := 6) C gX5 inX5 rfl (by decide) rfl fl_X5_26 hK hP 0 rfl rfl dX5_buddy_3 ?_
  refine lv_iload_n hx hb dX5_buddy_6 rfl (lv_at hl 1 rfl) ?_
  refine tq_iald (n := 256) (i := pt) (f := dpt) C hK hP 3 0 rfl rfl (by omega) (Nat.le_of_ble_eq_true rfl) dX5_buddy_7 ?_
  refine lv_iconst (v := nI 1) hx hb dX5_buddy_8 (by decide) ?_
  refine tq_isub C (by omega) dX5_buddy_9 ?_
  refine tq_ishl C (by omega) (by have := p7 (dp := dpt pt - 1) (by omega); omega) dX5_buddy_10 ?_
  refine tq_top (y := nI (2 ^ ((dpt pt) - 1))) (by rw [Nat.one_mul]) ?_
  refine tq_ixor C (by omega) (by have := p7 (dp := dpt pt - 1) (by omega); omega) dX5_buddy_11 ?_
  exact tq_fret (v := (nI (pt ^^^ (2 ^ ((dpt pt) - 1))))) C rfl (rfl) dX5_buddy_12
set_option maxHeartbeats 4000000 in
set_option maxRecDepth 100000 in
theorem c_X5_canMerge (l : Launch) (D : va_G) (cy : ClassId) (bb : Nat → Nat) (sto : Nat → Nat) (vas : Nat → Nat) (sz : Nat) (cap : Nat) (low : Nat) (hig : Nat) (dpt : Nat → Nat) (glo : Nat) (ext : Nat → Nat) (mdb : Int32) (mhl : Int32) (msp : Int32) (mmg : Int32) (lin : Nat → Nat) (mlv : Nat) (mpt : Nat) (mls : Int32) (mov : Nat → Nat) (thr : Nat) (pt : Nat) (dep : Nat → Nat) (hd : ∀ q, q < 256 → dpt q = dep q) (hX : XOK dep glo) (E : List Nat) (hE : AL ext E) (hsz : sz = E.length) (hsz2 : sz ≤ 120) (hbd : ∀ i, ext i < 65536) (hpt : pt < 256) (hcp2 : cap ≤ 5) : tq_F l yX5_canMerge cX5_canMerge 3 (some .boolean) 3 67 D cy (wM cy bb sto vas sz cap low hig dpt glo ext mdb mhl msp mmg lin mlv mpt mls mov thr) [.ref (bb 0), .int (nI (pt))] (fun r => ((mcond cap pt (dep, E, mmg) = true) ∧ r = nI 1) ∨ (¬ (mcond cap pt (dep, E, mmg) = true) ∧ r = nI 0)) := by
  refine tq_F.mk (by decide) (Nat.le_of_ble_eq_true rfl) ?_
  intro p e s m args below meth c C hP hK ls hl
  obtain ⟨hx, hb, hml, hown, hrt, hlk, hT⟩ := id C
  have hl : lv_has ls 3 [(0, .ref (bb 0)), (1, .int (nI (pt)))] := hl
  have hdx := hd pt hpt
  have hx8 := hX.2.1 pt hpt
  have hg8 := hX.1
  refine lv_aload_n hx hb dX5_canMerge_0 rfl (lv_at hl 0 rfl) ?_
  refine tq_get (C0 := RX5) (T := TX5) (N := 19) (ci := 5) (k := 6) C gX5 inX5 rfl (by decide) rfl fl_X5_26 hK hP 0 rfl rfl dX5_canMerge_1 ?_
  refine lv_iload_n hx hb dX5_canMerge_4 rfl (lv_at hl 1 rfl) ?_
  refine tq_iald (n := 256) (i := pt) (f := dpt) C hK hP 3 0 rfl rfl (by omega) (Nat.le_of_ble_eq_true rfl) dX5_canMerge_5 ?_
  refine lv_istore_n (lv' := [(2, .int (nI (dpt pt))), (0, .ref (bb 0)), (1, .int (nI (pt)))]) hx hb dX5_canMerge_6 rfl hl (by decide) rfl (fun ls hl => ?_)
  refine lv_iload_n hx hb dX5_canMerge_7 rfl (lv_at hl 0 rfl) ?_
  refine tq_if_le (tgt := 44) C (by omega) dX5_canMerge_8 (by decide) (fun h8 => ?_) (fun h8 => ?_)
  · refine lv_iconst (v := nI 0) hx hb dX5_canMerge_44 (by decide) ?_
    exact tq_fret (v := (nI (0))) C (by decide) (Or.inr ⟨fun q => (by
        have q2 : 0 < dep pt ∧ dep (pt ^^^ 2 ^ (dep pt - 1)) = dep pt ∧ cntB E pt (dep pt - 1) ≤ cap := mcond_iff.mp q
        rw [← hdx] at q2
        omega), rfl⟩) dX5_canMerge_45
  · have hbx : pt ^^^ 2 ^ (dpt pt - 1) < 256 := Nat.xor_lt_two_pow (n := 8) hpt (Nat.pow_lt_pow_right (by decide) (by omega))
    have hdb := hd _ hbx
    have hb8 := hX.2.1 _ hbx
    have hcl : cntB E pt (dpt pt - 1) ≤ 120 := by unfold cntB; exact Nat.le_trans (List.length_filter_le _ _) (by omega)
    refine lv_aload_n hx hb dX5_canMerge_11 rfl (lv_at hl 1 rfl) ?_
    refine tq_get (C0 := RX5) (T := TX5) (N := 19) (ci := 5) (k := 6) C gX5 inX5 rfl (by decide) rfl fl_X5_26 hK hP 0 rfl rfl dX5_canMerge_12 ?_
    refine lv_aload_n hx hb dX5_canMerge_15 rfl (lv_at hl 1 rfl) ?_
    refine lv_iload_n hx hb dX5_canMerge_16 rfl (lv_at hl 2 rfl) ?_
    refine tq_callF (va_runV C.fix (As := [.int (nI (pt))]) (rest := [.ref (bb 3)]) (c_X5_buddy l D cy bb sto vas sz cap low hig dpt glo ext mdb mhl msp mmg lin mlv mpt mls mov thr pt hpt h8 (by omega)) (tq_cV (n := 1) C ml_X5_81 im_X5_buddy se_X5_buddy ini_X5 cd_X5_buddy ⟨by decide, by decide, by decide +kernel⟩ ⟨Nat.le_of_ble_eq_true rfl, Nat.le_of_ble_eq_true rfl⟩) ⟨tq_Pf.blind, va_recv hK hP (ci := 5) (q0 := 0) rfl rfl, tq_preF C hK hP⟩ rfl rfl hl.1 rfl (lv_room (Nat.le_of_ble_eq_true rfl)) dX5_canMerge_17 ⟨Nat.le_of_ble_eq_true rfl, Nat.le_of_ble_eq_true rfl⟩) (fun r17 hr17 => ?_)
    obtain rfl := hr17
    refine tq_iald (n := 256) (i := (pt ^^^ 2 ^ (dpt pt - 1))) (f := dpt) C hK hP 3 0 rfl rfl (by omega) (Nat.le_of_ble_eq_true rfl) dX5_canMerge_20 ?_
    refine lv_iload_n hx hb dX5_canMerge_21 rfl (lv_at hl 0 rfl) ?_
    refine tq_icmp_ne (tgt := 44) C (by omega) (by omega) dX5_canMerge_22 (by decide) (fun h22 => ?_) (fun h22 => ?_)
    · refine lv_iconst (v := nI 0) hx hb dX5_canMerge_44 (by decide) ?_
      exact tq_fret (v := (nI (0))) C (by decide) (Or.inr ⟨fun q => (by
          have q2 : 0 < dep pt ∧ dep (pt ^^^ 2 ^ (dep pt - 1)) = dep pt ∧ cntB E pt (dep pt - 1) ≤ cap := mcond_iff.mp q
          rw [← hdx] at q2
          rw [← hdb] at q2; exact h22 q2.2.1), rfl⟩) dX5_canMerge_45
    · refine lv_aload_n hx hb dX5_canMerge_25 rfl (lv_at hl 1 rfl) ?_
      refine lv_iload_n hx hb dX5_canMerge_26 rfl (lv_at hl 2 rfl) ?_
      refine lv_iload_n hx hb dX5_canMerge_27 rfl (lv_at hl 0 rfl) ?_
      refine lv_iconst (v := nI 1) hx hb dX5_canMerge_28 (by decide) ?_
      refine tq_isub C (by omega) dX5_canMerge_29 ?_
      refine tq_callF (va_runV C.fix (As := [.int (nI (pt)), .int (nI ((dpt pt) - 1))]) (rest := []) (c_X5_inBucket l D cy bb sto vas sz cap low hig dpt glo ext mdb mhl msp mmg lin mlv mpt mls mov thr pt ((dpt pt) - 1) E hE hsz hsz2 hbd (by omega) (by omega)) (tq_cV (n := 2) C ml_X5_65 im_X5_inBucket se_X5_inBucket ini_X5 cd_X5_inBucket ⟨by decide, by decide, by decide +kernel⟩ ⟨Nat.le_of_ble_eq_true rfl, Nat.le_of_ble_eq_true rfl⟩) ⟨tq_Pf.blind, va_recv hK hP (ci := 5) (q0 := 0) rfl rfl, tq_preF C hK hP⟩ rfl rfl hl.1 rfl (lv_room (Nat.le_of_ble_eq_true rfl)) dX5_canMerge_30 ⟨Nat.le_of_ble_eq_true rfl, Nat.le_of_ble_eq_true rfl⟩) (fun r30 hr30 => ?_)
      obtain rfl := hr30
      refine lv_aload_n hx hb dX5_canMerge_33 rfl (lv_at hl 1 rfl) ?_
      refine tq_get (C0 := RX5) (T := TX5) (N := 19) (ci := 5) (k := 3) C gX5 inX5 rfl (by decide) rfl fl_X5_16 hK hP 0 rfl rfl dX5_canMerge_34 ?_
      refine tq_icmp_gt (tgt := 44) C (by omega) (by omega) dX5_canMerge_37 (by decide) (fun h37 => ?_) (fun h37 => ?_)
      · refine lv_iconst (v := nI 0) hx hb dX5_canMerge_44 (by decide) ?_
        exact tq_fret (v := (nI (0))) C (by decide) (Or.inr ⟨fun q => (by
            have q2 : 0 < dep pt ∧ dep (pt ^^^ 2 ^ (dep pt - 1)) = dep pt ∧ cntB E pt (dep pt - 1) ≤ cap := mcond_iff.mp q
            rw [← hdx] at q2
            omega), rfl⟩) dX5_canMerge_45
      · refine lv_iconst (v := nI 1) hx hb dX5_canMerge_40 (by decide) ?_
        refine lv_goto (tgt := 45) hx hb dX5_canMerge_41 (by decide) ?_
        exact tq_fret (v := (nI (1))) C (by decide) (Or.inl ⟨mcond_iff.mpr (show 0 < dep pt ∧ dep (pt ^^^ 2 ^ (dep pt - 1)) = dep pt ∧ cntB E pt (dep pt - 1) ≤ cap by rw [← hdx, ← hdb]; exact ⟨h8, h22, h37⟩), rfl⟩) dX5_canMerge_45
set_option maxHeartbeats 4000000 in
set_option maxRecDepth 100000 in
theorem c_X5_isDeep (l : Launch) (D : va_G) (cy : ClassId) (bb : Nat → Nat) (sto : Nat → Nat) (vas : Nat → Nat) (sz : Nat) (cap : Nat) (low : Nat) (hig : Nat) (dpt : Nat → Nat) (glo : Nat) (ext : Nat → Nat) (mdb : Int32) (mhl : Int32) (msp : Int32) (mmg : Int32) (lin : Nat → Nat) (mlv : Nat) (mpt : Nat) (mls : Int32) (mov : Nat → Nat) (thr : Nat)  (hq8 : ∀ q, q < 256 → dpt q ≤ 8) (hg : glo ≤ 8) : tq_F l yX5_isDeep cX5_isDeep 3 (some .boolean) 0 0 D cy (wM cy bb sto vas sz cap low hig dpt glo ext mdb mhl msp mmg lin mlv mpt mls mov thr) [.ref (bb 0)] (fun r => ((∃ q, q < 256 ∧ dpt q = glo) ∧ r = nI 1) ∨ (¬ (∃ q, q < 256 ∧ dpt q = glo) ∧ r = nI 0)) := by
  refine tq_F.mk (by decide) (Nat.le_of_ble_eq_true rfl) ?_
  intro p e s m args below meth c C hP hK ls hl
  obtain ⟨hx, hb, hml, hown, hrt, hlk, hT⟩ := id C
  have hl : lv_has ls 3 [(0, .ref (bb 0))] := hl
  refine lv_iconst (v := nI 0) hx hb dX5_isDeep_0 (by decide) ?_
  refine lv_istore_n (lv' := [(1, .int (nI (0))), (0, .ref (bb 0))]) hx hb dX5_isDeep_1 rfl hl (by decide) rfl (fun ls hl => ?_)
  refine lv_iconst (v := nI 0) hx hb dX5_isDeep_2 (by decide) ?_
  refine lv_istore_n (lv' := [(2, .int (nI (0))), (1, .int (nI (0))), (0, .ref (bb 0))]) hx hb dX5_isDeep_3 rfl hl (by decide) rfl (fun ls hl => ?_)
  suffices hlp4 : ∀ (n4 : Nat) (i : Nat) (iz : Nat), 256 - i < n4 → (i ≤ 256) → ((iz = 1 ∧ ∃ q, q < i ∧ dpt q = glo) ∨ (iz = 0 ∧ ∀ q, q < i → dpt q ≠ glo)) → ∀ ls : Array Slot, lv_has ls 3 [(0, .ref (bb 0)), (1, .int (nI (iz))), (2, .int (nI (i)))] → W p l e ({ frames := 0, cells := 0, slots := 0, locals := 0 } : Room) s m args below meth c s.heap [] 0 0 (MQ below (tq_Qf (fun r => ((∃ q, q < 256 ∧ dpt q = glo) ∧ r = nI 1) ∨ (¬ (∃ q, q < 256 ∧ dpt q = glo) ∧ r = nI 0))) args s 0 0 (fun _ => False)) (F0 m 4 ls []) from
    hlp4 257 0 0 (by omega) (by omega) (Or.inr ⟨rfl, fun q h => absurd h (Nat.not_lt_zero _)⟩) _ (lv_sub hl [2, 1, 0] rfl)
  intro n4
  induction n4 with
  | zero => intro i iz hf; exact absurd hf (Nat.not_lt_zero _)
  | succ n4 ih4 =>
    intro i iz hf4 hi hiz ls hl
    refine lv_iload_n hx hb dX5_isDeep_4 rfl (lv_at hl 2 rfl) ?_
    refine lv_sipush (v := nI 256) hx hb dX5_isDeep_5 (by decide) ?_
    refine tq_icmp_ge (tgt := 40) C (by omega) (by omega) dX5_isDeep_8 (by decide) (fun h8 => ?_) (fun h8 => ?_)
    · refine lv_iload_n hx hb dX5_isDeep_40 rfl (lv_at hl 1 rfl) ?_
      exact tq_fret (v := (nI (iz))) C (by rcases hiz with ⟨q, -⟩ | ⟨q, -⟩ <;> rw [q] <;> decide) (by rw [show i = 256 from by omega] at hiz; exact hiz.imp (fun z => ⟨z.2, by rw [z.1]⟩) (fun z => ⟨fun ⟨q, a1, a2⟩ => z.2 q a1 a2, by rw [z.1]⟩)) dX5_isDeep_41
    · refine lv_iload_n hx hb dX5_isDeep_11 rfl (lv_at hl 1 rfl) ?_
      refine tq_if_ne (tgt := 28) C (by omega) dX5_isDeep_12 (by decide) (fun h12 => ?_) (fun h12 => ?_)
      · refine lv_iconst (v := nI 1) hx hb dX5_isDeep_28 (by decide) ?_
        refine lv_goto (tgt := 33) hx hb dX5_isDeep_29 (by decide) ?_
        refine lv_istore_n (lv' := [(1, .int (nI (1))), (0, .ref (bb 0)), (2, .int (nI (i)))]) hx hb dX5_isDeep_33 rfl hl (by decide) rfl (fun ls hl => ?_)
        refine lv_iinc (v := (nI (i + 1))) (lv' := [(2, .int (nI (i + 1))), (1, .int (nI (1))), (0, .ref (bb 0))]) hx hb dX5_isDeep_34 hl (k := 2) rfl (tq_inc1 _) (by decide) rfl (fun ls hl => ?_)
        refine lv_goto (tgt := 4) hx hb dX5_isDeep_37 (by decide) ?_
        exact ih4 (i + 1) 1 (by omega) (by omega) (hiz.elim (fun ⟨_, q, a1, a2⟩ => Or.inl ⟨rfl, q, by omega, a2⟩) (fun z => absurd z.1 h12)) _ (lv_sub hl [2, 1, 0] rfl)
      · have h8i := hq8 i (by omega)
        refine lv_aload_n hx hb dX5_isDeep_15 rfl (lv_at hl 0 rfl) ?_
        refine tq_get (C0 := RX5) (T := TX5) (N := 19) (ci := 5) (k := 6) C gX5 inX5 rfl (by decide) rfl fl_X5_26 hK hP 0 rfl rfl dX5_isDeep_16 ?_
        refine lv_iload_n hx hb dX5_isDeep_19 rfl (lv_at hl 2 rfl) ?_
        refine tq_iald (n := 256) (i := i) (f := dpt) C hK hP 3 0 rfl rfl (by omega) (Nat.le_of_ble_eq_true rfl) dX5_isDeep_20 ?_
        refine lv_aload_n hx hb dX5_isDeep_21 rfl (lv_at hl 0 rfl) ?_
        refine tq_get (C0 := RX5) (T := TX5) (N := 19) (ci := 5) (k := 7) C gX5 inX5 rfl (by decide) rfl fl_X5_68 hK hP 0 rfl rfl dX5_isDeep_22 ?_
        refine tq_icmp_ne (tgt := 32) C (by omega) (by omega) dX5_isDeep_25 (by decide) (fun h25 => ?_) (fun h25 => ?_)
        · refine lv_iconst (v := nI 0) hx hb dX5_isDeep_32 (by decide) ?_
          refine lv_istore_n (lv' := [(1, .int (nI (0))), (0, .ref (bb 0)), (2, .int (nI (i)))]) hx hb dX5_isDeep_33 rfl hl (by decide) rfl (fun ls hl => ?_)
          refine lv_iinc (v := (nI (i + 1))) (lv' := [(2, .int (nI (i + 1))), (1, .int (nI (0))), (0, .ref (bb 0))]) hx hb dX5_isDeep_34 hl (k := 2) rfl (tq_inc1 _) (by decide) rfl (fun ls hl => ?_)
          refine lv_goto (tgt := 4) hx hb dX5_isDeep_37 (by decide) ?_
          exact ih4 (i + 1) 0 (by omega) (by omega) (hiz.elim (fun z => absurd z.1 (by omega)) (fun z => Or.inr ⟨rfl, fun q h => (Nat.lt_or_eq_of_le (Nat.le_of_lt_succ h)).elim (z.2 q) (fun y => y ▸ h25)⟩)) _ (lv_sub hl [2, 1, 0] rfl)
        · refine lv_iconst (v := nI 1) hx hb dX5_isDeep_28 (by decide) ?_
          refine lv_goto (tgt := 33) hx hb dX5_isDeep_29 (by decide) ?_
          refine lv_istore_n (lv' := [(1, .int (nI (1))), (0, .ref (bb 0)), (2, .int (nI (i)))]) hx hb dX5_isDeep_33 rfl hl (by decide) rfl (fun ls hl => ?_)
          refine lv_iinc (v := (nI (i + 1))) (lv' := [(2, .int (nI (i + 1))), (1, .int (nI (1))), (0, .ref (bb 0))]) hx hb dX5_isDeep_34 hl (k := 2) rfl (tq_inc1 _) (by decide) rfl (fun ls hl => ?_)
          refine lv_goto (tgt := 4) hx hb dX5_isDeep_37 (by decide) ?_
          exact ih4 (i + 1) 1 (by omega) (by omega) (Or.inl ⟨rfl, i, by omega, h25⟩) _ (lv_sub hl [2, 1, 0] rfl)
set_option maxHeartbeats 4000000 in
set_option maxRecDepth 100000 in
theorem c_X5_shrinks (l : Launch) (D : va_G) (cy : ClassId) (bb : Nat → Nat) (sto : Nat → Nat) (vas : Nat → Nat) (sz : Nat) (cap : Nat) (low : Nat) (hig : Nat) (dpt : Nat → Nat) (glo : Nat) (ext : Nat → Nat) (mdb : Int32) (mhl : Int32) (msp : Int32) (mmg : Int32) (lin : Nat → Nat) (mlv : Nat) (mpt : Nat) (mls : Int32) (mov : Nat → Nat) (thr : Nat) (pt : Nat) (dep : Nat → Nat) (hd : ∀ q, q < 256 → dpt q = dep q) (hX : XOK dep glo) (E : List Nat) (hE : AL ext E) (hsz : sz = E.length) (hsz2 : sz ≤ 120) (hbd : ∀ i, ext i < 65536) (hbm : ∀ i, mov i < 65536) (hpt : pt < 256) (hcp2 : cap ≤ 5) : tq_V (S := (Nat → Nat) × (Nat → Nat) × (Nat → Nat) × Nat × Int32 × Int32) l yX5_shrinks cX5_shrinks 3 4 89 0 0 D cy (wM cy bb sto vas sz cap low hig dpt glo ext mdb mhl msp mmg lin mlv mpt mls mov thr) [.ref (bb 0), .int (nI (pt))] (fun u => (∀ q, q < 256 → u.1 q = (mS cap pt 9 (dep, E, mmg)).1 q) ∧ AL u.2.1 (mS cap pt 9 (dep, E, mmg)).2.1 ∧ (mS cap pt 9 (dep, E, mmg)).2.1.length = E.length ∧ (∀ i, u.2.1 i < 65536) ∧ (∀ i, u.2.2.1 i < 65536) ∧ u.2.2.2.1 = mx (mS cap pt 9 (dep, E, mmg)).1 256 ∧ u.2.2.2.2.1 = mhl + nI (glo - mx (mS cap pt 9 (dep, E, mmg)).1 256) ∧ u.2.2.2.2.2 = (mS cap pt 9 (dep, E, mmg)).2.2 ∧ XOK (mS cap pt 9 (dep, E, mmg)).1 (mx (mS cap pt 9 (dep, E, mmg)).1 256)) (fun u => (wM cy bb sto vas sz cap low hig u.1 u.2.2.2.1 u.2.1 mdb u.2.2.2.2.1 msp u.2.2.2.2.2 lin mlv mpt mls u.2.2.1 thr)) := by
  refine tq_V.mk (by decide) (Nat.le_of_ble_eq_true rfl) ?_
  intro p e s m args below meth c A C hin hP hK hD hS hA ls hl
  obtain ⟨hx, hb, hml, hown, hrt, hlk, hT⟩ := id C
  have hl : lv_has ls 3 [(0, .ref (bb 0)), (1, .int (nI (pt)))] := hl
  suffices hlp0 : ∀ (n0 : Nat) (k : Nat) (dep1 : Nat → Nat) (E1 : List Nat) (dpt1 : Nat → Nat) (ext1 : Nat → Nat) (mov1 : Nat → Nat) (mmg1 : Int32), k < n0 → (dep1 pt < k) → (∀ q, q < 256 → dpt1 q = dep1 q) → (XOK dep1 glo) → (AL ext1 E1) → (E1.length = E.length) → (∀ i, ext1 i < 65536) → (∀ i, mov1 i < 65536) → (mS cap pt k (dep1, E1, mmg1) = mS cap pt 9 (dep, E, mmg)) → ∀ (H : Heap) (locs : List Loc), va_P D vwCl (wM cy bb sto vas sz cap low hig dpt1 glo ext1 mdb mhl msp mmg1 lin mlv mpt mls mov1 thr) H → va_D A (wM cy bb sto vas sz cap low hig dpt1 glo ext1 mdb mhl msp mmg1 lin mlv mpt mls mov1 thr) → va_S A s.heap H locs → ∀ ls : Array Slot, lv_has ls 3 [(0, .ref (bb 0)), (1, .int (nI (pt)))] → W p l e ({ frames := 4, cells := 0, slots := 0, locals := 89 } : Room) s m args below meth c H locs 0 0 (MQ below (va_Qv (S := (Nat → Nat) × (Nat → Nat) × (Nat → Nat) × Nat × Int32 × Int32) (fun u => (∀ q, q < 256 → u.1 q = (mS cap pt 9 (dep, E, mmg)).1 q) ∧ AL u.2.1 (mS cap pt 9 (dep, E, mmg)).2.1 ∧ (mS cap pt 9 (dep, E, mmg)).2.1.length = E.length ∧ (∀ i, u.2.1 i < 65536) ∧ (∀ i, u.2.2.1 i < 65536) ∧ u.2.2.2.1 = mx (mS cap pt 9 (dep, E, mmg)).1 256 ∧ u.2.2.2.2.1 = mhl + nI (glo - mx (mS cap pt 9 (dep, E, mmg)).1 256) ∧ u.2.2.2.2.2 = (mS cap pt 9 (dep, E, mmg)).2.2 ∧ XOK (mS cap pt 9 (dep, E, mmg)).1 (mx (mS cap pt 9 (dep, E, mmg)).1 256)) (tq_B D A (fun u => (wM cy bb sto vas sz cap low hig u.1 u.2.2.2.1 u.2.1 mdb u.2.2.2.2.1 msp u.2.2.2.2.2 lin mlv mpt mls u.2.2.1 thr))) A) args s 0 0 A) (F0 m 0 ls []) from
    hlp0 10 9 dep E dpt ext mov mmg (by omega) (by have := hX.2.1 pt hpt; have := hX.1; omega) (hd) (hX) (hE) (rfl) (hbd) (hbm) (rfl) _ _ hP hD hS _ (lv_sub hl [0, 1] rfl)
  intro n0
  induction n0 with
  | zero => intro k dep1 E1 dpt1 ext1 mov1 mmg1 hf; exact absurd hf (Nat.not_lt_zero _)
  | succ n0 ih0 =>
    intro k dep1 E1 dpt1 ext1 mov1 mmg1 hf0 hk hd1 hX1 hE1 hle hbd1 hbm1 hres H locs hP hD hS ls hl
    refine lv_aload_n hx hb dX5_shrinks_0 rfl (lv_at hl 0 rfl) ?_
    refine lv_iload_n hx hb dX5_shrinks_1 rfl (lv_at hl 1 rfl) ?_
    refine tq_callF (va_runV C.fix (As := [.int (nI (pt))]) (rest := []) (c_X5_canMerge l D cy bb sto vas sz cap low hig dpt1 glo ext1 mdb mhl msp mmg1 lin mlv mpt mls mov1 thr pt dep1 hd1 hX1 E1 hE1 (by omega) hsz2 hbd1 hpt hcp2) (tq_cV (n := 1) C ml_X5_84 im_X5_canMerge se_X5_canMerge ini_X5 cd_X5_canMerge ⟨by decide, by decide, by decide +kernel⟩ ⟨Nat.le_of_ble_eq_true rfl, Nat.le_of_ble_eq_true rfl⟩) ⟨tq_Pf.blind, va_recv hK hP (ci := 5) (q0 := 0) rfl rfl, tq_preF C hK hP⟩ rfl rfl hl.1 rfl (lv_room (Nat.le_of_ble_eq_true rfl)) dX5_shrinks_2 ⟨Nat.le_of_ble_eq_true rfl, Nat.le_of_ble_eq_true rfl⟩) (fun r2 hr2 => ?_)
    rcases hr2 with ⟨hr2, rfl⟩ | ⟨hr2, rfl⟩
    · have hm2 : 0 < dep1 pt ∧ dep1 (pt ^^^ 2 ^ (dep1 pt - 1)) = dep1 pt ∧ _ := mcond_iff.mp hr2
      have hdx := hd1 pt hpt
      have hx8 := hX1.2.1 pt hpt
      have hg8 := hX1.1
      have hp6 := p7 (dp := dpt1 pt - 1) (by omega)
      have hor : pt ||| 2 ^ (dpt1 pt - 1) < 256 := Nat.or_lt_two_pow (n := 8) hpt (by omega)
      refine lv_if_eq (tgt := 51) hx hb dX5_shrinks_5 (by decide) (fun h9 => absurd h9 (by decide)) (fun _ => ?_)
      refine lv_aload_n hx hb dX5_shrinks_8 rfl (lv_at hl 0 rfl) ?_
      refine tq_get (C0 := RX5) (T := TX5) (N := 19) (ci := 5) (k := 6) C gX5 inX5 rfl (by decide) rfl fl_X5_26 hK hP 0 rfl rfl dX5_shrinks_9 ?_
      refine lv_iload_n hx hb dX5_shrinks_12 rfl (lv_at hl 1 rfl) ?_
      refine tq_iald (n := 256) (i := pt) (f := dpt1) C hK hP 3 0 rfl rfl (by omega) (Nat.le_of_ble_eq_true rfl) dX5_shrinks_13 ?_
      refine lv_istore_n (lv' := [(2, .int (nI (dpt1 pt))), (0, .ref (bb 0)), (1, .int (nI (pt)))]) hx hb dX5_shrinks_14 rfl hl (by decide) rfl (fun ls hl => ?_)
      refine lv_aload_n hx hb dX5_shrinks_15 rfl (lv_at hl 1 rfl) ?_
      refine lv_iload_n hx hb dX5_shrinks_16 rfl (lv_at hl 2 rfl) ?_
      refine lv_iconst (v := nI 1) hx hb dX5_shrinks_17 (by decide) ?_
      refine lv_iload_n hx hb dX5_shrinks_18 rfl (lv_at hl 0 rfl) ?_
      refine lv_iconst (v := nI 1) hx hb dX5_shrinks_19 (by decide) ?_
      refine tq_isub C (by omega) dX5_shrinks_20 ?_
      refine tq_ishl C (by omega) (by omega) dX5_shrinks_21 ?_
      refine tq_top (y := nI (2 ^ ((dpt1 pt) - 1))) (by rw [Nat.one_mul]) ?_
      refine tq_ior C (by omega) (by omega) dX5_shrinks_22 ?_
      refine lv_iload_n hx hb dX5_shrinks_23 rfl (lv_at hl 0 rfl) ?_
      refine tq_callV (W3 := fun u => (wM cy bb sto vas sz cap low hig dpt1 glo u.1 mdb mhl msp mmg1 lin mlv mpt mls u.2 thr)) (wr := []) (va_runV C.fix (As := [.int (nI (pt ||| (2 ^ ((dpt1 pt) - 1)))), .int (nI (dpt1 pt))]) (rest := []) ((c_X5_movesBehind l D cy bb sto vas sz cap low hig dpt1 glo ext1 mdb mhl msp mmg1 lin mlv mpt mls mov1 thr (pt ||| (2 ^ ((dpt1 pt) - 1))) (dpt1 pt) E1 hE1 (by omega) hsz2 hbd1 hbm1 (by omega) (by omega)) H.size) (tq_cV (n := 2) C ml_X5_88 im_X5_movesBehind se_X5_movesBehind ini_X5 cd_X5_movesBehind ⟨by decide, by decide, by decide +kernel⟩ ⟨Nat.le_of_ble_eq_true rfl, Nat.le_of_ble_eq_true rfl⟩) ⟨tq_Pc.blind, va_recv hK hP (ci := 5) (q0 := 0) rfl rfl, tq_preC C hK hP hD⟩ rfl rfl hl.1 rfl (lv_room (Nat.le_of_ble_eq_true rfl)) dX5_shrinks_24 ⟨Nat.le_of_ble_eq_true rfl, Nat.le_of_ble_eq_true rfl⟩) hP hD hS hA [0, 1, 2, 3, 4, 5, 6] [] [0, 1, 2, 3, 4, 5, 6] rfl rfl (by decide) (by decide) (by decide) (fun _ => rfl) (fun u24 H locs hr24 hP hD hS => ?_)
      obtain ⟨ext2, mov2⟩ := u24
      try dsimp only at hr24
      have hP : va_P D vwCl (wM cy bb sto vas sz cap low hig dpt1 glo ext2 mdb mhl msp mmg1 lin mlv mpt mls mov2 thr) H := hP
      have hD : va_D A (wM cy bb sto vas sz cap low hig dpt1 glo ext2 mdb mhl msp mmg1 lin mlv mpt mls mov2 thr) := hD
      refine lv_aload_n hx hb dX5_shrinks_27 rfl (lv_at hl 1 rfl) ?_
      refine lv_iload_n hx hb dX5_shrinks_28 rfl (lv_at hl 2 rfl) ?_
      refine lv_iload_n hx hb dX5_shrinks_29 rfl (lv_at hl 0 rfl) ?_
      refine lv_iconst (v := nI 1) hx hb dX5_shrinks_30 (by decide) ?_
      refine tq_isub C (by omega) dX5_shrinks_31 ?_
      refine lv_iload_n hx hb dX5_shrinks_32 rfl (lv_at hl 0 rfl) ?_
      refine lv_iconst (v := nI 1) hx hb dX5_shrinks_33 (by decide) ?_
      refine tq_isub C (by omega) dX5_shrinks_34 ?_
      refine tq_callV (W3 := fun u => (wM cy bb sto vas sz cap low hig u glo ext2 mdb mhl msp mmg1 lin mlv mpt mls mov2 thr)) (wr := []) (va_runV C.fix (As := [.int (nI (pt)), .int (nI ((dpt1 pt) - 1)), .int (nI ((dpt1 pt) - 1))]) (rest := []) ((c_X5_deepens l D cy bb sto vas sz cap low hig dpt1 glo ext2 mdb mhl msp mmg1 lin mlv mpt mls mov2 thr pt ((dpt1 pt) - 1) ((dpt1 pt) - 1) hpt (by omega)) H.size) (tq_cV (n := 3) C ml_X5_74 im_X5_deepens se_X5_deepens ini_X5 cd_X5_deepens ⟨by decide, by decide, by decide +kernel⟩ ⟨Nat.le_of_ble_eq_true rfl, Nat.le_of_ble_eq_true rfl⟩) ⟨tq_Pc.blind, va_recv hK hP (ci := 5) (q0 := 0) rfl rfl, tq_preC C hK hP hD⟩ rfl rfl hl.1 rfl (lv_room (Nat.le_of_ble_eq_true rfl)) dX5_shrinks_35 ⟨Nat.le_of_ble_eq_true rfl, Nat.le_of_ble_eq_true rfl⟩) hP hD hS hA [0, 1, 2, 3, 4, 5, 6] [] [0, 1, 2, 3, 4, 5, 6] rfl rfl (by decide) (by decide) (by decide) (fun _ => rfl) (fun u35 H locs hr35 hP hD hS => ?_)
      obtain ⟨dpt2, rfl⟩ : ∃ z, z = u35 := ⟨_, rfl⟩
      try dsimp only at hr35
      have hP : va_P D vwCl (wM cy bb sto vas sz cap low hig dpt2 glo ext2 mdb mhl msp mmg1 lin mlv mpt mls mov2 thr) H := hP
      have hD : va_D A (wM cy bb sto vas sz cap low hig dpt2 glo ext2 mdb mhl msp mmg1 lin mlv mpt mls mov2 thr) := hD
      have hgo := mS_go hres (by omega) hr2
      have hok := mstep_ok (X := (dep1, E1, mmg1)) hX1 hpt hr2
      unfold mstep at hgo hok
      dsimp only at hgo hok
      rw [hdx] at hr24 hr35
      have hd2 : ∀ q, q < 256 → dpt2 q = deepen dep1 pt (dep1 pt - 1) (dep1 pt - 1) q := fun q hq => by
        rw [hr35 q]; unfold deepen
        by_cases z : q % 2 ^ (dep1 pt - 1) = pt % 2 ^ (dep1 pt - 1)
        · rw [if_pos ⟨hq, z⟩, if_pos z]
        · rw [if_neg (fun y => z y.2), if_neg z]; exact hd1 q hq
      have hd9 : deepen dep1 pt (dep1 pt - 1) (dep1 pt - 1) pt = dep1 pt - 1 := if_pos rfl
      refine lv_aload_n hx hb dX5_shrinks_38 rfl (lv_at hl 1 rfl) ?_
      refine lv_dup hx hb dX5_shrinks_39 rfl ?_
      refine tq_get (C0 := RX5) (T := TX5) (N := 19) (ci := 5) (k := 12) C gX5 inX5 rfl (by decide) rfl fl_X5_92 hK hP 0 rfl rfl dX5_shrinks_40 ?_
      refine lv_iconst (v := nI 1) hx hb dX5_shrinks_43 (by decide) ?_
      refine lv_iadd hx hb dX5_shrinks_44 ?_
      refine tq_put (v := .int (mmg1 + nI 1)) (C0 := RX5) (T := TX5) (N := 19) (ci := 5) (k := 12) (ty := .int) C gX5 inX5 tyX5_ok nmX5 rfl (by decide) rfl fl_X5_92 rfl (by decide +kernel) hK hP hD hS 0 rfl rfl rfl (Nat.le_of_ble_eq_true rfl) dX5_shrinks_45 (fun H locs hP hD hS => ?_)
      have hP : va_P D vwCl (wM cy bb sto vas sz cap low hig dpt2 glo ext2 mdb mhl msp (mmg1 + nI 1) lin mlv mpt mls mov2 thr) H := hP
      have hD : va_D A (wM cy bb sto vas sz cap low hig dpt2 glo ext2 mdb mhl msp (mmg1 + nI 1) lin mlv mpt mls mov2 thr) := hD
      refine lv_goto (tgt := 0) hx hb dX5_shrinks_48 (by decide) ?_
      exact ih0 (k - 1) (deepen dep1 pt (dep1 pt - 1) (dep1 pt - 1)) (mvB E1 (pt ||| 2 ^ (dep1 pt - 1)) (dep1 pt)) dpt2 ext2 mov2 (mmg1 + nI 1) (by omega) (by omega) (hd2) (hok) (hr24.1) (by rw [mvB_len]; exact hle) (hr24.2.1) (hr24.2.2) (hgo) _ _ hP hD hS _ (lv_sub hl [1, 2] rfl)
    · have hR9 := mS_end hres hr2
      refine lv_if_eq (tgt := 51) hx hb dX5_shrinks_5 (by decide) (fun _ => ?_) (fun h9 => absurd (by decide : nI 0 = 0) h9)
      suffices hlp51 : ∀ (n51 : Nat) (g1 : Nat) (mhl1 : Int32), g1 < n51 → (g1 ≤ glo) → (∀ q, q < 256 → dep1 q ≤ g1) → (mhl1 = mhl + nI (glo - g1)) → ∀ (H : Heap) (locs : List Loc), va_P D vwCl (wM cy bb sto vas sz cap low hig dpt1 g1 ext1 mdb mhl1 msp mmg1 lin mlv mpt mls mov1 thr) H → va_D A (wM cy bb sto vas sz cap low hig dpt1 g1 ext1 mdb mhl1 msp mmg1 lin mlv mpt mls mov1 thr) → va_S A s.heap H locs → ∀ ls : Array Slot, lv_has ls 3 [(0, .ref (bb 0)), (1, .int (nI (pt)))] → W p l e ({ frames := 4, cells := 0, slots := 0, locals := 89 } : Room) s m args below meth c H locs 0 0 (MQ below (va_Qv (S := (Nat → Nat) × (Nat → Nat) × (Nat → Nat) × Nat × Int32 × Int32) (fun u => (∀ q, q < 256 → u.1 q = (mS cap pt 9 (dep, E, mmg)).1 q) ∧ AL u.2.1 (mS cap pt 9 (dep, E, mmg)).2.1 ∧ (mS cap pt 9 (dep, E, mmg)).2.1.length = E.length ∧ (∀ i, u.2.1 i < 65536) ∧ (∀ i, u.2.2.1 i < 65536) ∧ u.2.2.2.1 = mx (mS cap pt 9 (dep, E, mmg)).1 256 ∧ u.2.2.2.2.1 = mhl + nI (glo - mx (mS cap pt 9 (dep, E, mmg)).1 256) ∧ u.2.2.2.2.2 = (mS cap pt 9 (dep, E, mmg)).2.2 ∧ XOK (mS cap pt 9 (dep, E, mmg)).1 (mx (mS cap pt 9 (dep, E, mmg)).1 256)) (tq_B D A (fun u => (wM cy bb sto vas sz cap low hig u.1 u.2.2.2.1 u.2.1 mdb u.2.2.2.2.1 msp u.2.2.2.2.2 lin mlv mpt mls u.2.2.1 thr))) A) args s 0 0 A) (F0 m 51 ls []) from
        hlp51 (glo + 1) glo mhl (by omega) (by omega) (hX1.2.1) (by rw [Nat.sub_self, nI_z]) _ _ hP hD hS _ (lv_sub hl [0, 1] rfl)
      intro n51
      induction n51 with
      | zero => intro g1 mhl1 hf; exact absurd hf (Nat.not_lt_zero _)
      | succ n51 ih51 =>
        intro g1 mhl1 hf51 hg hno hh H locs hP hD hS ls hl
        refine lv_aload_n hx hb dX5_shrinks_51 rfl (lv_at hl 0 rfl) ?_
        refine tq_get (C0 := RX5) (T := TX5) (N := 19) (ci := 5) (k := 7) C gX5 inX5 rfl (by decide) rfl fl_X5_68 hK hP 0 rfl rfl dX5_shrinks_52 ?_
        refine tq_if_le (tgt := 88) C (by have := hX1.1; omega) dX5_shrinks_55 (by decide) (fun h55 => ?_) (fun h55 => ?_)
        · have hgm := mx_eq hno (Or.inl h55)
          exact tq_vret C (dpt1, ext1, mov1, g1, mhl1, mmg1) hP hD hS (⟨fun q hq => by rw [← hR9]; exact hd1 q hq, by rw [← hR9]; exact hE1, by rw [← hR9]; exact hle, hbd1, hbm1, by rw [← hR9]; exact hgm, by rw [← hR9, ← hgm]; exact hh, by rw [← hR9], by rw [← hR9, ← hgm]; exact ⟨by have := hX1.1; omega, hno, hX1.2.2⟩⟩) (Nat.le_of_ble_eq_true rfl) (Nat.le_of_ble_eq_true rfl) dX5_shrinks_88
        · refine lv_aload_n hx hb dX5_shrinks_58 rfl (lv_at hl 0 rfl) ?_
          refine tq_callF (va_runV C.fix (As := []) (rest := []) (c_X5_isDeep l D cy bb sto vas sz cap low hig dpt1 g1 ext1 mdb mhl1 msp mmg1 lin mlv mpt mls mov1 thr (fun q hq => by have := hX1.2.1 q hq; have := hX1.1; have := hd1 q hq; omega) (by have := hX1.1; omega)) (tq_cV (n := 0) C ml_X5_95 im_X5_isDeep se_X5_isDeep ini_X5 cd_X5_isDeep ⟨by decide, by decide, by decide +kernel⟩ ⟨Nat.le_of_ble_eq_true rfl, Nat.le_of_ble_eq_true rfl⟩) ⟨tq_Pf.blind, va_recv hK hP (ci := 5) (q0 := 0) rfl rfl, tq_preF C hK hP⟩ rfl rfl hl.1 rfl (lv_room (Nat.le_of_ble_eq_true rfl)) dX5_shrinks_59 ⟨Nat.le_of_ble_eq_true rfl, Nat.le_of_ble_eq_true rfl⟩) (fun r59 hr59 => ?_)
          rcases hr59 with ⟨hr59, rfl⟩ | ⟨hr59, rfl⟩
          · have hgm := mx_eq hno (Or.inr (hr59.elim fun q hq => ⟨q, hq.1, (hd1 q hq.1).symm.trans hq.2⟩))
            refine lv_if_ne (tgt := 88) hx hb dX5_shrinks_62 (by decide) (fun _ => ?_) (fun h9 => absurd h9 (by decide))
            exact tq_vret C (dpt1, ext1, mov1, g1, mhl1, mmg1) hP hD hS (⟨fun q hq => by rw [← hR9]; exact hd1 q hq, by rw [← hR9]; exact hE1, by rw [← hR9]; exact hle, hbd1, hbm1, by rw [← hR9]; exact hgm, by rw [← hR9, ← hgm]; exact hh, by rw [← hR9], by rw [← hR9, ← hgm]; exact ⟨by have := hX1.1; omega, hno, hX1.2.2⟩⟩) (Nat.le_of_ble_eq_true rfl) (Nat.le_of_ble_eq_true rfl) dX5_shrinks_88
          · refine lv_if_ne (tgt := 88) hx hb dX5_shrinks_62 (by decide) (fun h9 => absurd (by decide : nI 0 = 0) h9) (fun _ => ?_)
            refine lv_aload_n hx hb dX5_shrinks_65 rfl (lv_at hl 0 rfl) ?_
            refine lv_dup hx hb dX5_shrinks_66 rfl ?_
            refine tq_get (C0 := RX5) (T := TX5) (N := 19) (ci := 5) (k := 7) C gX5 inX5 rfl (by decide) rfl fl_X5_68 hK hP 0 rfl rfl dX5_shrinks_67 ?_
            refine lv_iconst (v := nI 1) hx hb dX5_shrinks_70 (by decide) ?_
            refine tq_isub C (by omega) dX5_shrinks_71 ?_
            refine tq_put (v := .int (nI (g1 - 1))) (C0 := RX5) (T := TX5) (N := 19) (ci := 5) (k := 7) (ty := .int) C gX5 inX5 tyX5_ok nmX5 rfl (by decide) rfl fl_X5_68 rfl (by decide +kernel) hK hP hD hS 0 rfl rfl rfl (Nat.le_of_ble_eq_true rfl) dX5_shrinks_72 (fun H locs hP hD hS => ?_)
            have hP : va_P D vwCl (wM cy bb sto vas sz cap low hig dpt1 (g1 - 1) ext1 mdb mhl1 msp mmg1 lin mlv mpt mls mov1 thr) H := hP
            have hD : va_D A (wM cy bb sto vas sz cap low hig dpt1 (g1 - 1) ext1 mdb mhl1 msp mmg1 lin mlv mpt mls mov1 thr) := hD
            refine lv_aload_n hx hb dX5_shrinks_75 rfl (lv_at hl 0 rfl) ?_
            refine lv_dup hx hb dX5_shrinks_76 rfl ?_
            refine tq_get (C0 := RX5) (T := TX5) (N := 19) (ci := 5) (k := 10) C gX5 inX5 rfl (by decide) rfl fl_X5_99 hK hP 0 rfl rfl dX5_shrinks_77 ?_
            refine lv_iconst (v := nI 1) hx hb dX5_shrinks_80 (by decide) ?_
            refine lv_iadd hx hb dX5_shrinks_81 ?_
            refine tq_put (v := .int (mhl1 + nI 1)) (C0 := RX5) (T := TX5) (N := 19) (ci := 5) (k := 10) (ty := .int) C gX5 inX5 tyX5_ok nmX5 rfl (by decide) rfl fl_X5_99 rfl (by decide +kernel) hK hP hD hS 0 rfl rfl rfl (Nat.le_of_ble_eq_true rfl) dX5_shrinks_82 (fun H locs hP hD hS => ?_)
            have hP : va_P D vwCl (wM cy bb sto vas sz cap low hig dpt1 (g1 - 1) ext1 mdb (mhl1 + nI 1) msp mmg1 lin mlv mpt mls mov1 thr) H := hP
            have hD : va_D A (wM cy bb sto vas sz cap low hig dpt1 (g1 - 1) ext1 mdb (mhl1 + nI 1) msp mmg1 lin mlv mpt mls mov1 thr) := hD
            refine lv_goto (tgt := 51) hx hb dX5_shrinks_85 (by decide) ?_
            exact ih51 (g1 - 1) (mhl1 + nI 1) (by omega) (by omega) (fun q hq => by have h7 := hno q hq; have h6 : dep1 q ≠ g1 := fun z => hr59 ⟨q, hq, (hd1 q hq).trans z⟩; omega) (by rw [hh, nI_s1, show glo - g1 + 1 = glo - (g1 - 1) from by omega]) _ _ hP hD hS _ (lv_sub hl [0, 1] rfl)
