
/-- where deal puts an entry -/
def tg (key : Nat → Nat) (t0 t1 bit e : Nat) : Nat := if hs (key e) / 2 ^ bit % 2 ^ 1 = 0 then t0 else t1
/-- the rows when k entries of L, once the row fr, are dealt -/
def rk (rows : Nat → List Nat) (L : List Nat) (key : Nat → Nat) (t0 t1 bit fr k : Nat) (r : Nat) : List Nat := va_up rows fr [] r ++ (L.take k).filter (fun e => tg key t0 t1 bit e == r)
theorem rk_0 {rows : Nat → List Nat} {L : List Nat} {key : Nat → Nat} {t0 t1 bit fr r : Nat} : rk rows L key t0 t1 bit fr 0 r = va_up rows fr [] r := by simp [rk]
theorem take_succD {L : List Nat} {k : Nat} (h : k < L.length) : L.take (k + 1) = L.take k ++ [L.getD k 0] := by
  rw [List.getD_eq_getElem?_getD, List.getElem?_eq_getElem h]
  exact List.take_succ_eq_append_getElem h
theorem drop_succD {L : List Nat} {k : Nat} (h : k < L.length) : L.drop k = L.getD k 0 :: L.drop (k + 1) := by
  rw [List.getD_eq_getElem?_getD, List.getElem?_eq_getElem h]
  exact List.drop_eq_getElem_cons h
theorem rk_step {rows : Nat → List Nat} {L : List Nat} {key : Nat → Nat} {t0 t1 bit fr k : Nat} (h : k < L.length) (r : Nat) :
    rk rows L key t0 t1 bit fr (k + 1) r = va_up (rk rows L key t0 t1 bit fr k) (tg key t0 t1 bit (L.getD k 0)) (rk rows L key t0 t1 bit fr k (tg key t0 t1 bit (L.getD k 0)) ++ [L.getD k 0]) r := by
  by_cases q : r = tg key t0 t1 bit (L.getD k 0)
  · rw [q, up_s]
    unfold rk
    rw [take_succD h, List.filter_append, List.append_assoc]
    simp
  · rw [up_n _ _ q]
    unfold rk
    rw [take_succD h, List.filter_append]
    have h2 : [L.getD k 0].filter (fun e => tg key t0 t1 bit e == r) = [] := by
      rw [List.filter_cons_of_neg (by rw [beq_iff_eq]; exact fun z => q z.symm)]
      rfl
    rw [h2, List.append_nil]
theorem rk_nx {ne : Nat → Nat} {L : List Nat} {k : Nat} (hc : Cs ne (L.drop k) 0) (h : k < L.length) (h1 : 1 ≤ L.getD k 0) : nx ne (L.getD k 0) = L.getD (k + 1) 0 := by
  rw [drop_succD h] at hc
  rw [show nx ne (L.getD k 0) = ne (L.getD k 0) from if_neg (by omega), hc.1, headD_getD, List.getD_eq_getElem?_getD, List.getD_eq_getElem?_getD, List.getElem?_drop]
theorem rk_mem {rows : Nat → List Nat} {L : List Nat} {key : Nat → Nat} {t0 t1 bit fr k r e : Nat} (h : e ∈ rk rows L key t0 t1 bit fr k r) : (r ≠ fr ∧ e ∈ rows r) ∨ e ∈ L.take k := by
  rcases List.mem_append.mp h with h | h
  · by_cases q : r = fr
    · rw [q, up_s] at h; exact absurd h List.not_mem_nil
    · rw [up_n _ _ q] at h; exact Or.inl ⟨q, h⟩
  · exact Or.inr (List.mem_filter.mp h).1
theorem nodup_take_drop {L : List Nat} (h : L.Nodup) {k e : Nat} (h1 : e ∈ L.take k) (h2 : e ∈ L.drop k) : False := by
  rw [← List.take_append_drop k L, List.nodup_append] at h
  exact h.2.2 e h1 e h2 rfl
theorem RR.rk_free {fi la co ne : Nat → Nat} {rows : Nat → List Nat} (h : RR fi la co ne rows) {key : Nat → Nat} {t0 t1 bit fr k : Nat} (hfr : fr < 256) : ∀ e ∈ (rows fr).drop k, ∀ r, r < 256 → e ∉ rk rows (rows fr) key t0 t1 bit fr k r := by
  intro e he r hr hm
  rcases rk_mem hm with ⟨q, hm⟩ | hm
  · exact h.2 fr r hfr hr (fun z => q z.symm) e (List.mem_of_mem_drop he) hm
  · exact nodup_take_drop (h.1 fr hfr).2.2.2.2.2 hm he
theorem tg_lt {key : Nat → Nat} {t0 t1 bit e : Nat} (h0 : t0 < 256) (h1 : t1 < 256) : tg key t0 t1 bit e < 256 := by
  unfold tg; split <;> assumption
/-- what so many numbers come to, together -/
def so (f : Nat → Nat) : Nat → Nat
  | 0 => 0
  | k + 1 => so f k + f k
theorem so_le {f : Nat → Nat} {b : Nat} : ∀ {n : Nat}, (∀ k, k < n → f k ≤ b) → so f n ≤ n * b
  | 0, _ => by simp [so]
  | n + 1, h => by
    have h1 := so_le (n := n) (fun k hk => h k (by omega))
    have h2 := h n (by omega)
    rw [Nat.succ_mul]
    show so f n + f n ≤ _
    omega
theorem RR.zero {ne : Nat → Nat} {fi la co : Nat → Nat} (h : ∀ r, r < 256 → fi r = 0 ∧ la r = 0 ∧ co r = 0) : RR fi la co ne (fun _ => []) :=
  ⟨fun r hr => ⟨(h r hr).2.2, (h r hr).1, (h r hr).2.1, trivial, fun _ h => absurd h List.not_mem_nil, List.nodup_nil⟩, fun _ _ _ _ _ _ h => absurd h List.not_mem_nil⟩
theorem pour_eq {key : Nat → Nat} {to r : Nat} {L : List Nat} : L.filter (fun e => tg key to to 0 e == r) = if to = r then L else [] := by
  unfold tg
  simp only [ite_self]
  by_cases q : to = r
  · subst q; simp
  · rw [if_neg q, List.filter_eq_nil_iff]
    intro a _
    simpa using q
theorem div_small {a b : Nat} (ha : a < 2 ^ 20) : a / b < 2 ^ 31 := Nat.lt_of_le_of_lt (Nat.div_le_self _ _) (by omega)

theorem dX2_deal_0 : decode cX2_deal 0 = .ok (.aload_n 0, 1) := by decide +kernel
theorem dX2_deal_1 : decode cX2_deal 1 = .ok (.iload_n 1, 1) := by decide +kernel
theorem dX2_deal_2 : decode cX2_deal 2 = .ok (.invokevirtual 56, 3) := by decide +kernel
theorem dX2_deal_5 : decode cX2_deal 5 = .ok (.istore 5, 2) := by decide +kernel
theorem dX2_deal_7 : decode cX2_deal 7 = .ok (.aload_n 0, 1) := by decide +kernel
theorem dX2_deal_8 : decode cX2_deal 8 = .ok (.iload_n 1, 1) := by decide +kernel
theorem dX2_deal_9 : decode cX2_deal 9 = .ok (.invokevirtual 32, 3) := by decide +kernel
theorem dX2_deal_12 : decode cX2_deal 12 = .ok (.istore 6, 2) := by decide +kernel
theorem dX2_deal_14 : decode cX2_deal 14 = .ok (.aload_n 0, 1) := by decide +kernel
theorem dX2_deal_15 : decode cX2_deal 15 = .ok (.iload_n 1, 1) := by decide +kernel
theorem dX2_deal_16 : decode cX2_deal 16 = .ok (.invokevirtual 59, 3) := by decide +kernel
theorem dX2_deal_19 : decode cX2_deal 19 = .ok (.iconst 0, 1) := by decide +kernel
theorem dX2_deal_20 : decode cX2_deal 20 = .ok (.istore 7, 2) := by decide +kernel
theorem dX2_deal_22 : decode cX2_deal 22 = .ok (.iload 7, 2) := by decide +kernel
theorem dX2_deal_24 : decode cX2_deal 24 = .ok (.iload 5, 2) := by decide +kernel
theorem dX2_deal_26 : decode cX2_deal 26 = .ok (.if_icmp .ge 52, 3) := by decide +kernel
theorem dX2_deal_29 : decode cX2_deal 29 = .ok (.aload_n 0, 1) := by decide +kernel
theorem dX2_deal_30 : decode cX2_deal 30 = .ok (.iload 6, 2) := by decide +kernel
theorem dX2_deal_32 : decode cX2_deal 32 = .ok (.invokevirtual 36, 3) := by decide +kernel
theorem dX2_deal_35 : decode cX2_deal 35 = .ok (.istore 8, 2) := by decide +kernel
theorem dX2_deal_37 : decode cX2_deal 37 = .ok (.aload_n 0, 1) := by decide +kernel
theorem dX2_deal_38 : decode cX2_deal 38 = .ok (.aload_n 0, 1) := by decide +kernel
theorem dX2_deal_39 : decode cX2_deal 39 = .ok (.getfield 24, 3) := by decide +kernel
theorem dX2_deal_42 : decode cX2_deal 42 = .ok (.iload 6, 2) := by decide +kernel
theorem dX2_deal_44 : decode cX2_deal 44 = .ok (.invokevirtual 63, 3) := by decide +kernel
theorem dX2_deal_47 : decode cX2_deal 47 = .ok (.invokestatic 68, 3) := by decide +kernel
theorem dX2_deal_50 : decode cX2_deal 50 = .ok (.iload 4, 2) := by decide +kernel
theorem dX2_deal_52 : decode cX2_deal 52 = .ok (.invokestatic 71, 3) := by decide +kernel
theorem dX2_deal_55 : decode cX2_deal 55 = .ok (.ifCond .ne 7, 3) := by decide +kernel
theorem dX2_deal_58 : decode cX2_deal 58 = .ok (.iload_n 2, 1) := by decide +kernel
theorem dX2_deal_59 : decode cX2_deal 59 = .ok (.goto 4, 3) := by decide +kernel
theorem dX2_deal_62 : decode cX2_deal 62 = .ok (.iload_n 3, 1) := by decide +kernel
theorem dX2_deal_63 : decode cX2_deal 63 = .ok (.iload 6, 2) := by decide +kernel
theorem dX2_deal_65 : decode cX2_deal 65 = .ok (.invokevirtual 74, 3) := by decide +kernel
theorem dX2_deal_68 : decode cX2_deal 68 = .ok (.iload 8, 2) := by decide +kernel
theorem dX2_deal_70 : decode cX2_deal 70 = .ok (.istore 6, 2) := by decide +kernel
theorem dX2_deal_72 : decode cX2_deal 72 = .ok (.iinc 7 1, 3) := by decide +kernel
theorem dX2_deal_75 : decode cX2_deal 75 = .ok (.goto (-53), 3) := by decide +kernel
theorem dX2_deal_78 : decode cX2_deal 78 = .ok (.return_, 1) := by decide +kernel
theorem dX2_pour_0 : decode cX2_pour 0 = .ok (.aload_n 0, 1) := by decide +kernel
theorem dX2_pour_1 : decode cX2_pour 1 = .ok (.iload_n 1, 1) := by decide +kernel
theorem dX2_pour_2 : decode cX2_pour 2 = .ok (.iload_n 2, 1) := by decide +kernel
theorem dX2_pour_3 : decode cX2_pour 3 = .ok (.iload_n 2, 1) := by decide +kernel
theorem dX2_pour_4 : decode cX2_pour 4 = .ok (.iconst 0, 1) := by decide +kernel
theorem dX2_pour_5 : decode cX2_pour 5 = .ok (.invokevirtual 52, 3) := by decide +kernel
theorem dX2_pour_8 : decode cX2_pour 8 = .ok (.return_, 1) := by decide +kernel
theorem dX2_emptyAllRows_0 : decode cX2_emptyAllRows 0 = .ok (.iconst 0, 1) := by decide +kernel
theorem dX2_emptyAllRows_1 : decode cX2_emptyAllRows 1 = .ok (.istore_n 1, 1) := by decide +kernel
theorem dX2_emptyAllRows_2 : decode cX2_emptyAllRows 2 = .ok (.iload_n 1, 1) := by decide +kernel
theorem dX2_emptyAllRows_3 : decode cX2_emptyAllRows 3 = .ok (.sipush 256, 3) := by decide +kernel
theorem dX2_emptyAllRows_6 : decode cX2_emptyAllRows 6 = .ok (.if_icmp .ge 14, 3) := by decide +kernel
theorem dX2_emptyAllRows_9 : decode cX2_emptyAllRows 9 = .ok (.aload_n 0, 1) := by decide +kernel
theorem dX2_emptyAllRows_10 : decode cX2_emptyAllRows 10 = .ok (.iload_n 1, 1) := by decide +kernel
theorem dX2_emptyAllRows_11 : decode cX2_emptyAllRows 11 = .ok (.invokevirtual 59, 3) := by decide +kernel
theorem dX2_emptyAllRows_14 : decode cX2_emptyAllRows 14 = .ok (.iinc 1 1, 3) := by decide +kernel
theorem dX2_emptyAllRows_17 : decode cX2_emptyAllRows 17 = .ok (.goto (-15), 3) := by decide +kernel
theorem dX2_emptyAllRows_20 : decode cX2_emptyAllRows 20 = .ok (.return_, 1) := by decide +kernel
set_option maxHeartbeats 4000000 in
set_option maxRecDepth 100000 in
theorem c_X2_deal (l : Launch) (D : va_G) (cy : ClassId) (rr : Nat) (rf : Nat) (rl : Nat) (rc : Nat) (rn : Nat) (sa : Nat) (ka : Nat) (va : Nat) (oa : Nat) (fi : Nat → Nat) (la : Nat → Nat) (co : Nat → Nat) (ne : Nat → Nat) (key : Nat → Nat) (tk : Nat) (cp : Nat) (fr : Nat) (t0 : Nat) (t1 : Nat) (bit : Nat) (rows : Nat → List Nat) (hRR : RR fi la co ne rows) (hkey : ∀ e, 1 ≤ e → e ≤ 120 → key e < 65536) (hrow : fr < 256) (h0 : t0 < 256) (h1 : t1 < 256) (hbit : bit < 16) : tq_V (S := (Nat → Nat) × (Nat → Nat) × (Nat → Nat) × (Nat → Nat)) l yX2_deal cX2_deal 9 2 43 0 0 D cy (wR cy rr rf rl rc rn sa ka va oa fi la co ne key tk cp) [.ref (rr), .int (nI (fr)), .int (nI (t0)), .int (nI (t1)), .int (nI (bit))] (fun u => RR u.1 u.2.1 u.2.2.1 u.2.2.2 (fun r => va_up rows fr [] r ++ (rows fr).filter (fun e => tg key t0 t1 bit e == r))) (fun u => (wR cy rr rf rl rc rn sa ka va oa u.1 u.2.1 u.2.2.1 u.2.2.2 key tk cp)) := by
  refine tq_V.mk (by decide) (Nat.le_of_ble_eq_true rfl) ?_
  intro p e s m args below meth c A C hin hP hK hD hS hA ls hl
  obtain ⟨hx, hb, hml, hown, hrt, hlk, hT⟩ := id C
  have hl : lv_has ls 9 [(0, .ref (rr)), (1, .int (nI (fr))), (2, .int (nI (t0))), (3, .int (nI (t1))), (4, .int (nI (bit)))] := hl
  have hlen := (hRR.1 fr hrow).1
  have hle := hRR.len hrow
  refine lv_aload_n hx hb dX2_deal_0 rfl (lv_at hl 0 rfl) ?_
  refine lv_iload_n hx hb dX2_deal_1 rfl (lv_at hl 1 rfl) ?_
  refine tq_callF (va_runV C.fix (As := [.int (nI (fr))]) (rest := []) (c_X2_count l D cy rr rf rl rc rn sa ka va oa fi la co ne key tk cp fr hrow) (tq_cV (n := 1) C ml_X2_56 im_X2_count se_X2_count ini_X2 cd_X2_count ⟨by decide, by decide, by decide +kernel⟩ ⟨Nat.le_of_ble_eq_true rfl, Nat.le_of_ble_eq_true rfl⟩) ⟨tq_Pf.blind, va_recv hK hP (ci := 2) (q0 := 0) rfl rfl, tq_preF C hK hP⟩ rfl rfl hl.1 rfl (lv_room (Nat.le_of_ble_eq_true rfl)) dX2_deal_2 ⟨Nat.le_of_ble_eq_true rfl, Nat.le_of_ble_eq_true rfl⟩) (fun r2 hr2 => ?_)
  obtain rfl := hr2
  refine lv_istore (lv' := [(5, .int (nI (co fr))), (0, .ref (rr)), (1, .int (nI (fr))), (2, .int (nI (t0))), (3, .int (nI (t1))), (4, .int (nI (bit)))]) hx hb dX2_deal_5 hl (by decide) rfl (fun ls hl => ?_)
  refine lv_aload_n hx hb dX2_deal_7 rfl (lv_at hl 1 rfl) ?_
  refine lv_iload_n hx hb dX2_deal_8 rfl (lv_at hl 2 rfl) ?_
  refine tq_callF (va_runV C.fix (As := [.int (nI (fr))]) (rest := []) (c_X2_firstOf l D cy rr rf rl rc rn sa ka va oa fi la co ne key tk cp fr hrow) (tq_cV (n := 1) C ml_X2_32 im_X2_firstOf se_X2_firstOf ini_X2 cd_X2_firstOf ⟨by decide, by decide, by decide +kernel⟩ ⟨Nat.le_of_ble_eq_true rfl, Nat.le_of_ble_eq_true rfl⟩) ⟨tq_Pf.blind, va_recv hK hP (ci := 2) (q0 := 0) rfl rfl, tq_preF C hK hP⟩ rfl rfl hl.1 rfl (lv_room (Nat.le_of_ble_eq_true rfl)) dX2_deal_9 ⟨Nat.le_of_ble_eq_true rfl, Nat.le_of_ble_eq_true rfl⟩) (fun r9 hr9 => ?_)
  obtain rfl := hr9
  refine tq_top (y := nI ((rows fr).getD 0 0)) (by rw [hRR.fst hrow]) ?_
  refine lv_istore (lv' := [(6, .int (nI ((rows fr).getD 0 0))), (5, .int (nI (co fr))), (0, .ref (rr)), (1, .int (nI (fr))), (2, .int (nI (t0))), (3, .int (nI (t1))), (4, .int (nI (bit)))]) hx hb dX2_deal_12 hl (by decide) rfl (fun ls hl => ?_)
  refine lv_aload_n hx hb dX2_deal_14 rfl (lv_at hl 2 rfl) ?_
  refine lv_iload_n hx hb dX2_deal_15 rfl (lv_at hl 3 rfl) ?_
  refine tq_callV (W3 := fun u => (wR cy rr rf rl rc rn sa ka va oa (va_up fi fr 0) (va_up la fr 0) (va_up co fr 0) ne key tk cp)) (wr := []) (va_runV C.fix (As := [.int (nI (fr))]) (rest := []) ((c_X2_empty l D cy rr rf rl rc rn sa ka va oa fi la co ne key tk cp fr hrow) s.heap.size) (tq_cV (n := 1) C ml_X2_59 im_X2_empty se_X2_empty ini_X2 cd_X2_empty ⟨by decide, by decide, by decide +kernel⟩ ⟨Nat.le_of_ble_eq_true rfl, Nat.le_of_ble_eq_true rfl⟩) ⟨tq_Pc.blind, va_recv hK hP (ci := 2) (q0 := 0) rfl rfl, tq_preC C hK hP hD⟩ rfl rfl hl.1 rfl (lv_room (Nat.le_of_ble_eq_true rfl)) dX2_deal_16 ⟨Nat.le_of_ble_eq_true rfl, Nat.le_of_ble_eq_true rfl⟩) hP hD hS hA [0, 1, 2, 3, 4, 5, 6] [] [0, 1, 2, 3, 4, 5, 6] rfl rfl (by decide) (by decide) (by decide) (fun _ => rfl) (fun u16 H locs hr16 hP hD hS => ?_)
  have hP : va_P D vwCl (wR cy rr rf rl rc rn sa ka va oa (va_up fi fr 0) (va_up la fr 0) (va_up co fr 0) ne key tk cp) H := hP
  have hD : va_D A (wR cy rr rf rl rc rn sa ka va oa (va_up fi fr 0) (va_up la fr 0) (va_up co fr 0) ne key tk cp) := hD
  refine lv_iconst (v := nI 0) hx hb dX2_deal_19 (by decide) ?_
  refine lv_istore (lv' := [(7, .int (nI (0))), (6, .int (nI ((rows fr).getD 0 0))), (5, .int (nI (co fr))), (0, .ref (rr)), (1, .int (nI (fr))), (2, .int (nI (t0))), (3, .int (nI (t1))), (4, .int (nI (bit)))]) hx hb dX2_deal_20 hl (by decide) rfl (fun ls hl => ?_)
  suffices hlp22 : ∀ (n22 : Nat) (k : Nat) (fi1 : Nat → Nat) (la1 : Nat → Nat) (co1 : Nat → Nat) (ne1 : Nat → Nat), (rows fr).length - k < n22 → (k ≤ (rows fr).length) → (RR fi1 la1 co1 ne1 (rk rows (rows fr) key t0 t1 bit fr k)) → (Cs ne1 ((rows fr).drop k) 0) → ∀ (H : Heap) (locs : List Loc), va_P D vwCl (wR cy rr rf rl rc rn sa ka va oa fi1 la1 co1 ne1 key tk cp) H → va_D A (wR cy rr rf rl rc rn sa ka va oa fi1 la1 co1 ne1 key tk cp) → va_S A s.heap H locs → ∀ ls : Array Slot, lv_has ls 9 [(0, .ref (rr)), (1, .int (nI (fr))), (2, .int (nI (t0))), (3, .int (nI (t1))), (4, .int (nI (bit))), (5, .int (nI (co fr))), (6, .int (nI ((rows fr).getD k 0))), (7, .int (nI (k)))] → W p l e ({ frames := 2, cells := 0, slots := 0, locals := 43 } : Room) s m args below meth c H locs (0 + 0) (0 + 0) (MQ below (va_Qv (S := (Nat → Nat) × (Nat → Nat) × (Nat → Nat) × (Nat → Nat)) (fun u => RR u.1 u.2.1 u.2.2.1 u.2.2.2 (fun r => va_up rows fr [] r ++ (rows fr).filter (fun e => tg key t0 t1 bit e == r))) (tq_B D A (fun u => (wR cy rr rf rl rc rn sa ka va oa u.1 u.2.1 u.2.2.1 u.2.2.2 key tk cp))) A) args s 0 0 A) (F0 m 22 ls []) from
    hlp22 ((rows fr).length + 1) 0 (va_up fi fr 0) (va_up la fr 0) (va_up co fr 0) ne (by omega) (by omega) ((hRR.empty fr).congr (fun r _ => rk_0)) (by rw [List.drop_zero]; exact (hRR.1 fr hrow).2.2.2.1) _ _ hP hD hS _ (lv_sub hl [3, 4, 5, 6, 7, 2, 1, 0] rfl)
  intro n22
  induction n22 with
  | zero => intro k fi1 la1 co1 ne1 hf; exact absurd hf (Nat.not_lt_zero _)
  | succ n22 ih22 =>
    intro k fi1 la1 co1 ne1 hf22 hk hR1 hCs H locs hP hD hS ls hl
    refine lv_iload hx hb dX2_deal_22 (lv_at hl 7 rfl) ?_
    refine lv_iload hx hb dX2_deal_24 (lv_at hl 5 rfl) ?_
    refine tq_icmp_ge (tgt := 78) C (by omega) (by omega) dX2_deal_26 (by decide) (fun h26 => ?_) (fun h26 => ?_)
    · exact tq_vret C (fi1, la1, co1, ne1) hP hD hS (hR1.congr (fun r _ => by rw [show k = (rows fr).length from by omega]; simp [rk])) (Nat.le_of_ble_eq_true rfl) (Nat.le_of_ble_eq_true rfl) dX2_deal_78
    · have hk2 : k < (rows fr).length := by omega
      have hg := hRR.get hrow k
      have hg2 := hg.2 hk2
      have hk9 := hkey _ hg2.1 hg.1
      refine lv_aload_n hx hb dX2_deal_29 rfl (lv_at hl 0 rfl) ?_
      refine lv_iload hx hb dX2_deal_30 (lv_at hl 6 rfl) ?_
      refine tq_callF (va_runV C.fix (As := [.int (nI ((rows fr).getD k 0))]) (rest := []) (c_X2_after l D cy rr rf rl rc rn sa ka va oa fi1 la1 co1 ne1 key tk cp ((rows fr).getD k 0) hg.1) (tq_cV (n := 1) C ml_X2_36 im_X2_after se_X2_after ini_X2 cd_X2_after ⟨by decide, by decide, by decide +kernel⟩ ⟨Nat.le_of_ble_eq_true rfl, Nat.le_of_ble_eq_true rfl⟩) ⟨tq_Pf.blind, va_recv hK hP (ci := 2) (q0 := 0) rfl rfl, tq_preF C hK hP⟩ rfl rfl hl.1 rfl (lv_room (Nat.le_of_ble_eq_true rfl)) dX2_deal_32 ⟨Nat.le_of_ble_eq_true rfl, Nat.le_of_ble_eq_true rfl⟩) (fun r32 hr32 => ?_)
      obtain rfl := hr32
      refine tq_top (y := nI ((rows fr).getD (k + 1) 0)) (by rw [rk_nx hCs hk2 hg2.1]) ?_
      refine lv_istore (lv' := [(8, .int (nI ((rows fr).getD (k + 1) 0))), (0, .ref (rr)), (1, .int (nI (fr))), (2, .int (nI (t0))), (3, .int (nI (t1))), (4, .int (nI (bit))), (5, .int (nI (co fr))), (6, .int (nI ((rows fr).getD k 0))), (7, .int (nI (k)))]) hx hb dX2_deal_35 hl (by decide) rfl (fun ls hl => ?_)
      refine lv_aload_n hx hb dX2_deal_37 rfl (lv_at hl 1 rfl) ?_
      refine lv_aload_n hx hb dX2_deal_38 rfl (lv_at hl 1 rfl) ?_
      refine tq_get (C0 := RX2) (T := TX2) (N := 5) (ci := 2) (k := 0) C gX2 inX2 rfl (by decide) rfl fl_X2_24 hK hP 0 rfl rfl dX2_deal_39 ?_
      refine lv_iload hx hb dX2_deal_42 (lv_at hl 7 rfl) ?_
      refine tq_callF (va_runV C.fix (As := [.int (nI ((rows fr).getD k 0))]) (rest := [.ref (rr)]) (c_X3_keyOf l D cy sa ka va oa key tk cp ((rows fr).getD k 0) hg2.1 hg.1) (tq_cV (n := 1) C ml_X2_63 im_X3_keyOf se_X3_keyOf ini_X3 cd_X3_keyOf ⟨by decide, by decide, by decide +kernel⟩ ⟨Nat.le_of_ble_eq_true rfl, Nat.le_of_ble_eq_true rfl⟩) ⟨tq_Pf.blind, va_recv hK hP (ci := 3) (q0 := 5) rfl rfl, tq_preF C hK (hP.sub [5, 6] rfl)⟩ rfl rfl hl.1 rfl (lv_room (Nat.le_of_ble_eq_true rfl)) dX2_deal_44 ⟨Nat.le_of_ble_eq_true rfl, Nat.le_of_ble_eq_true rfl⟩) (fun r44 hr44 => ?_)
      obtain rfl := hr44
      refine tq_callF (va_runSN C.fix (As := [.int (nI (key ((rows fr).getD k 0)))]) (rest := [.ref (rr)]) (c_X4_hash l D cy (key ((rows fr).getD k 0)) hk9) (tq_cN (n := 1) C mn_X2_68 sm_X4_hash ini_X4 cd_X4_hash ⟨by decide, by decide, by decide +kernel⟩ ⟨Nat.le_of_ble_eq_true rfl, Nat.le_of_ble_eq_true rfl⟩) ⟨tq_Pf.blind, tq_preF C hK (hP.sub [] rfl)⟩ rfl rfl hl.1 rfl (lv_room (Nat.le_of_ble_eq_true rfl)) dX2_deal_47 ⟨Nat.le_of_ble_eq_true rfl, Nat.le_of_ble_eq_true rfl⟩) (fun r47 hr47 => ?_)
      obtain rfl := hr47
      refine lv_iload hx hb dX2_deal_50 (lv_at hl 5 rfl) ?_
      refine tq_callF (va_runSN C.fix (As := [.int (nI (hs (key ((rows fr).getD k 0)))), .int (nI (bit))]) (rest := [.ref (rr)]) (c_X4_bitAt l D cy (hs (key ((rows fr).getD k 0))) bit (by have := hs_lt (key ((rows fr).getD k 0)); omega) (by omega)) (tq_cN (n := 2) C mn_X2_71 sm_X4_bitAt ini_X4 cd_X4_bitAt ⟨by decide, by decide, by decide +kernel⟩ ⟨Nat.le_of_ble_eq_true rfl, Nat.le_of_ble_eq_true rfl⟩) ⟨tq_Pf.blind, tq_preF C hK (hP.sub [] rfl)⟩ rfl rfl hl.1 rfl (lv_room (Nat.le_of_ble_eq_true rfl)) dX2_deal_52 ⟨Nat.le_of_ble_eq_true rfl, Nat.le_of_ble_eq_true rfl⟩) (fun r52 hr52 => ?_)
      obtain rfl := hr52
      refine tq_if_ne (tgt := 62) C (Nat.lt_of_lt_of_le (Nat.mod_lt _ (by decide)) (by decide)) dX2_deal_55 (by decide) (fun h55 => ?_) (fun h55 => ?_)
      · refine lv_iload_n hx hb dX2_deal_62 rfl (lv_at hl 4 rfl) ?_
        refine tq_top (y := nI (tg key t0 t1 bit ((rows fr).getD k 0))) (by rw [show tg key t0 t1 bit ((rows fr).getD k 0) = t1 from if_neg h55]) ?_
        refine lv_iload hx hb dX2_deal_63 (lv_at hl 7 rfl) ?_
        refine tq_callV (W3 := fun u => (wR cy rr rf rl rc rn sa ka va oa u.1 u.2.1 u.2.2.1 u.2.2.2 key tk cp)) (wr := []) (va_runV C.fix (As := [.int (nI (tg key t0 t1 bit ((rows fr).getD k 0))), .int (nI ((rows fr).getD k 0))]) (rest := []) ((c_X2_append l D cy rr rf rl rc rn sa ka va oa fi1 la1 co1 ne1 key tk cp (tg key t0 t1 bit ((rows fr).getD k 0)) ((rows fr).getD k 0) (rk rows (rows fr) key t0 t1 bit fr k) hR1 (tg_lt h0 h1) hg2.1 hg.1 (hRR.rk_free hrow _ (by rw [drop_succD hk2]; exact List.mem_cons_self))) H.size) (tq_cV (n := 2) C ml_X2_74 im_X2_append se_X2_append ini_X2 cd_X2_append ⟨by decide, by decide, by decide +kernel⟩ ⟨Nat.le_of_ble_eq_true rfl, Nat.le_of_ble_eq_true rfl⟩) ⟨tq_Pc.blind, va_recv hK hP (ci := 2) (q0 := 0) rfl rfl, tq_preC C hK hP hD⟩ rfl rfl hl.1 rfl (lv_room (Nat.le_of_ble_eq_true rfl)) dX2_deal_65 ⟨Nat.le_of_ble_eq_true rfl, Nat.le_of_ble_eq_true rfl⟩) hP hD hS hA [0, 1, 2, 3, 4, 5, 6] [] [0, 1, 2, 3, 4, 5, 6] rfl rfl (by decide) (by decide) (by decide) (fun _ => rfl) (fun u65 H locs hr65 hP hD hS => ?_)
        obtain ⟨fi2, la2, co2, ne2⟩ := u65
        dsimp only at hr65
        have hP : va_P D vwCl (wR cy rr rf rl rc rn sa ka va oa fi2 la2 co2 ne2 key tk cp) H := hP
        have hD : va_D A (wR cy rr rf rl rc rn sa ka va oa fi2 la2 co2 ne2 key tk cp) := hD
        refine lv_iload hx hb dX2_deal_68 (lv_at hl 0 rfl) ?_
        refine lv_istore (lv' := [(6, .int (nI ((rows fr).getD (k + 1) 0))), (8, .int (nI ((rows fr).getD (k + 1) 0))), (0, .ref (rr)), (1, .int (nI (fr))), (2, .int (nI (t0))), (3, .int (nI (t1))), (4, .int (nI (bit))), (5, .int (nI (co fr))), (7, .int (nI (k)))]) hx hb dX2_deal_70 hl (by decide) rfl (fun ls hl => ?_)
        refine lv_iinc (v := (nI (k + 1))) (lv' := [(7, .int (nI (k + 1))), (6, .int (nI ((rows fr).getD (k + 1) 0))), (8, .int (nI ((rows fr).getD (k + 1) 0))), (0, .ref (rr)), (1, .int (nI (fr))), (2, .int (nI (t0))), (3, .int (nI (t1))), (4, .int (nI (bit))), (5, .int (nI (co fr)))]) hx hb dX2_deal_72 hl (k := 8) rfl (tq_inc1 _) (by decide) rfl (fun ls hl => ?_)
        refine lv_goto (tgt := 22) hx hb dX2_deal_75 (by decide) ?_
        exact ih22 (k + 1) fi2 la2 co2 ne2 (by omega) (by omega) (hr65.1.congr (fun r _ => rk_step hk2 r)) (by
          have h8 := hCs
          rw [drop_succD hk2] at h8
          refine Cs_congr (fun e9 he9 => hr65.2 e9 (fun hm => ?_) (fun z => ?_)) h8.2
          · exact hRR.rk_free hrow e9 (by rw [drop_succD hk2]; exact List.mem_cons_of_mem _ he9) _ (tg_lt h0 h1) hm
          · have h7 := (hRR.1 fr hrow).2.2.2.2.2
            rw [← List.take_append_drop k (rows fr), drop_succD hk2, List.nodup_append, List.nodup_cons] at h7
            exact h7.2.1.1 (z ▸ he9)) _ _ hP hD hS _ (lv_sub hl [3, 4, 5, 6, 7, 8, 1, 0] rfl)
      · refine lv_iload_n hx hb dX2_deal_58 rfl (lv_at hl 3 rfl) ?_
        refine lv_goto (tgt := 63) hx hb dX2_deal_59 (by decide) ?_
        refine tq_top (y := nI (tg key t0 t1 bit ((rows fr).getD k 0))) (by rw [show tg key t0 t1 bit ((rows fr).getD k 0) = t0 from if_pos h55]) ?_
        refine lv_iload hx hb dX2_deal_63 (lv_at hl 7 rfl) ?_
        refine tq_callV (W3 := fun u => (wR cy rr rf rl rc rn sa ka va oa u.1 u.2.1 u.2.2.1 u.2.2.2 key tk cp)) (wr := []) (va_runV C.fix (As := [.int (nI (tg key t0 t1 bit ((rows fr).getD k 0))), .int (nI ((rows fr).getD k 0))]) (rest := []) ((c_X2_append l D cy rr rf rl rc rn sa ka va oa fi1 la1 co1 ne1 key tk cp (tg key t0 t1 bit ((rows fr).getD k 0)) ((rows fr).getD k 0) (rk rows (rows fr) key t0 t1 bit fr k) hR1 (tg_lt h0 h1) hg2.1 hg.1 (hRR.rk_free hrow _ (by rw [drop_succD hk2]; exact List.mem_cons_self))) H.size) (tq_cV (n := 2) C ml_X2_74 im_X2_append se_X2_append ini_X2 cd_X2_append ⟨by decide, by decide, by decide +kernel⟩ ⟨Nat.le_of_ble_eq_true rfl, Nat.le_of_ble_eq_true rfl⟩) ⟨tq_Pc.blind, va_recv hK hP (ci := 2) (q0 := 0) rfl rfl, tq_preC C hK hP hD⟩ rfl rfl hl.1 rfl (lv_room (Nat.le_of_ble_eq_true rfl)) dX2_deal_65 ⟨Nat.le_of_ble_eq_true rfl, Nat.le_of_ble_eq_true rfl⟩) hP hD hS hA [0, 1, 2, 3, 4, 5, 6] [] [0, 1, 2, 3, 4, 5, 6] rfl rfl (by decide) (by decide) (by decide) (fun _ => rfl) (fun u65 H locs hr65 hP hD hS => ?_)
        obtain ⟨fi2, la2, co2, ne2⟩ := u65
        dsimp only at hr65
        have hP : va_P D vwCl (wR cy rr rf rl rc rn sa ka va oa fi2 la2 co2 ne2 key tk cp) H := hP
        have hD : va_D A (wR cy rr rf rl rc rn sa ka va oa fi2 la2 co2 ne2 key tk cp) := hD
        refine lv_iload hx hb dX2_deal_68 (lv_at hl 0 rfl) ?_
        refine lv_istore (lv' := [(6, .int (nI ((rows fr).getD (k + 1) 0))), (8, .int (nI ((rows fr).getD (k + 1) 0))), (0, .ref (rr)), (1, .int (nI (fr))), (2, .int (nI (t0))), (3, .int (nI (t1))), (4, .int (nI (bit))), (5, .int (nI (co fr))), (7, .int (nI (k)))]) hx hb dX2_deal_70 hl (by decide) rfl (fun ls hl => ?_)
        refine lv_iinc (v := (nI (k + 1))) (lv' := [(7, .int (nI (k + 1))), (6, .int (nI ((rows fr).getD (k + 1) 0))), (8, .int (nI ((rows fr).getD (k + 1) 0))), (0, .ref (rr)), (1, .int (nI (fr))), (2, .int (nI (t0))), (3, .int (nI (t1))), (4, .int (nI (bit))), (5, .int (nI (co fr)))]) hx hb dX2_deal_72 hl (k := 8) rfl (tq_inc1 _) (by decide) rfl (fun ls hl => ?_)
        refine lv_goto (tgt := 22) hx hb dX2_deal_75 (by decide) ?_
        exact ih22 (k + 1) fi2 la2 co2 ne2 (by omega) (by omega) (hr65.1.congr (fun r _ => rk_step hk2 r)) (by
          have h8 := hCs
          rw [drop_succD hk2] at h8
          refine Cs_congr (fun e9 he9 => hr65.2 e9 (fun hm => ?_) (fun z => ?_)) h8.2
          · exact hRR.rk_free hrow e9 (by rw [drop_succD hk2]; exact List.mem_cons_of_mem _ he9) _ (tg_lt h0 h1) hm
          · have h7 := (hRR.1 fr hrow).2.2.2.2.2
            rw [← List.take_append_drop k (rows fr), drop_succD hk2, List.nodup_append, List.nodup_cons] at h7
            exact h7.2.1.1 (z ▸ he9)) _ _ hP hD hS _ (lv_sub hl [3, 4, 5, 6, 7, 8, 1, 0] rfl)
set_option maxHeartbeats 4000000 in
set_option maxRecDepth 100000 in
theorem c_X2_pour (l : Launch) (D : va_G) (cy : ClassId) (rr : Nat) (rf : Nat) (rl : Nat) (rc : Nat) (rn : Nat) (sa : Nat) (ka : Nat) (va : Nat) (oa : Nat) (fi : Nat → Nat) (la : Nat → Nat) (co : Nat → Nat) (ne : Nat → Nat) (key : Nat → Nat) (tk : Nat) (cp : Nat) (fr : Nat) (to : Nat) (rows : Nat → List Nat) (hRR : RR fi la co ne rows) (hkey : ∀ e, 1 ≤ e → e ≤ 120 → key e < 65536) (hrow : fr < 256) (h0 : to < 256) : tq_V (S := (Nat → Nat) × (Nat → Nat) × (Nat → Nat) × (Nat → Nat)) l yX2_pour cX2_pour 3 3 71 0 0 D cy (wR cy rr rf rl rc rn sa ka va oa fi la co ne key tk cp) [.ref (rr), .int (nI (fr)), .int (nI (to))] (fun u => RR u.1 u.2.1 u.2.2.1 u.2.2.2 (fun r => va_up rows fr [] r ++ if to = r then rows fr else [])) (fun u => (wR cy rr rf rl rc rn sa ka va oa u.1 u.2.1 u.2.2.1 u.2.2.2 key tk cp)) := by
  refine tq_V.mk (by decide) (Nat.le_of_ble_eq_true rfl) ?_
  intro p e s m args below meth c A C hin hP hK hD hS hA ls hl
  obtain ⟨hx, hb, hml, hown, hrt, hlk, hT⟩ := id C
  have hl : lv_has ls 3 [(0, .ref (rr)), (1, .int (nI (fr))), (2, .int (nI (to)))] := hl
  refine lv_aload_n hx hb dX2_pour_0 rfl (lv_at hl 0 rfl) ?_
  refine lv_iload_n hx hb dX2_pour_1 rfl (lv_at hl 1 rfl) ?_
  refine lv_iload_n hx hb dX2_pour_2 rfl (lv_at hl 2 rfl) ?_
  refine lv_iload_n hx hb dX2_pour_3 rfl (lv_at hl 2 rfl) ?_
  refine lv_iconst (v := nI 0) hx hb dX2_pour_4 (by decide) ?_
  refine tq_callV (W3 := fun u => (wR cy rr rf rl rc rn sa ka va oa u.1 u.2.1 u.2.2.1 u.2.2.2 key tk cp)) (wr := []) (va_runV C.fix (As := [.int (nI (fr)), .int (nI (to)), .int (nI (to)), .int (nI (0))]) (rest := []) ((c_X2_deal l D cy rr rf rl rc rn sa ka va oa fi la co ne key tk cp fr to to 0 rows hRR hkey hrow h0 h0 (by decide)) s.heap.size) (tq_cV (n := 4) C ml_X2_52 im_X2_deal se_X2_deal ini_X2 cd_X2_deal ⟨by decide, by decide, by decide +kernel⟩ ⟨Nat.le_of_ble_eq_true rfl, Nat.le_of_ble_eq_true rfl⟩) ⟨tq_Pc.blind, va_recv hK hP (ci := 2) (q0 := 0) rfl rfl, tq_preC C hK hP hD⟩ rfl rfl hl.1 rfl (lv_room (Nat.le_of_ble_eq_true rfl)) dX2_pour_5 ⟨Nat.le_of_ble_eq_true rfl, Nat.le_of_ble_eq_true rfl⟩) hP hD hS hA [0, 1, 2, 3, 4, 5, 6] [] [0, 1, 2, 3, 4, 5, 6] rfl rfl (by decide) (by decide) (by decide) (fun _ => rfl) (fun u5 H locs hr5 hP hD hS => ?_)
  obtain ⟨fi2, la2, co2, ne2⟩ := u5
  dsimp only at hr5
  have hP : va_P D vwCl (wR cy rr rf rl rc rn sa ka va oa fi2 la2 co2 ne2 key tk cp) H := hP
  have hD : va_D A (wR cy rr rf rl rc rn sa ka va oa fi2 la2 co2 ne2 key tk cp) := hD
  exact tq_vret C (fi2, la2, co2, ne2) hP hD hS (hr5.congr (fun r _ => by rw [pour_eq])) (Nat.le_of_ble_eq_true rfl) (Nat.le_of_ble_eq_true rfl) dX2_pour_8
set_option maxHeartbeats 4000000 in
set_option maxRecDepth 100000 in
theorem c_X2_emptyAllRows (l : Launch) (D : va_G) (cy : ClassId) (rr : Nat) (rf : Nat) (rl : Nat) (rc : Nat) (rn : Nat) (sa : Nat) (ka : Nat) (va : Nat) (oa : Nat) (fi : Nat → Nat) (la : Nat → Nat) (co : Nat → Nat) (ne : Nat → Nat) (key : Nat → Nat) (tk : Nat) (cp : Nat)   : tq_V (S := (Nat → Nat) × (Nat → Nat) × (Nat → Nat)) l yX2_emptyAllRows cX2_emptyAllRows 2 2 41 0 0 D cy (wR cy rr rf rl rc rn sa ka va oa fi la co ne key tk cp) [.ref (rr)] (fun u => RR u.1 u.2.1 u.2.2 ne (fun _ => [])) (fun u => (wR cy rr rf rl rc rn sa ka va oa u.1 u.2.1 u.2.2 ne key tk cp)) := by
  refine tq_V.mk (by decide) (Nat.le_of_ble_eq_true rfl) ?_
  intro p e s m args below meth c A C hin hP hK hD hS hA ls hl
  obtain ⟨hx, hb, hml, hown, hrt, hlk, hT⟩ := id C
  have hl : lv_has ls 2 [(0, .ref (rr))] := hl
  refine lv_iconst (v := nI 0) hx hb dX2_emptyAllRows_0 (by decide) ?_
  refine lv_istore_n (lv' := [(1, .int (nI (0))), (0, .ref (rr))]) hx hb dX2_emptyAllRows_1 rfl hl (by decide) rfl (fun ls hl => ?_)
  suffices hlp2 : ∀ (n2 : Nat) (i : Nat) (fi1 : Nat → Nat) (la1 : Nat → Nat) (co1 : Nat → Nat), 256 - i < n2 → (i ≤ 256) → (∀ r, r < i → fi1 r = 0 ∧ la1 r = 0 ∧ co1 r = 0) → ∀ (H : Heap) (locs : List Loc), va_P D vwCl (wR cy rr rf rl rc rn sa ka va oa fi1 la1 co1 ne key tk cp) H → va_D A (wR cy rr rf rl rc rn sa ka va oa fi1 la1 co1 ne key tk cp) → va_S A s.heap H locs → ∀ ls : Array Slot, lv_has ls 2 [(0, .ref (rr)), (1, .int (nI (i)))] → W p l e ({ frames := 2, cells := 0, slots := 0, locals := 41 } : Room) s m args below meth c H locs 0 0 (MQ below (va_Qv (S := (Nat → Nat) × (Nat → Nat) × (Nat → Nat)) (fun u => RR u.1 u.2.1 u.2.2 ne (fun _ => [])) (tq_B D A (fun u => (wR cy rr rf rl rc rn sa ka va oa u.1 u.2.1 u.2.2 ne key tk cp))) A) args s 0 0 A) (F0 m 2 ls []) from
    hlp2 257 0 fi la co (by omega) (by omega) (fun r hr => absurd hr (Nat.not_lt_zero _)) _ _ hP hD hS _ (lv_sub hl [1, 0] rfl)
  intro n2
  induction n2 with
  | zero => intro i fi1 la1 co1 hf; exact absurd hf (Nat.not_lt_zero _)
  | succ n2 ih2 =>
    intro i fi1 la1 co1 hf2 hi hz H locs hP hD hS ls hl
    refine lv_iload_n hx hb dX2_emptyAllRows_2 rfl (lv_at hl 1 rfl) ?_
    refine lv_sipush (v := nI 256) hx hb dX2_emptyAllRows_3 (by decide) ?_
    refine tq_icmp_ge (tgt := 20) C (by omega) (by omega) dX2_emptyAllRows_6 (by decide) (fun h6 => ?_) (fun h6 => ?_)
    · exact tq_vret C (fi1, la1, co1) hP hD hS (RR.zero (fun r hr => hz r (by omega))) (Nat.le_of_ble_eq_true rfl) (Nat.le_of_ble_eq_true rfl) dX2_emptyAllRows_20
    · refine lv_aload_n hx hb dX2_emptyAllRows_9 rfl (lv_at hl 0 rfl) ?_
      refine lv_iload_n hx hb dX2_emptyAllRows_10 rfl (lv_at hl 1 rfl) ?_
      refine tq_callV (W3 := fun u => (wR cy rr rf rl rc rn sa ka va oa (va_up fi1 i 0) (va_up la1 i 0) (va_up co1 i 0) ne key tk cp)) (wr := []) (va_runV C.fix (As := [.int (nI (i))]) (rest := []) ((c_X2_empty l D cy rr rf rl rc rn sa ka va oa fi1 la1 co1 ne key tk cp i h6) H.size) (tq_cV (n := 1) C ml_X2_59 im_X2_empty se_X2_empty ini_X2 cd_X2_empty ⟨by decide, by decide, by decide +kernel⟩ ⟨Nat.le_of_ble_eq_true rfl, Nat.le_of_ble_eq_true rfl⟩) ⟨tq_Pc.blind, va_recv hK hP (ci := 2) (q0 := 0) rfl rfl, tq_preC C hK hP hD⟩ rfl rfl hl.1 rfl (lv_room (Nat.le_of_ble_eq_true rfl)) dX2_emptyAllRows_11 ⟨Nat.le_of_ble_eq_true rfl, Nat.le_of_ble_eq_true rfl⟩) hP hD hS hA [0, 1, 2, 3, 4, 5, 6] [] [0, 1, 2, 3, 4, 5, 6] rfl rfl (by decide) (by decide) (by decide) (fun _ => rfl) (fun u11 H locs hr11 hP hD hS => ?_)
      have hP : va_P D vwCl (wR cy rr rf rl rc rn sa ka va oa (va_up fi1 i 0) (va_up la1 i 0) (va_up co1 i 0) ne key tk cp) H := hP
      have hD : va_D A (wR cy rr rf rl rc rn sa ka va oa (va_up fi1 i 0) (va_up la1 i 0) (va_up co1 i 0) ne key tk cp) := hD
      refine lv_iinc (v := (nI (i + 1))) (lv' := [(1, .int (nI (i + 1))), (0, .ref (rr))]) hx hb dX2_emptyAllRows_14 hl (k := 1) rfl (tq_inc1 _) (by decide) rfl (fun ls hl => ?_)
      refine lv_goto (tgt := 2) hx hb dX2_emptyAllRows_17 (by decide) ?_
      exact ih2 (i + 1) (va_up fi1 i 0) (va_up la1 i 0) (va_up co1 i 0) (by omega) (by omega) (fun r hr => (by
        by_cases q : r = i
        · subst q; exact ⟨up_s _ _ _, up_s _ _ _, up_s _ _ _⟩
        · rw [up_n _ _ q, up_n _ _ q, up_n _ _ q]; exact hz r (by omega))) _ _ hP hD hS _ (lv_sub hl [1, 0] rfl)
