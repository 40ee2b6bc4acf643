
/-- the second scan's count of a key -/
def sN (E : List Nat) (kp : Nat → Nat) (c q : Nat) : Nat := if kp q ∈ E ∧ rv (hs (kp q)) 8 < rv c 8 then 1 else 0
def sF (E : List Nat) (kp : Nat → Nat) (q : Nat) : Nat := if kp q ∈ E then 1 else 0
theorem sN_step {dep : Nat → Nat} {g c : Nat} {E : List Nat} {kp : Nat → Nat} (h : XOK dep g) (hc : c < 256) (ha : c < 2 ^ dep c) (hB : (clB E c (dep c)).Nodup) (q : Nat) : sN E kp c q + (clB E c (dep c)).count (kp q) = if nxc (dep c) c = 0 then sF E kp q else sN E kp (nxc (dep c) c) q := by
  have hb : dep c ≤ 8 := Nat.le_trans (h.2.1 c hc) h.1
  rw [nd_count hB]
  unfold sN sF
  by_cases e : kp q ∈ E
  · by_cases z : hs (kp q) % 2 ^ dep c = c % 2 ^ dep c
    · obtain ⟨w1, w2⟩ := scan_in hb ha z
      rw [if_neg (fun y => w1 y.2), if_pos (clB_mem.mpr ⟨e, z⟩)]
      by_cases y : nxc (dep c) c = 0
      · rw [if_pos y, if_pos e]
      · rw [if_neg y, if_pos ⟨e, w2.resolve_left y⟩]
    · rw [if_neg (show ¬ kp q ∈ clB E c (dep c) from fun y => z (clB_mem.mp y).2)]
      by_cases w : rv (hs (kp q)) 8 < rv c 8
      · rw [if_pos ⟨e, w⟩]
        by_cases y : nxc (dep c) c = 0
        · rw [if_pos y, if_pos e]
        · have := scan_up hb y
          rw [if_neg y, if_pos ⟨e, by omega⟩]
      · rw [if_neg (fun y => w y.2)]
        have n1 : ¬ (nxc (dep c) c = 0 ∨ rv (hs (kp q)) 8 < rv (nxc (dep c) c) 8) := fun y => (scan_step hb y).elim w z
        rw [if_neg (fun y => n1 (Or.inl y)), if_neg (fun y => n1 (Or.inr y.2))]
  · have z : ¬ kp q ∈ clB E c (dep c) := fun y => e (clB_mem.mp y).1
    simp [e, z]
theorem so_bd {dep : Nat → Nat} {c n : Nat} : so (scB dep c) n ≤ n * 1 := so_le (fun q _ => by unfold scB; split <;> omega)
theorem so_bd2 {dep : Nat → Nat} {n : Nat} : so (scA dep) n ≤ n * 1 := so_le (fun q _ => by unfold scA; split <;> omega)

set_option maxHeartbeats 4000000 in
set_option maxRecDepth 100000 in
theorem law_ck1 {p : Program} (l : Launch) {e : Env} {s : State} {m : MethodId} {args : Array Value} {below : List Frame} {meth : Method} {c : Code} (D : va_G) (cy : ClassId) {A : Nat → Prop} {Q : State → Prop} {b N9 : Nat} {xs : Nat → Int32} {a : Nat → Nat} {pa na ha llo lhi : Nat} (C : tq_C p s m meth c "TwinHashTablesLaw" cL_law 9 (some .boolean)) (hK : va_K D vwCl (tq_ty cy) s) (hA : ∀ q : Nat, s.heap.size ≤ q → A q) (hX : va_X b N9 xs s s.heap) (hbl : b < s.heap.size) (hbA : ¬ A b) (hN : N9 ≤ 260) (key : Nat → Nat) (val : Nat → Nat) (ord : Nat → Nat) (tk : Nat) (cp : Nat) (efi : Nat → Nat) (ela : Nat → Nat) (eco : Nat → Nat) (ene : Nat → Nat) (ldp : Nat → Nat) (dp : Nat) (dbl : Int32) (hlv : Int32) (spl : Int32) (mrg : Int32) (lfi : Nat → Nat) (lla : Nat → Nat) (lco : Nat → Nat) (lne : Nat → Nat) (lev : Nat) (ptr : Nat) (lsp : Int32) (kp : Nat → Nat) (kn : Nat → Nat) (kh : Nat → Nat) (dep : Nat → Nat) (E : List Nat) (L : List Nat) (hC : CR key val ord tk cp efi ela eco ene ldp dp lfi lla lco lne lev ptr llo lhi dep E L) (hH : HI kp kh (stl key val ord tk) 60) (hn9 : ∀ q, kn q < 2 ^ 31) (hdn : ∀ q, q < 60 → kh q = 2 → 0 < kn q)
    (H : Heap) (locs : List Loc) (ls : Array Slot) (hP : va_P D vwCl (wQ cy a key val ord tk cp efi ela eco ene ldp dp dbl hlv spl mrg lfi lla lco lne lev ptr llo lhi lsp pa na ha kp kn kh) H) (hD : va_D A (wQ cy a key val ord tk cp efi ela eco ene ldp dp dbl hlv spl mrg lfi lla lco lne lev ptr llo lhi lsp pa na ha kp kn kh)) (hS : va_S A s.heap H locs) (hl : lv_has ls 9 [(0, .ref (b)), (1, .ref (a 0)), (2, .ref (pa)), (3, .ref (na)), (4, .ref (ha)), (5, .int (nI (1))), (6, .int (nI (0)))])
    (kk : ∀ (key : Nat → Nat) (val : Nat → Nat) (ord : Nat → Nat) (tk : Nat) (cp : Nat) (efi : Nat → Nat) (ela : Nat → Nat) (eco : Nat → Nat) (ene : Nat → Nat) (ldp : Nat → Nat) (dp : Nat) (dbl : Int32) (hlv : Int32) (spl : Int32) (mrg : Int32) (lfi : Nat → Nat) (lla : Nat → Nat) (lco : Nat → Nat) (lne : Nat → Nat) (lev : Nat) (ptr : Nat) (lsp : Int32) (kp : Nat → Nat) (kn : Nat → Nat) (kh : Nat → Nat) (dep : Nat → Nat) (E : List Nat) (L : List Nat), (CR key val ord tk cp efi ela eco ene ldp dp lfi lla lco lne lev ptr llo lhi dep E L) → (HI kp kh (stl key val ord tk) 60) → ∀ (H : Heap) (locs : List Loc) (ls : Array Slot), va_P D vwCl (wQ cy a key val ord tk cp efi ela eco ene ldp dp dbl hlv spl mrg lfi lla lco lne lev ptr llo lhi lsp pa na ha kp kn kh) H → va_D A (wQ cy a key val ord tk cp efi ela eco ene ldp dp dbl hlv spl mrg lfi lla lco lne lev ptr llo lhi lsp pa na ha kp kn kh) → va_S A s.heap H locs → lv_has ls 9 [(0, .ref (b)), (1, .ref (a 0)), (2, .ref (pa)), (3, .ref (na)), (4, .ref (ha)), (5, .int (nI (1))), (6, .int (nI (0)))] → W p l e room_1 s m args below meth c H locs 21 2609 Q (F0 m 346 ls [])) : W p l e room_1 s m args below meth c H locs 21 2609 Q (F0 m 302 ls []) := by
  obtain ⟨hx, hb, hml, hown, hrt, hlk, hT⟩ := id C
  refine lv_iconst (v := nI 0) hx hb dL_law_302 (by decide) ?_
  refine lv_istore (lv' := [(8, .int (nI (0))), (0, .ref (b)), (1, .ref (a 0)), (2, .ref (pa)), (3, .ref (na)), (4, .ref (ha)), (5, .int (nI (1))), (6, .int (nI (0)))]) hx hb dL_law_303 hl (by decide) rfl (fun ls hl => ?_)
  suffices hlp305 : ∀ (n305 : Nat) (k : Nat), 60 - k < n305 → (k ≤ 60) → ∀ (H : Heap) (locs : List Loc), va_P D vwCl (wQ cy a key val ord tk cp efi ela eco ene ldp dp dbl hlv spl mrg lfi lla lco lne lev ptr llo lhi lsp pa na ha kp kn kh) H → va_D A (wQ cy a key val ord tk cp efi ela eco ene ldp dp dbl hlv spl mrg lfi lla lco lne lev ptr llo lhi lsp pa na ha kp kn kh) → va_S A s.heap H locs → ∀ ls : Array Slot, lv_has ls 9 [(0, .ref (b)), (1, .ref (a 0)), (2, .ref (pa)), (3, .ref (na)), (4, .ref (ha)), (5, .int (nI (1))), (6, .int (nI (0))), (8, .int (nI (k)))] → W p l e room_1 s m args below meth c H locs 21 2609 Q (F0 m 305 ls []) from
    hlp305 61 0 (by omega) (by omega) _ _ hP hD hS _ (lv_sub hl [1, 2, 3, 4, 5, 6, 7, 0] rfl)
  intro n305
  induction n305 with
  | zero => intro k hf; exact absurd hf (Nat.not_lt_zero _)
  | succ n305 ih305 =>
    intro k hf305 hk H locs hP hD hS ls hl
    refine lv_iload hx hb dL_law_305 (lv_at hl 7 rfl) ?_
    refine lv_bipush (v := nI 60) hx hb dL_law_307 (by decide) ?_
    refine tq_icmp_ge (tgt := 346) C (by omega) (by omega) dL_law_309 (by decide) (fun h309 => ?_) (fun h309 => ?_)
    · exact kk key val ord tk cp efi ela eco ene ldp dp dbl hlv spl mrg lfi lla lco lne lev ptr lsp kp kn kh dep E L (hC) (hH) _ _ _ hP hD hS (lv_sub hl [0, 1, 2, 3, 4, 5, 6] rfl)
    · refine lv_iload hx hb dL_law_312 (lv_at hl 5 rfl) ?_
      refine lv_if_eq (tgt := 346) hx hb dL_law_314 (by decide) (fun h9 => absurd h9 (by decide)) (fun _ => ?_)
      have hkb := hH.2.1 k
      refine lv_aload hx hb dL_law_317 (lv_at hl 4 rfl) ?_
      refine lv_iload hx hb dL_law_319 (lv_at hl 7 rfl) ?_
      refine tq_iald (n := 60) (i := k) (f := kh) C hK hP 20 0 rfl rfl (by omega) (Nat.le_of_ble_eq_true rfl) dL_law_321 ?_
      refine lv_iconst (v := nI 2) hx hb dL_law_322 (by decide) ?_
      refine tq_icmp_lt (tgt := 333) C (by omega) (by omega) dL_law_323 (by decide) (fun h323 => ?_) (fun h323 => ?_)
      · refine lv_iconst (v := nI 1) hx hb dL_law_333 (by decide) ?_
        refine lv_goto (tgt := 338) hx hb dL_law_334 (by decide) ?_
        refine lv_istore (lv' := [(5, .int (nI (1))), (0, .ref (b)), (1, .ref (a 0)), (2, .ref (pa)), (3, .ref (na)), (4, .ref (ha)), (6, .int (nI (0))), (8, .int (nI (k)))]) hx hb dL_law_338 hl (by decide) rfl (fun ls hl => ?_)
        refine lv_iinc (v := (nI (k + 1))) (lv' := [(8, .int (nI (k + 1))), (5, .int (nI (1))), (0, .ref (b)), (1, .ref (a 0)), (2, .ref (pa)), (3, .ref (na)), (4, .ref (ha)), (6, .int (nI (0)))]) hx hb dL_law_340 hl (k := 7) rfl (tq_inc1 _) (by decide) rfl (fun ls hl => ?_)
        refine lv_goto (tgt := 305) hx hb dL_law_343 (by decide) ?_
        exact ih305 (k + 1) (by omega) (by omega) _ _ hP hD hS _ (lv_sub hl [2, 3, 4, 5, 6, 1, 7, 0] rfl)
      · refine lv_aload_n hx hb dL_law_326 rfl (lv_at hl 3 rfl) ?_
        refine lv_iload hx hb dL_law_327 (lv_at hl 7 rfl) ?_
        refine tq_iald (n := 60) (i := k) (f := kn) C hK hP 19 0 rfl rfl (by omega) (Nat.le_of_ble_eq_true rfl) dL_law_329 ?_
        refine tq_if_le (tgt := 337) C (hn9 k) dL_law_330 (by decide) (fun h330 => ?_) (fun h330 => ?_)
        · exact absurd h330 (by have := hdn k (by omega) (by omega); omega)
        · refine lv_iconst (v := nI 1) hx hb dL_law_333 (by decide) ?_
          refine lv_goto (tgt := 338) hx hb dL_law_334 (by decide) ?_
          refine lv_istore (lv' := [(5, .int (nI (1))), (0, .ref (b)), (1, .ref (a 0)), (2, .ref (pa)), (3, .ref (na)), (4, .ref (ha)), (6, .int (nI (0))), (8, .int (nI (k)))]) hx hb dL_law_338 hl (by decide) rfl (fun ls hl => ?_)
          refine lv_iinc (v := (nI (k + 1))) (lv' := [(8, .int (nI (k + 1))), (5, .int (nI (1))), (0, .ref (b)), (1, .ref (a 0)), (2, .ref (pa)), (3, .ref (na)), (4, .ref (ha)), (6, .int (nI (0)))]) hx hb dL_law_340 hl (k := 7) rfl (tq_inc1 _) (by decide) rfl (fun ls hl => ?_)
          refine lv_goto (tgt := 305) hx hb dL_law_343 (by decide) ?_
          exact ih305 (k + 1) (by omega) (by omega) _ _ hP hD hS _ (lv_sub hl [2, 3, 4, 5, 6, 1, 7, 0] rfl)
set_option maxHeartbeats 4000000 in
set_option maxRecDepth 100000 in
theorem law_clr {p : Program} (l : Launch) {e : Env} {s : State} {m : MethodId} {args : Array Value} {below : List Frame} {meth : Method} {c : Code} (D : va_G) (cy : ClassId) {A : Nat → Prop} {Q : State → Prop} {b N9 : Nat} {xs : Nat → Int32} {a : Nat → Nat} {pa na ha llo lhi : Nat} (C : tq_C p s m meth c "TwinHashTablesLaw" cL_law 9 (some .boolean)) (hK : va_K D vwCl (tq_ty cy) s) (hA : ∀ q : Nat, s.heap.size ≤ q → A q) (hX : va_X b N9 xs s s.heap) (hbl : b < s.heap.size) (hbA : ¬ A b) (hN : N9 ≤ 260) (key : Nat → Nat) (val : Nat → Nat) (ord : Nat → Nat) (tk : Nat) (cp : Nat) (efi : Nat → Nat) (ela : Nat → Nat) (eco : Nat → Nat) (ene : Nat → Nat) (ldp : Nat → Nat) (dp : Nat) (dbl : Int32) (hlv : Int32) (spl : Int32) (mrg : Int32) (lfi : Nat → Nat) (lla : Nat → Nat) (lco : Nat → Nat) (lne : Nat → Nat) (lev : Nat) (ptr : Nat) (lsp : Int32) (kp : Nat → Nat) (kn : Nat → Nat) (kh : Nat → Nat) (dep : Nat → Nat) (E : List Nat) (L : List Nat) (hC : CR key val ord tk cp efi ela eco ene ldp dp lfi lla lco lne lev ptr llo lhi dep E L) (hH : HI kp kh (stl key val ord tk) 60) 
    (H : Heap) (locs : List Loc) (ls : Array Slot) (hP : va_P D vwCl (wQ cy a key val ord tk cp efi ela eco ene ldp dp dbl hlv spl mrg lfi lla lco lne lev ptr llo lhi lsp pa na ha kp kn kh) H) (hD : va_D A (wQ cy a key val ord tk cp efi ela eco ene ldp dp dbl hlv spl mrg lfi lla lco lne lev ptr llo lhi lsp pa na ha kp kn kh)) (hS : va_S A s.heap H locs) (hl : lv_has ls 9 [(0, .ref (b)), (1, .ref (a 0)), (2, .ref (pa)), (3, .ref (na)), (4, .ref (ha)), (5, .int (nI (1))), (6, .int (nI (0)))])
    (kk : ∀ (key : Nat → Nat) (val : Nat → Nat) (ord : Nat → Nat) (tk : Nat) (cp : Nat) (efi : Nat → Nat) (ela : Nat → Nat) (eco : Nat → Nat) (ene : Nat → Nat) (ldp : Nat → Nat) (dp : Nat) (dbl : Int32) (hlv : Int32) (spl : Int32) (mrg : Int32) (lfi : Nat → Nat) (lla : Nat → Nat) (lco : Nat → Nat) (lne : Nat → Nat) (lev : Nat) (ptr : Nat) (lsp : Int32) (kp : Nat → Nat) (kn : Nat → Nat) (kh : Nat → Nat) (dep : Nat → Nat) (E : List Nat) (L : List Nat), (CR key val ord tk cp efi ela eco ene ldp dp lfi lla lco lne lev ptr llo lhi dep E L) → (HI kp kh (stl key val ord tk) 60) → (∀ q, q < 60 → kn q = 0) → ∀ (H : Heap) (locs : List Loc) (ls : Array Slot), va_P D vwCl (wQ cy a key val ord tk cp efi ela eco ene ldp dp dbl hlv spl mrg lfi lla lco lne lev ptr llo lhi lsp pa na ha kp kn kh) H → va_D A (wQ cy a key val ord tk cp efi ela eco ene ldp dp dbl hlv spl mrg lfi lla lco lne lev ptr llo lhi lsp pa na ha kp kn kh) → va_S A s.heap H locs → lv_has ls 9 [(0, .ref (b)), (1, .ref (a 0)), (2, .ref (pa)), (3, .ref (na)), (4, .ref (ha)), (5, .int (nI (1))), (6, .int (nI (0)))] → W p l e room_1 s m args below meth c H locs 21 2609 Q (F0 m 367 ls [])) : W p l e room_1 s m args below meth c H locs 21 2609 Q (F0 m 346 ls []) := by
  obtain ⟨hx, hb, hml, hown, hrt, hlk, hT⟩ := id C
  refine lv_iconst (v := nI 0) hx hb dL_law_346 (by decide) ?_
  refine lv_istore (lv' := [(8, .int (nI (0))), (0, .ref (b)), (1, .ref (a 0)), (2, .ref (pa)), (3, .ref (na)), (4, .ref (ha)), (5, .int (nI (1))), (6, .int (nI (0)))]) hx hb dL_law_347 hl (by decide) rfl (fun ls hl => ?_)
  suffices hlp349 : ∀ (n349 : Nat) (k : Nat) (f : Nat → Nat), 60 - k < n349 → (k ≤ 60) → (∀ q, f q = if q < k then 0 else kn q) → ∀ (H : Heap) (locs : List Loc), va_P D vwCl (wQ cy a key val ord tk cp efi ela eco ene ldp dp dbl hlv spl mrg lfi lla lco lne lev ptr llo lhi lsp pa na ha kp f kh) H → va_D A (wQ cy a key val ord tk cp efi ela eco ene ldp dp dbl hlv spl mrg lfi lla lco lne lev ptr llo lhi lsp pa na ha kp f kh) → va_S A s.heap H locs → ∀ ls : Array Slot, lv_has ls 9 [(0, .ref (b)), (1, .ref (a 0)), (2, .ref (pa)), (3, .ref (na)), (4, .ref (ha)), (5, .int (nI (1))), (6, .int (nI (0))), (8, .int (nI (k)))] → W p l e room_1 s m args below meth c H locs 21 2609 Q (F0 m 349 ls []) from
    hlp349 61 0 kn (by omega) (by omega) (fun q => by rw [if_neg (Nat.not_lt_zero _)]) _ _ hP hD hS _ (lv_sub hl [1, 2, 3, 4, 5, 6, 7, 0] rfl)
  intro n349
  induction n349 with
  | zero => intro k f hf; exact absurd hf (Nat.not_lt_zero _)
  | succ n349 ih349 =>
    intro k f hf349 hk hf9 H locs hP hD hS ls hl
    refine lv_iload hx hb dL_law_349 (lv_at hl 7 rfl) ?_
    refine lv_bipush (v := nI 60) hx hb dL_law_351 (by decide) ?_
    refine tq_icmp_ge (tgt := 367) C (by omega) (by omega) dL_law_353 (by decide) (fun h353 => ?_) (fun h353 => ?_)
    · exact kk key val ord tk cp efi ela eco ene ldp dp dbl hlv spl mrg lfi lla lco lne lev ptr lsp kp f kh dep E L (hC) (hH) (fun q hq => by rw [hf9 q, if_pos (by omega)]) _ _ _ hP hD hS (lv_sub hl [0, 1, 2, 3, 4, 5, 6] rfl)
    · refine lv_aload_n hx hb dL_law_356 rfl (lv_at hl 3 rfl) ?_
      refine lv_iload hx hb dL_law_357 (lv_at hl 7 rfl) ?_
      refine lv_iconst (v := nI 0) hx hb dL_law_359 (by decide) ?_
      refine tq_iast (n := 60) (i := k) (v := 0) (f := f) C hK hP hD hS 19 0 rfl rfl (by omega) (Nat.le_of_ble_eq_true rfl) dL_law_360 (fun H locs hP hD hS => ?_)
      have hP : va_P D vwCl (wQ cy a key val ord tk cp efi ela eco ene ldp dp dbl hlv spl mrg lfi lla lco lne lev ptr llo lhi lsp pa na ha kp (va_up f k 0) kh) H := hP
      have hD : va_D A (wQ cy a key val ord tk cp efi ela eco ene ldp dp dbl hlv spl mrg lfi lla lco lne lev ptr llo lhi lsp pa na ha kp (va_up f k 0) kh) := hD
      refine lv_iinc (v := (nI (k + 1))) (lv' := [(8, .int (nI (k + 1))), (0, .ref (b)), (1, .ref (a 0)), (2, .ref (pa)), (3, .ref (na)), (4, .ref (ha)), (5, .int (nI (1))), (6, .int (nI (0)))]) hx hb dL_law_361 hl (k := 7) rfl (tq_inc1 _) (by decide) rfl (fun ls hl => ?_)
      refine lv_goto (tgt := 349) hx hb dL_law_364 (by decide) ?_
      exact ih349 (k + 1) (va_up f k 0) (by omega) (by omega) (fun q => by
                  by_cases z : q = k
                  · rw [z, up_s, if_pos (Nat.lt_succ_self k)]
                  · rw [up_n _ _ z, hf9 q]
                    by_cases y : q < k
                    · rw [if_pos y, if_pos (by omega)]
                    · rw [if_neg y, if_neg (by omega)]) _ _ hP hD hS _ (lv_sub hl [1, 2, 3, 4, 5, 6, 7, 0] rfl)
set_option maxHeartbeats 4000000 in
set_option maxRecDepth 100000 in
theorem law_scan2 {p : Program} (l : Launch) {e : Env} {s : State} {m : MethodId} {args : Array Value} {below : List Frame} {meth : Method} {c : Code} (D : va_G) (cy : ClassId) {A : Nat → Prop} {Q : State → Prop} {b N9 : Nat} {xs : Nat → Int32} {a : Nat → Nat} {pa na ha llo lhi : Nat} (C : tq_C p s m meth c "TwinHashTablesLaw" cL_law 9 (some .boolean)) (hK : va_K D vwCl (tq_ty cy) s) (hA : ∀ q : Nat, s.heap.size ≤ q → A q) (hX : va_X b N9 xs s s.heap) (hbl : b < s.heap.size) (hbA : ¬ A b) (hN : N9 ≤ 260) (key : Nat → Nat) (val : Nat → Nat) (ord : Nat → Nat) (tk : Nat) (cp : Nat) (efi : Nat → Nat) (ela : Nat → Nat) (eco : Nat → Nat) (ene : Nat → Nat) (ldp : Nat → Nat) (dp : Nat) (dbl : Int32) (hlv : Int32) (spl : Int32) (mrg : Int32) (lfi : Nat → Nat) (lla : Nat → Nat) (lco : Nat → Nat) (lne : Nat → Nat) (lev : Nat) (ptr : Nat) (lsp : Int32) (kp : Nat → Nat) (kn : Nat → Nat) (kh : Nat → Nat) (dep : Nat → Nat) (E : List Nat) (L : List Nat) (hC : CR key val ord tk cp efi ela eco ene ldp dp lfi lla lco lne lev ptr llo lhi dep E L) (hH : HI kp kh (stl key val ord tk) 60) (hkn : ∀ q, q < 60 → kn q = 0)
    (H : Heap) (locs : List Loc) (ls : Array Slot) (hP : va_P D vwCl (wQ cy a key val ord tk cp efi ela eco ene ldp dp dbl hlv spl mrg lfi lla lco lne lev ptr llo lhi lsp pa na ha kp kn kh) H) (hD : va_D A (wQ cy a key val ord tk cp efi ela eco ene ldp dp dbl hlv spl mrg lfi lla lco lne lev ptr llo lhi lsp pa na ha kp kn kh)) (hS : va_S A s.heap H locs) (hl : lv_has ls 9 [(0, .ref (b)), (1, .ref (a 0)), (2, .ref (pa)), (3, .ref (na)), (4, .ref (ha)), (5, .int (nI (1))), (6, .int (nI (0)))])
    (kk : ∀ (key : Nat → Nat) (val : Nat → Nat) (ord : Nat → Nat) (tk : Nat) (cp : Nat) (efi : Nat → Nat) (ela : Nat → Nat) (eco : Nat → Nat) (ene : Nat → Nat) (ldp : Nat → Nat) (dp : Nat) (dbl : Int32) (hlv : Int32) (spl : Int32) (mrg : Int32) (lfi : Nat → Nat) (lla : Nat → Nat) (lco : Nat → Nat) (lne : Nat → Nat) (lev : Nat) (ptr : Nat) (lsp : Int32) (kp : Nat → Nat) (kn : Nat → Nat) (kh : Nat → Nat) (dep : Nat → Nat) (E : List Nat) (L : List Nat) (t9 : Nat), (CR key val ord tk cp efi ela eco ene ldp dp lfi lla lco lne lev ptr llo lhi dep E L) → (HI kp kh (stl key val ord tk) 60) → (∀ q, q < 60 → kn q = sF E kp q) → (t9 = so (scA dep) 256) → ∀ (H : Heap) (locs : List Loc) (ls : Array Slot), va_P D vwCl (wQ cy a key val ord tk cp efi ela eco ene ldp dp dbl hlv spl mrg lfi lla lco lne lev ptr llo lhi lsp pa na ha kp kn kh) H → va_D A (wQ cy a key val ord tk cp efi ela eco ene ldp dp dbl hlv spl mrg lfi lla lco lne lev ptr llo lhi lsp pa na ha kp kn kh) → va_S A s.heap H locs → lv_has ls 9 [(0, .ref (b)), (1, .ref (a 0)), (2, .ref (pa)), (3, .ref (na)), (4, .ref (ha)), (5, .int (nI (1))), (6, .int (nI (0))), (7, .int (nI (t9)))] → W p l e room_1 s m args below meth c H locs 21 2609 Q (F0 m 439 ls [])) : W p l e room_1 s m args below meth c H locs 21 2609 Q (F0 m 367 ls []) := by
  obtain ⟨hx, hb, hml, hown, hrt, hlk, hT⟩ := id C
  refine lv_iconst (v := nI 0) hx hb dL_law_367 (by decide) ?_
  refine lv_istore (lv' := [(7, .int (nI (0))), (0, .ref (b)), (1, .ref (a 0)), (2, .ref (pa)), (3, .ref (na)), (4, .ref (ha)), (5, .int (nI (1))), (6, .int (nI (0)))]) hx hb dL_law_368 hl (by decide) rfl (fun ls hl => ?_)
  suffices hlp370 : ∀ (n370 : Nat) (c9 : Nat) (t : Nat) (f : Nat → Nat), 256 - rv c9 8 < n370 → (c9 < 256) → (t ≤ rv c9 8) → (c9 < 2 ^ dep c9) → (t = so (scB dep c9) 256) → (∀ q, q < 60 → f q = sN E kp c9 q) → ∀ (H : Heap) (locs : List Loc), va_P D vwCl (wQ cy a key val ord tk cp efi ela eco ene ldp dp dbl hlv spl mrg lfi lla lco lne lev ptr llo lhi lsp pa na ha kp f kh) H → va_D A (wQ cy a key val ord tk cp efi ela eco ene ldp dp dbl hlv spl mrg lfi lla lco lne lev ptr llo lhi lsp pa na ha kp f kh) → va_S A s.heap H locs → ∀ ls : Array Slot, lv_has ls 9 [(0, .ref (b)), (1, .ref (a 0)), (2, .ref (pa)), (3, .ref (na)), (4, .ref (ha)), (5, .int (nI (1))), (6, .int (nI (c9))), (7, .int (nI (t)))] → W p l e room_1 s m args below meth c H locs 21 2609 Q (F0 m 370 ls []) from
    hlp370 257 0 0 kn (by omega) (by decide) (Nat.zero_le _) (Nat.two_pow_pos _) ((scan_cnt0 dep).symm) (fun q hq => by rw [hkn q hq]; unfold sN; rw [rv_zero 8, if_neg (fun y => Nat.not_lt_zero _ y.2)]) _ _ hP hD hS _ (lv_sub hl [1, 2, 3, 4, 5, 6, 7, 0] rfl)
  intro n370
  induction n370 with
  | zero => intro c9 t f hf; exact absurd hf (Nat.not_lt_zero _)
  | succ n370 ih370 =>
    intro c9 t f hf370 hc9 ht9 hal ht8 hf9 H locs hP hD hS ls hl
    have hXO := hC.XO
    have hdp := hXO.1
    have hd9 : dep c9 ≤ 8 := Nat.le_trans (hXO.2.1 c9 hc9) hdp
    have hBn := hC.B_nodup hc9
    have hsl := hC.slot hc9
    have hrv9 := rv_lt c9 8
    have hsn := fun q => sN_step (kp := kp) hXO hc9 hal hBn.1 q
    have hct := scan_cnt hXO hc9 hal
    refine lv_iload hx hb dL_law_370 (lv_at hl 5 rfl) ?_
    refine lv_if_eq (tgt := 390) hx hb dL_law_372 (by decide) (fun h9 => absurd h9 (by decide)) (fun _ => ?_)
    refine lv_aload_n hx hb dL_law_375 rfl (lv_at hl 1 rfl) ?_
    refine lv_aload_n hx hb dL_law_376 rfl (lv_at hl 2 rfl) ?_
    refine lv_aload_n hx hb dL_law_377 rfl (lv_at hl 3 rfl) ?_
    refine lv_iload hx hb dL_law_378 (lv_at hl 6 rfl) ?_
    refine tq_callI (W3 := fun u => (wQ cy a key val ord tk cp efi ela eco ene ldp dp dbl hlv spl mrg lfi lla lco lne lev ptr llo lhi lsp pa na ha kp u kh)) (wr := []) (va_runS C.fix (As := [.ref (a 0), .ref (pa), .ref (na), .int (nI (c9))]) (rest := []) ((c_L_looks l D cy a key val ord tk cp efi ela eco ene ldp dp dbl hlv spl mrg lfi lla lco lne lev ptr llo lhi lsp pa na ha kp f kh c9 dep E L hC (fun i hi => (hH.1 i hi).2) hc9) H.size) (tq_cS (n := 4) C ml_L_67 sm_L_looks ini_L cd_L_looks ⟨by decide, by decide, by decide +kernel⟩ ⟨Nat.le_of_ble_eq_true rfl, Nat.le_of_ble_eq_true rfl⟩) ⟨tq_Pc.blind, tq_preC C hK hP hD⟩ rfl rfl hl.1 rfl (lv_room (Nat.le_of_ble_eq_true rfl)) dL_law_380 ⟨Nat.le_of_ble_eq_true rfl, Nat.le_of_ble_eq_true rfl⟩) hP hD hS hA [0, 1, 2, 3, 4, 5, 6, 7, 8, 9, 10, 11, 12, 13, 14, 15, 16, 17, 18, 19, 20] [] [0, 1, 2, 3, 4, 5, 6, 7, 8, 9, 10, 11, 12, 13, 14, 15, 16, 17, 18, 19, 20] rfl rfl (by decide) (by decide) (by decide) (fun _ => rfl) (fun r380 u380 H locs hr380 hP hD hS => ?_)
    obtain ⟨f2, rfl⟩ : ∃ z, z = u380 := ⟨_, rfl⟩
    try dsimp only at hr380
    have hP : va_P D vwCl (wQ cy a key val ord tk cp efi ela eco ene ldp dp dbl hlv spl mrg lfi lla lco lne lev ptr llo lhi lsp pa na ha kp f2 kh) H := hP
    have hD : va_D A (wQ cy a key val ord tk cp efi ela eco ene ldp dp dbl hlv spl mrg lfi lla lco lne lev ptr llo lhi lsp pa na ha kp f2 kh) := hD
    obtain rfl := hr380.1
    refine lv_if_eq (tgt := 390) hx hb dL_law_383 (by decide) (fun h9 => absurd h9 (by decide)) (fun _ => ?_)
    refine lv_iconst (v := nI 1) hx hb dL_law_386 (by decide) ?_
    refine lv_goto (tgt := 391) hx hb dL_law_387 (by decide) ?_
    refine lv_istore (lv' := [(5, .int (nI (1))), (0, .ref (b)), (1, .ref (a 0)), (2, .ref (pa)), (3, .ref (na)), (4, .ref (ha)), (6, .int (nI (c9))), (7, .int (nI (t)))]) hx hb dL_law_391 hl (by decide) rfl (fun ls hl => ?_)
    refine lv_aload_n hx hb dL_law_393 rfl (lv_at hl 2 rfl) ?_
    refine lv_iload hx hb dL_law_394 (lv_at hl 6 rfl) ?_
    refine tq_callF (vx_runSW C.fix (As := [.ref (a 0), .int (nI (c9))]) (rest := []) (c_L_next l D cy a key val ord tk cp efi ela eco ene ldp dp dbl hlv spl mrg lfi lla lco lne lev ptr llo lhi lsp c9 dep E L hC hc9) (tq_cW (n := 2) C ml_L_71 sm_L_next ini_L cw_L_next ⟨by decide, by decide, by decide +kernel⟩ ⟨Nat.le_of_ble_eq_true rfl, Nat.le_of_ble_eq_true rfl⟩) ⟨tq_Pf.blind, tq_preF C hK (hP.sub [0, 1, 2, 3, 4, 5, 6, 7, 8, 9, 10, 11, 12, 13, 14, 15, 16, 17] rfl)⟩ rfl rfl hl.1 rfl (lv_room (Nat.le_of_ble_eq_true rfl)) dL_law_396 ⟨Nat.le_of_ble_eq_true rfl, Nat.le_of_ble_eq_true rfl⟩) (fun r396 hr396 => ?_)
    subst hr396
    refine tq_top (y := nI (nxc (dep c9) c9)) (by rw [hsl.1]) ?_
    have hnx := scan_lt (c := c9) hd9
    refine lv_istore (lv' := [(6, .int (nI (nxc (dep c9) c9))), (5, .int (nI (1))), (0, .ref (b)), (1, .ref (a 0)), (2, .ref (pa)), (3, .ref (na)), (4, .ref (ha)), (7, .int (nI (t)))]) hx hb dL_law_399 hl (by decide) rfl (fun ls hl => ?_)
    refine lv_iload hx hb dL_law_401 (lv_at hl 1 rfl) ?_
    refine lv_if_eq (tgt := 423) hx hb dL_law_403 (by decide) (fun h9 => absurd h9 (by decide)) (fun _ => ?_)
    refine lv_iload hx hb dL_law_406 (lv_at hl 0 rfl) ?_
    refine tq_if_lt (tgt := 423) C (by omega) dL_law_408 (by decide) ?_
    refine lv_iload hx hb dL_law_411 (lv_at hl 7 rfl) ?_
    refine lv_sipush (v := nI 256) hx hb dL_law_413 (by decide) ?_
    refine tq_icmp_ge (tgt := 423) C (by omega) (by omega) dL_law_416 (by decide) (fun h416 => ?_) (fun h416 => ?_)
    · omega
    · refine lv_iconst (v := nI 1) hx hb dL_law_419 (by decide) ?_
      refine lv_goto (tgt := 424) hx hb dL_law_420 (by decide) ?_
      refine lv_istore (lv' := [(5, .int (nI (1))), (6, .int (nI (nxc (dep c9) c9))), (0, .ref (b)), (1, .ref (a 0)), (2, .ref (pa)), (3, .ref (na)), (4, .ref (ha)), (7, .int (nI (t)))]) hx hb dL_law_424 hl (by decide) rfl (fun ls hl => ?_)
      refine lv_iinc (v := (nI (t + 1))) (lv' := [(7, .int (nI (t + 1))), (5, .int (nI (1))), (6, .int (nI (nxc (dep c9) c9))), (0, .ref (b)), (1, .ref (a 0)), (2, .ref (pa)), (3, .ref (na)), (4, .ref (ha))]) hx hb dL_law_426 hl (k := 7) rfl (tq_inc1 _) (by decide) rfl (fun ls hl => ?_)
      refine lv_iload hx hb dL_law_429 (lv_at hl 1 rfl) ?_
      refine lv_if_eq (tgt := 439) hx hb dL_law_431 (by decide) (fun h9 => absurd h9 (by decide)) (fun _ => ?_)
      refine lv_iload hx hb dL_law_434 (lv_at hl 2 rfl) ?_
      refine tq_if_gt (tgt := 370) C (by omega) dL_law_436 (by decide) (fun h436 => ?_) (fun h436 => ?_)
      · exact ih370 (nxc (dep c9) c9) (t + 1) f2 (by have := scan_up (c := c9) hd9 (by omega); have := rv_lt (nxc (dep c9) c9) 8; omega) (hnx) (by have := scan_up (c := c9) hd9 (by omega); omega) (scan_al hXO hc9) (by rw [if_neg (show ¬ nxc (dep c9) c9 = 0 by omega)] at hct; rw [hct, ht8]) (fun q hq => by
                    have h9 := hsn q
                    rw [if_neg (show ¬ nxc (dep c9) c9 = 0 by omega)] at h9
                    rw [hr380.2 q, if_pos hq, hf9 q hq, h9]) _ _ hP hD hS _ (lv_sub hl [3, 4, 5, 6, 7, 1, 2, 0] rfl)
      · rw [h436] at hl
        simp only [h436, if_pos] at hsn hct
        exact kk key val ord tk cp efi ela eco ene ldp dp dbl hlv spl mrg lfi lla lco lne lev ptr lsp kp f2 kh dep E L (t + 1) (hC) (hH) (fun q hq => by rw [hr380.2 q, if_pos hq, hf9 q hq, hsn q]) (by rw [hct, ← ht8]) _ _ _ hP hD hS (lv_sub hl [3, 4, 5, 6, 7, 1, 2, 0] rfl)
set_option maxHeartbeats 4000000 in
set_option maxRecDepth 100000 in
theorem law_ck2 {p : Program} (l : Launch) {e : Env} {s : State} {m : MethodId} {args : Array Value} {below : List Frame} {meth : Method} {c : Code} (D : va_G) (cy : ClassId) {A : Nat → Prop} {Q : State → Prop} {b N9 : Nat} {xs : Nat → Int32} {a : Nat → Nat} {pa na ha llo lhi : Nat} (C : tq_C p s m meth c "TwinHashTablesLaw" cL_law 9 (some .boolean)) (hK : va_K D vwCl (tq_ty cy) s) (hA : ∀ q : Nat, s.heap.size ≤ q → A q) (hX : va_X b N9 xs s s.heap) (hbl : b < s.heap.size) (hbA : ¬ A b) (hN : N9 ≤ 260) (key : Nat → Nat) (val : Nat → Nat) (ord : Nat → Nat) (tk : Nat) (cp : Nat) (efi : Nat → Nat) (ela : Nat → Nat) (eco : Nat → Nat) (ene : Nat → Nat) (ldp : Nat → Nat) (dp : Nat) (dbl : Int32) (hlv : Int32) (spl : Int32) (mrg : Int32) (lfi : Nat → Nat) (lla : Nat → Nat) (lco : Nat → Nat) (lne : Nat → Nat) (lev : Nat) (ptr : Nat) (lsp : Int32) (kp : Nat → Nat) (kn : Nat → Nat) (kh : Nat → Nat) (dep : Nat → Nat) (E : List Nat) (L : List Nat) (hC : CR key val ord tk cp efi ela eco ene ldp dp lfi lla lco lne lev ptr llo lhi dep E L) (hH : HI kp kh (stl key val ord tk) 60) (t9 : Nat) (hkn : ∀ q, q < 60 → kn q = sF E kp q) (ht9 : t9 = so (scA dep) 256)
    (H : Heap) (locs : List Loc) (ls : Array Slot) (hP : va_P D vwCl (wQ cy a key val ord tk cp efi ela eco ene ldp dp dbl hlv spl mrg lfi lla lco lne lev ptr llo lhi lsp pa na ha kp kn kh) H) (hD : va_D A (wQ cy a key val ord tk cp efi ela eco ene ldp dp dbl hlv spl mrg lfi lla lco lne lev ptr llo lhi lsp pa na ha kp kn kh)) (hS : va_S A s.heap H locs) (hl : lv_has ls 9 [(0, .ref (b)), (1, .ref (a 0)), (2, .ref (pa)), (3, .ref (na)), (4, .ref (ha)), (5, .int (nI (1))), (6, .int (nI (0))), (7, .int (nI (t9)))])
    (kk : ∀ (key : Nat → Nat) (val : Nat → Nat) (ord : Nat → Nat) (tk : Nat) (cp : Nat) (efi : Nat → Nat) (ela : Nat → Nat) (eco : Nat → Nat) (ene : Nat → Nat) (ldp : Nat → Nat) (dp : Nat) (dbl : Int32) (hlv : Int32) (spl : Int32) (mrg : Int32) (lfi : Nat → Nat) (lla : Nat → Nat) (lco : Nat → Nat) (lne : Nat → Nat) (lev : Nat) (ptr : Nat) (lsp : Int32) (kp : Nat → Nat) (kn : Nat → Nat) (kh : Nat → Nat) (dep : Nat → Nat) (E : List Nat) (L : List Nat), (CR key val ord tk cp efi ela eco ene ldp dp lfi lla lco lne lev ptr llo lhi dep E L) → (HI kp kh (stl key val ord tk) 60) → (t9 = so (scA dep) 256) → ∀ (H : Heap) (locs : List Loc) (ls : Array Slot), va_P D vwCl (wQ cy a key val ord tk cp efi ela eco ene ldp dp dbl hlv spl mrg lfi lla lco lne lev ptr llo lhi lsp pa na ha kp kn kh) H → va_D A (wQ cy a key val ord tk cp efi ela eco ene ldp dp dbl hlv spl mrg lfi lla lco lne lev ptr llo lhi lsp pa na ha kp kn kh) → va_S A s.heap H locs → lv_has ls 9 [(0, .ref (b)), (1, .ref (a 0)), (2, .ref (pa)), (3, .ref (na)), (4, .ref (ha)), (5, .int (nI (1))), (6, .int (nI (0))), (7, .int (nI (t9)))] → W p l e room_1 s m args below meth c H locs 21 2609 Q (F0 m 487 ls [])) : W p l e room_1 s m args below meth c H locs 21 2609 Q (F0 m 439 ls []) := by
  obtain ⟨hx, hb, hml, hown, hrt, hlk, hT⟩ := id C
  refine lv_iconst (v := nI 0) hx hb dL_law_439 (by decide) ?_
  refine lv_istore (lv' := [(8, .int (nI (0))), (0, .ref (b)), (1, .ref (a 0)), (2, .ref (pa)), (3, .ref (na)), (4, .ref (ha)), (5, .int (nI (1))), (6, .int (nI (0))), (7, .int (nI (t9)))]) hx hb dL_law_440 hl (by decide) rfl (fun ls hl => ?_)
  suffices hlp442 : ∀ (n442 : Nat) (k : Nat), 60 - k < n442 → (k ≤ 60) → ∀ (H : Heap) (locs : List Loc), va_P D vwCl (wQ cy a key val ord tk cp efi ela eco ene ldp dp dbl hlv spl mrg lfi lla lco lne lev ptr llo lhi lsp pa na ha kp kn kh) H → va_D A (wQ cy a key val ord tk cp efi ela eco ene ldp dp dbl hlv spl mrg lfi lla lco lne lev ptr llo lhi lsp pa na ha kp kn kh) → va_S A s.heap H locs → ∀ ls : Array Slot, lv_has ls 9 [(0, .ref (b)), (1, .ref (a 0)), (2, .ref (pa)), (3, .ref (na)), (4, .ref (ha)), (5, .int (nI (1))), (6, .int (nI (0))), (7, .int (nI (t9))), (8, .int (nI (k)))] → W p l e room_1 s m args below meth c H locs 21 2609 Q (F0 m 442 ls []) from
    hlp442 61 0 (by omega) (by omega) _ _ hP hD hS _ (lv_sub hl [1, 2, 3, 4, 5, 6, 7, 8, 0] rfl)
  intro n442
  induction n442 with
  | zero => intro k hf; exact absurd hf (Nat.not_lt_zero _)
  | succ n442 ih442 =>
    intro k hf442 hk H locs hP hD hS ls hl
    refine lv_iload hx hb dL_law_442 (lv_at hl 8 rfl) ?_
    refine lv_bipush (v := nI 60) hx hb dL_law_444 (by decide) ?_
    refine tq_icmp_ge (tgt := 487) C (by omega) (by omega) dL_law_446 (by decide) (fun h446 => ?_) (fun h446 => ?_)
    · exact kk key val ord tk cp efi ela eco ene ldp dp dbl hlv spl mrg lfi lla lco lne lev ptr lsp kp kn kh dep E L (hC) (hH) (ht9) _ _ _ hP hD hS (lv_sub hl [0, 1, 2, 3, 4, 5, 6, 7] rfl)
    · refine lv_iload hx hb dL_law_449 (lv_at hl 5 rfl) ?_
      refine lv_if_eq (tgt := 487) hx hb dL_law_451 (by decide) (fun h9 => absurd h9 (by decide)) (fun _ => ?_)
      have hkb := hH.2.1 k
      have hk60 : k < 60 := by omega
      have hnk := hkn k hk60
      have hin := (hC.E_iff (kp k)).trans (hH.in_ hk60)
      have hn1 : kn k ≤ 1 := by rw [hnk]; unfold sF; split <;> omega
      refine lv_aload_n hx hb dL_law_454 rfl (lv_at hl 3 rfl) ?_
      refine lv_iload hx hb dL_law_455 (lv_at hl 8 rfl) ?_
      refine tq_iald (n := 60) (i := k) (f := kn) C hK hP 19 0 rfl rfl (by omega) (Nat.le_of_ble_eq_true rfl) dL_law_457 ?_
      refine lv_aload hx hb dL_law_458 (lv_at hl 4 rfl) ?_
      refine lv_iload hx hb dL_law_460 (lv_at hl 8 rfl) ?_
      refine tq_iald (n := 60) (i := k) (f := kh) C hK hP 20 0 rfl rfl (by omega) (Nat.le_of_ble_eq_true rfl) dL_law_462 ?_
      refine tq_if_ne (tgt := 470) C (by omega) dL_law_463 (by decide) (fun h463 => ?_) (fun h463 => ?_)
      · have hv : kn k = 1 := by rw [hnk]; exact if_pos (hin.mpr h463)
        refine lv_iconst (v := nI 1) hx hb dL_law_470 (by decide) ?_
        refine tq_icmp_ne (tgt := 478) C (by omega) (by omega) dL_law_471 (by decide) (fun h471 => ?_) (fun h471 => ?_)
        · omega
        · refine lv_iconst (v := nI 1) hx hb dL_law_474 (by decide) ?_
          refine lv_goto (tgt := 479) hx hb dL_law_475 (by decide) ?_
          refine lv_istore (lv' := [(5, .int (nI (1))), (0, .ref (b)), (1, .ref (a 0)), (2, .ref (pa)), (3, .ref (na)), (4, .ref (ha)), (6, .int (nI (0))), (7, .int (nI (t9))), (8, .int (nI (k)))]) hx hb dL_law_479 hl (by decide) rfl (fun ls hl => ?_)
          refine lv_iinc (v := (nI (k + 1))) (lv' := [(8, .int (nI (k + 1))), (5, .int (nI (1))), (0, .ref (b)), (1, .ref (a 0)), (2, .ref (pa)), (3, .ref (na)), (4, .ref (ha)), (6, .int (nI (0))), (7, .int (nI (t9)))]) hx hb dL_law_481 hl (k := 8) rfl (tq_inc1 _) (by decide) rfl (fun ls hl => ?_)
          refine lv_goto (tgt := 442) hx hb dL_law_484 (by decide) ?_
          exact ih442 (k + 1) (by omega) (by omega) _ _ hP hD hS _ (lv_sub hl [2, 3, 4, 5, 6, 1, 7, 8, 0] rfl)
      · have hv : kn k = 0 := by rw [hnk]; exact if_neg (fun y => hin.mp y h463)
        refine lv_iconst (v := nI 0) hx hb dL_law_466 (by decide) ?_
        refine lv_goto (tgt := 471) hx hb dL_law_467 (by decide) ?_
        refine tq_icmp_ne (tgt := 478) C (by omega) (by omega) dL_law_471 (by decide) (fun h471 => ?_) (fun h471 => ?_)
        · omega
        · refine lv_iconst (v := nI 1) hx hb dL_law_474 (by decide) ?_
          refine lv_goto (tgt := 479) hx hb dL_law_475 (by decide) ?_
          refine lv_istore (lv' := [(5, .int (nI (1))), (0, .ref (b)), (1, .ref (a 0)), (2, .ref (pa)), (3, .ref (na)), (4, .ref (ha)), (6, .int (nI (0))), (7, .int (nI (t9))), (8, .int (nI (k)))]) hx hb dL_law_479 hl (by decide) rfl (fun ls hl => ?_)
          refine lv_iinc (v := (nI (k + 1))) (lv' := [(8, .int (nI (k + 1))), (5, .int (nI (1))), (0, .ref (b)), (1, .ref (a 0)), (2, .ref (pa)), (3, .ref (na)), (4, .ref (ha)), (6, .int (nI (0))), (7, .int (nI (t9)))]) hx hb dL_law_481 hl (k := 8) rfl (tq_inc1 _) (by decide) rfl (fun ls hl => ?_)
          refine lv_goto (tgt := 442) hx hb dL_law_484 (by decide) ?_
          exact ih442 (k + 1) (by omega) (by omega) _ _ hP hD hS _ (lv_sub hl [2, 3, 4, 5, 6, 1, 7, 8, 0] rfl)
set_option maxHeartbeats 4000000 in
set_option maxRecDepth 100000 in
theorem law_end {p : Program} (l : Launch) {e : Env} {s : State} {m : MethodId} {args : Array Value} {below : List Frame} {meth : Method} {c : Code} (D : va_G) (cy : ClassId) {A : Nat → Prop} {Q : State → Prop} {b N9 : Nat} {xs : Nat → Int32} {a : Nat → Nat} {pa na ha llo lhi : Nat} (C : tq_C p s m meth c "TwinHashTablesLaw" cL_law 9 (some .boolean)) (hK : va_K D vwCl (tq_ty cy) s) (hA : ∀ q : Nat, s.heap.size ≤ q → A q) (hX : va_X b N9 xs s s.heap) (hbl : b < s.heap.size) (hbA : ¬ A b) (hN : N9 ≤ 260) (key : Nat → Nat) (val : Nat → Nat) (ord : Nat → Nat) (tk : Nat) (cp : Nat) (efi : Nat → Nat) (ela : Nat → Nat) (eco : Nat → Nat) (ene : Nat → Nat) (ldp : Nat → Nat) (dp : Nat) (dbl : Int32) (hlv : Int32) (spl : Int32) (mrg : Int32) (lfi : Nat → Nat) (lla : Nat → Nat) (lco : Nat → Nat) (lne : Nat → Nat) (lev : Nat) (ptr : Nat) (lsp : Int32) (kp : Nat → Nat) (kn : Nat → Nat) (kh : Nat → Nat) (dep : Nat → Nat) (E : List Nat) (L : List Nat) (hC : CR key val ord tk cp efi ela eco ene ldp dp lfi lla lco lne lev ptr llo lhi dep E L) (hH : HI kp kh (stl key val ord tk) 60) (t9 : Nat) (ht9 : t9 = so (scA dep) 256)
    (H : Heap) (locs : List Loc) (ls : Array Slot) (hP : va_P D vwCl (wQ cy a key val ord tk cp efi ela eco ene ldp dp dbl hlv spl mrg lfi lla lco lne lev ptr llo lhi lsp pa na ha kp kn kh) H) (hD : va_D A (wQ cy a key val ord tk cp efi ela eco ene ldp dp dbl hlv spl mrg lfi lla lco lne lev ptr llo lhi lsp pa na ha kp kn kh)) (hS : va_S A s.heap H locs) (hl : lv_has ls 9 [(0, .ref (b)), (1, .ref (a 0)), (2, .ref (pa)), (3, .ref (na)), (4, .ref (ha)), (5, .int (nI (1))), (6, .int (nI (0))), (7, .int (nI (t9)))])
    (kk : ∀ (key : Nat → Nat) (val : Nat → Nat) (ord : Nat → Nat) (tk : Nat) (cp : Nat) (efi : Nat → Nat) (ela : Nat → Nat) (eco : Nat → Nat) (ene : Nat → Nat) (ldp : Nat → Nat) (dp : Nat) (dbl : Int32) (hlv : Int32) (spl : Int32) (mrg : Int32) (lfi : Nat → Nat) (lla : Nat → Nat) (lco : Nat → Nat) (lne : Nat → Nat) (lev : Nat) (ptr : Nat) (lsp : Int32) (kp : Nat → Nat) (kn : Nat → Nat) (kh : Nat → Nat) (dep : Nat → Nat) (E : List Nat) (L : List Nat), (CR key val ord tk cp efi ela eco ene ldp dp lfi lla lco lne lev ptr llo lhi dep E L) → ∀ (H : Heap) (locs : List Loc) (ls : Array Slot), va_P D vwCl (wQ cy a key val ord tk cp efi ela eco ene ldp dp dbl hlv spl mrg lfi lla lco lne lev ptr llo lhi lsp pa na ha kp kn kh) H → va_D A (wQ cy a key val ord tk cp efi ela eco ene ldp dp dbl hlv spl mrg lfi lla lco lne lev ptr llo lhi lsp pa na ha kp kn kh) → va_S A s.heap H locs → lv_has ls 9 [(0, .ref (b)), (1, .ref (a 0)), (2, .ref (pa)), (3, .ref (na)), (4, .ref (ha)), (5, .int (nI (1))), (6, .int (nI (0))), (7, .int (nI (t9)))] → W p l e room_1 s m args below meth c H locs 21 2609 Q (F0 m 506 ls [.int (nI 1)])) : W p l e room_1 s m args below meth c H locs 21 2609 Q (F0 m 487 ls []) := by
  obtain ⟨hx, hb, hml, hown, hrt, hlk, hT⟩ := id C
  refine lv_iload hx hb dL_law_487 (lv_at hl 5 rfl) ?_
  refine lv_if_eq (tgt := 505) hx hb dL_law_489 (by decide) (fun h9 => absurd h9 (by decide)) (fun _ => ?_)
  have hbd := so_bd2 (dep := dep) (n := 256)
  refine lv_iload hx hb dL_law_492 (lv_at hl 7 rfl) ?_
  refine lv_aload_n hx hb dL_law_494 rfl (lv_at hl 1 rfl) ?_
  refine tq_callF (va_runV C.fix (As := []) (rest := [.int (nI (t9))]) (c_X4_buckets l D cy a key val ord tk cp efi ela eco ene ldp dp dbl hlv spl mrg lfi lla lco lne lev ptr llo lhi lsp dep E L hC) (tq_cV (n := 0) C ml_L_77 im_X4_buckets se_X4_buckets ini_X4 cd_X4_buckets ⟨by decide, by decide, by decide +kernel⟩ ⟨Nat.le_of_ble_eq_true rfl, Nat.le_of_ble_eq_true rfl⟩) ⟨tq_Pf.blind, va_recv hK hP (ci := 4) (q0 := 0) rfl rfl, tq_preF C hK (hP.sub [0, 1, 2, 3, 4, 5, 6, 7, 8, 9, 10, 11, 12, 13, 14, 15, 16, 17] rfl)⟩ rfl rfl hl.1 rfl (lv_room (Nat.le_of_ble_eq_true rfl)) dL_law_495 ⟨Nat.le_of_ble_eq_true rfl, Nat.le_of_ble_eq_true rfl⟩) (fun r495 hr495 => ?_)
  obtain rfl : r495 = nI (so (scA dep) 256) := hr495
  refine tq_icmp_ne (tgt := 505) C (by omega) (by omega) dL_law_498 (by decide) (fun h498 => ?_) (fun h498 => ?_)
  · exact absurd ht9 h498
  · refine lv_iconst (v := nI 1) hx hb dL_law_501 (by decide) ?_
    refine lv_goto (tgt := 506) hx hb dL_law_502 (by decide) ?_
    exact kk key val ord tk cp efi ela eco ene ldp dp dbl hlv spl mrg lfi lla lco lne lev ptr lsp kp kn kh dep E L hC _ _ _ hP hD hS (lv_sub hl [0, 1, 2, 3, 4, 5, 6, 7] rfl)
