theorem arg_lt {j t : Nat} (hj : j < 2 ^ 31) (ht : t < 256) : j / (1 + t / 30) + 7 * (t / 30) < 2 ^ 31 := by
  rcases Nat.eq_zero_or_pos (t / 30) with q | q
  · rw [q]
    have := Nat.div_le_self j (1 + 0)
    omega
  · have h := Nat.div_le_div_left (a := j) (show 2 ≤ 1 + t / 30 by omega) (by decide)
    omega
set_option maxHeartbeats 4000000 in
set_option maxRecDepth 100000 in
theorem law_scan {p : Program} (l : Launch) {e : Env} {s : State} {m : MethodId} {args : Array Value} {below : List Frame} {meth : Method} {c : Code} (D : va_G) (cy : ClassId) {A : Nat → Prop} {Q : State → Prop} {b N9 : Nat} {xs : Nat → Int32} {a : Nat → Nat} {pa na ha llo lhi : Nat} (C : tq_C p s m meth c "TwinHashTablesLaw" cL_law 9 (some .boolean)) (hK : va_K D vwCl (tq_ty cy) s) (hA : ∀ q : Nat, s.heap.size ≤ q → A q) (hX : va_X b N9 xs s s.heap) (hbl : b < s.heap.size) (hbA : ¬ A b) (hN : N9 ≤ 260) (key : Nat → Nat) (val : Nat → Nat) (ord : Nat → Nat) (tk : Nat) (cp : Nat) (efi : Nat → Nat) (ela : Nat → Nat) (eco : Nat → Nat) (ene : Nat → Nat) (ldp : Nat → Nat) (dp : Nat) (dbl : Int32) (hlv : Int32) (spl : Int32) (mrg : Int32) (lfi : Nat → Nat) (lla : Nat → Nat) (lco : Nat → Nat) (lne : Nat → Nat) (lev : Nat) (ptr : Nat) (lsp : Int32) (kp : Nat → Nat) (kn : Nat → Nat) (kh : Nat → Nat) (dep : Nat → Nat) (E : List Nat) (L : List Nat) (hC : CR key val ord tk cp efi ela eco ene ldp dp lfi lla lco lne lev ptr llo lhi dep E L) (hH : HI kp kh (stl key val ord tk) 60) (hkn : ∀ q, kn q = 0)
    (H : Heap) (locs : List Loc) (ls : Array Slot) (hP : va_P D vwCl (wQ cy a key val ord tk cp efi ela eco ene ldp dp dbl hlv spl mrg lfi lla lco lne lev ptr llo lhi lsp pa na ha kp kn kh) H) (hD : va_D A (wQ cy a key val ord tk cp efi ela eco ene ldp dp dbl hlv spl mrg lfi lla lco lne lev ptr llo lhi lsp pa na ha kp kn kh)) (hS : va_S A s.heap H locs) (hl : lv_has ls 9 [(0, .ref (b)), (1, .ref (a 0)), (2, .ref (pa)), (3, .ref (na)), (4, .ref (ha)), (5, .int (nI (1)))])
    (kk : ∀ (key : Nat → Nat) (val : Nat → Nat) (ord : Nat → Nat) (tk : Nat) (cp : Nat) (efi : Nat → Nat) (ela : Nat → Nat) (eco : Nat → Nat) (ene : Nat → Nat) (ldp : Nat → Nat) (dp : Nat) (dbl : Int32) (hlv : Int32) (spl : Int32) (mrg : Int32) (lfi : Nat → Nat) (lla : Nat → Nat) (lco : Nat → Nat) (lne : Nat → Nat) (lev : Nat) (ptr : Nat) (lsp : Int32) (kp : Nat → Nat) (kn : Nat → Nat) (kh : Nat → Nat) (dep : Nat → Nat) (E : List Nat) (L : List Nat), (CR key val ord tk cp efi ela eco ene ldp dp lfi lla lco lne lev ptr llo lhi dep E L) → (HI kp kh (stl key val ord tk) 60) → (∀ q, q < 60 → kh q = 2 → 0 < kn q) → (∀ q, kn q < 2 ^ 31) → ∀ (H : Heap) (locs : List Loc) (ls : Array Slot), va_P D vwCl (wQ cy a key val ord tk cp efi ela eco ene ldp dp dbl hlv spl mrg lfi lla lco lne lev ptr llo lhi lsp pa na ha kp kn kh) H → va_D A (wQ cy a key val ord tk cp efi ela eco ene ldp dp dbl hlv spl mrg lfi lla lco lne lev ptr llo lhi lsp pa na ha kp kn kh) → va_S A s.heap H locs → lv_has ls 9 [(0, .ref (b)), (1, .ref (a 0)), (2, .ref (pa)), (3, .ref (na)), (4, .ref (ha)), (5, .int (nI (1))), (6, .int (nI (0)))] → W p l e room_1 s m args below meth c H locs 21 2609 Q (F0 m 302 ls [])) : W p l e room_1 s m args below meth c H locs 21 2609 Q (F0 m 167 ls []) := by
  obtain ⟨hx, hb, hml, hown, hrt, hlk, hT⟩ := id C
  refine lv_iconst (v := nI 0) hx hb dL_law_167 (by decide) ?_
  refine lv_istore (lv' := [(6, .int (nI (0))), (0, .ref (b)), (1, .ref (a 0)), (2, .ref (pa)), (3, .ref (na)), (4, .ref (ha)), (5, .int (nI (1)))]) hx hb dL_law_168 hl (by decide) rfl (fun ls hl => ?_)
  refine lv_iconst (v := nI 0) hx hb dL_law_170 (by decide) ?_
  refine lv_istore (lv' := [(7, .int (nI (0))), (6, .int (nI (0))), (0, .ref (b)), (1, .ref (a 0)), (2, .ref (pa)), (3, .ref (na)), (4, .ref (ha)), (5, .int (nI (1)))]) hx hb dL_law_171 hl (by decide) rfl (fun ls hl => ?_)
  suffices hlp173 : ∀ (n173 : Nat) (c9 : Nat) (t : Nat) (key1 : Nat → Nat) (val1 : Nat → Nat) (ord1 : Nat → Nat) (tk1 : Nat) (cp1 : Nat) (efi1 : Nat → Nat) (ela1 : Nat → Nat) (eco1 : Nat → Nat) (ene1 : Nat → Nat) (ldp1 : Nat → Nat) (dp1 : Nat) (dbl1 : Int32) (hlv1 : Int32) (spl1 : Int32) (mrg1 : Int32) (lfi1 : Nat → Nat) (lla1 : Nat → Nat) (lco1 : Nat → Nat) (lne1 : Nat → Nat) (lev1 : Nat) (ptr1 : Nat) (lsp1 : Int32) (kh1 : Nat → Nat) (f : Nat → Nat) (dep1 : Nat → Nat) (E1 : List Nat) (L1 : List Nat), 256 - rv c9 8 < n173 → (c9 < 256) → (t ≤ rv c9 8) → (CR key1 val1 ord1 tk1 cp1 efi1 ela1 eco1 ene1 ldp1 dp1 lfi1 lla1 lco1 lne1 lev1 ptr1 llo lhi dep1 E1 L1) → (HI kp kh1 (stl key1 val1 ord1 tk1) 60) → (∀ q, f q ≤ t) → (∀ q, q < 60 → kh1 q = 2 → rv (hs (kp q)) 8 < rv c9 8 → 0 < f q) → ∀ (H : Heap) (locs : List Loc), va_P D vwCl (wQ cy a key1 val1 ord1 tk1 cp1 efi1 ela1 eco1 ene1 ldp1 dp1 dbl1 hlv1 spl1 mrg1 lfi1 lla1 lco1 lne1 lev1 ptr1 llo lhi lsp1 pa na ha kp f kh1) H → va_D A (wQ cy a key1 val1 ord1 tk1 cp1 efi1 ela1 eco1 ene1 ldp1 dp1 dbl1 hlv1 spl1 mrg1 lfi1 lla1 lco1 lne1 lev1 ptr1 llo lhi lsp1 pa na ha kp f kh1) → va_S A s.heap H locs → ∀ ls : Array Slot, lv_has ls 9 [(0, .ref (b)), (1, .ref (a 0)), (2, .ref (pa)), (3, .ref (na)), (4, .ref (ha)), (5, .int (nI (1))), (6, .int (nI (c9))), (7, .int (nI (t)))] → W p l e room_1 s m args below meth c H locs 21 2609 Q (F0 m 173 ls []) from
    hlp173 257 0 0 key val ord tk cp efi ela eco ene ldp dp dbl hlv spl mrg lfi lla lco lne lev ptr lsp kh kn dep E L (by omega) (by decide) (Nat.zero_le _) (hC) (hH) (fun q => by rw [hkn q]; exact Nat.le_refl 0) (fun q _ _ h => by rw [rv_zero 8] at h; exact absurd h (Nat.not_lt_zero _)) _ _ hP hD hS _ (lv_sub hl [2, 3, 4, 5, 6, 7, 1, 0] rfl)
  intro n173
  induction n173 with
  | zero => intro c9 t key1 val1 ord1 tk1 cp1 efi1 ela1 eco1 ene1 ldp1 dp1 dbl1 hlv1 spl1 mrg1 lfi1 lla1 lco1 lne1 lev1 ptr1 lsp1 kh1 f dep1 E1 L1 hf; exact absurd hf (Nat.not_lt_zero _)
  | succ n173 ih173 =>
    intro c9 t key1 val1 ord1 tk1 cp1 efi1 ela1 eco1 ene1 ldp1 dp1 dbl1 hlv1 spl1 mrg1 lfi1 lla1 lco1 lne1 lev1 ptr1 lsp1 kh1 f dep1 E1 L1 hf173 hc9 ht9 hC1 hH1 hn1 hdn H locs hP hD hS ls hl
    have hXO := hC1.XO
    have hdp := hXO.1
    have hd9 : dep1 c9 ≤ 8 := Nat.le_trans (hXO.2.1 c9 hc9) hdp
    have hBn := hC1.B_nodup hc9
    have hsl := hC1.slot hc9
    have hrv9 := rv_lt c9 8
    refine lv_iload hx hb dL_law_173 (lv_at hl 5 rfl) ?_
    refine lv_if_eq (tgt := 193) hx hb dL_law_175 (by decide) (fun h9 => absurd h9 (by decide)) (fun _ => ?_)
    refine lv_aload_n hx hb dL_law_178 rfl (lv_at hl 1 rfl) ?_
    refine lv_aload_n hx hb dL_law_179 rfl (lv_at hl 2 rfl) ?_
    refine lv_aload_n hx hb dL_law_180 rfl (lv_at hl 3 rfl) ?_
    refine lv_iload hx hb dL_law_181 (lv_at hl 6 rfl) ?_
    refine tq_callI (W3 := fun u => (wQ cy a key1 val1 ord1 tk1 cp1 efi1 ela1 eco1 ene1 ldp1 dp1 dbl1 hlv1 spl1 mrg1 lfi1 lla1 lco1 lne1 lev1 ptr1 llo lhi lsp1 pa na ha kp u kh1)) (wr := []) (va_runS C.fix (As := [.ref (a 0), .ref (pa), .ref (na), .int (nI (c9))]) (rest := []) ((c_L_looks l D cy a key1 val1 ord1 tk1 cp1 efi1 ela1 eco1 ene1 ldp1 dp1 dbl1 hlv1 spl1 mrg1 lfi1 lla1 lco1 lne1 lev1 ptr1 llo lhi lsp1 pa na ha kp f kh1 c9 dep1 E1 L1 hC1 (fun i hi => (hH1.1 i hi).2) hc9) H.size) (tq_cS (n := 4) C ml_L_67 sm_L_looks ini_L cd_L_looks ⟨by decide, by decide, by decide +kernel⟩ ⟨Nat.le_of_ble_eq_true rfl, Nat.le_of_ble_eq_true rfl⟩) ⟨tq_Pc.blind, tq_preC C hK hP hD⟩ rfl rfl hl.1 rfl (lv_room (Nat.le_of_ble_eq_true rfl)) dL_law_183 ⟨Nat.le_of_ble_eq_true rfl, Nat.le_of_ble_eq_true rfl⟩) hP hD hS hA [0, 1, 2, 3, 4, 5, 6, 7, 8, 9, 10, 11, 12, 13, 14, 15, 16, 17, 18, 19, 20] [] [0, 1, 2, 3, 4, 5, 6, 7, 8, 9, 10, 11, 12, 13, 14, 15, 16, 17, 18, 19, 20] rfl rfl (by decide) (by decide) (by decide) (fun _ => rfl) (fun r183 u183 H locs hr183 hP hD hS => ?_)
    obtain ⟨f2, rfl⟩ : ∃ z, z = u183 := ⟨_, rfl⟩
    try dsimp only at hr183
    have hP : va_P D vwCl (wQ cy a key1 val1 ord1 tk1 cp1 efi1 ela1 eco1 ene1 ldp1 dp1 dbl1 hlv1 spl1 mrg1 lfi1 lla1 lco1 lne1 lev1 ptr1 llo lhi lsp1 pa na ha kp f2 kh1) H := hP
    have hD : va_D A (wQ cy a key1 val1 ord1 tk1 cp1 efi1 ela1 eco1 ene1 ldp1 dp1 dbl1 hlv1 spl1 mrg1 lfi1 lla1 lco1 lne1 lev1 ptr1 llo lhi lsp1 pa na ha kp f2 kh1) := hD
    obtain rfl := hr183.1
    refine lv_if_eq (tgt := 193) hx hb dL_law_186 (by decide) (fun h9 => absurd h9 (by decide)) (fun _ => ?_)
    refine lv_iconst (v := nI 1) hx hb dL_law_189 (by decide) ?_
    refine lv_goto (tgt := 194) hx hb dL_law_190 (by decide) ?_
    refine lv_istore (lv' := [(5, .int (nI (1))), (0, .ref (b)), (1, .ref (a 0)), (2, .ref (pa)), (3, .ref (na)), (4, .ref (ha)), (6, .int (nI (c9))), (7, .int (nI (t)))]) hx hb dL_law_194 hl (by decide) rfl (fun ls hl => ?_)
    refine lv_aload_n hx hb dL_law_196 rfl (lv_at hl 2 rfl) ?_
    refine lv_iload hx hb dL_law_197 (lv_at hl 6 rfl) ?_
    refine tq_callF (vx_runSW C.fix (As := [.ref (a 0), .int (nI (c9))]) (rest := []) (c_L_next l D cy a key1 val1 ord1 tk1 cp1 efi1 ela1 eco1 ene1 ldp1 dp1 dbl1 hlv1 spl1 mrg1 lfi1 lla1 lco1 lne1 lev1 ptr1 llo lhi lsp1 c9 dep1 E1 L1 hC1 hc9) (tq_cW (n := 2) C ml_L_71 sm_L_next ini_L cw_L_next ⟨by decide, by decide, by decide +kernel⟩ ⟨Nat.le_of_ble_eq_true rfl, Nat.le_of_ble_eq_true rfl⟩) ⟨tq_Pf.blind, tq_preF C hK (hP.sub [0, 1, 2, 3, 4, 5, 6, 7, 8, 9, 10, 11, 12, 13, 14, 15, 16, 17] rfl)⟩ rfl rfl hl.1 rfl (lv_room (Nat.le_of_ble_eq_true rfl)) dL_law_199 ⟨Nat.le_of_ble_eq_true rfl, Nat.le_of_ble_eq_true rfl⟩) (fun r199 hr199 => ?_)
    subst hr199
    have hseen : ∀ q, q < 60 → kh1 q = 2 → (nxc (dep1 c9) c9 = 0 ∨ rv (hs (kp q)) 8 < rv (nxc (dep1 c9) c9) 8) → 0 < f2 q := by
      intro q hq h9 h8
      rw [hr183.2 q, if_pos hq]
      rcases scan_step hd9 h8 with w | w
      · have := hdn q hq h9 w; omega
      · have hin : kp q ∈ clB E1 c9 (dep1 c9) := clB_mem.mpr ⟨(hC1.E_iff _).mpr ((hH1.in_ hq).mpr (by omega)), w⟩
        rw [nd_count hBn.1, if_pos hin]; omega
    refine tq_top (y := nI (nxc (dep1 c9) c9)) (by rw [hsl.1]) ?_
    have hnx := scan_lt (c := c9) hd9
    refine lv_istore (lv' := [(6, .int (nI (nxc (dep1 c9) c9))), (5, .int (nI (1))), (0, .ref (b)), (1, .ref (a 0)), (2, .ref (pa)), (3, .ref (na)), (4, .ref (ha)), (7, .int (nI (t)))]) hx hb dL_law_202 hl (by decide) rfl (fun ls hl => ?_)
    refine lv_iload hx hb dL_law_204 (lv_at hl 1 rfl) ?_
    refine lv_if_eq (tgt := 226) hx hb dL_law_206 (by decide) (fun h9 => absurd h9 (by decide)) (fun _ => ?_)
    refine lv_iload hx hb dL_law_209 (lv_at hl 0 rfl) ?_
    refine tq_if_lt (tgt := 226) C (by omega) dL_law_211 (by decide) ?_
    refine lv_iload hx hb dL_law_214 (lv_at hl 7 rfl) ?_
    refine lv_sipush (v := nI 256) hx hb dL_law_216 (by decide) ?_
    refine tq_icmp_ge (tgt := 226) C (by omega) (by omega) dL_law_219 (by decide) (fun h219 => ?_) (fun h219 => ?_)
    · omega
    · refine lv_iconst (v := nI 1) hx hb dL_law_222 (by decide) ?_
      refine lv_goto (tgt := 227) hx hb dL_law_223 (by decide) ?_
      refine lv_istore (lv' := [(5, .int (nI (1))), (6, .int (nI (nxc (dep1 c9) c9))), (0, .ref (b)), (1, .ref (a 0)), (2, .ref (pa)), (3, .ref (na)), (4, .ref (ha)), (7, .int (nI (t)))]) hx hb dL_law_227 hl (by decide) rfl (fun ls hl => ?_)
      refine lv_iconst (v := nI 0) hx hb dL_law_229 (by decide) ?_
      refine lv_istore (lv' := [(8, .int (nI (0))), (5, .int (nI (1))), (6, .int (nI (nxc (dep1 c9) c9))), (0, .ref (b)), (1, .ref (a 0)), (2, .ref (pa)), (3, .ref (na)), (4, .ref (ha)), (7, .int (nI (t)))]) hx hb dL_law_230 hl (by decide) rfl (fun ls hl => ?_)
      suffices hlp232 : ∀ (n232 : Nat) (k : Nat) (key2 : Nat → Nat) (val2 : Nat → Nat) (ord2 : Nat → Nat) (tk2 : Nat) (cp2 : Nat) (efi2 : Nat → Nat) (ela2 : Nat → Nat) (eco2 : Nat → Nat) (ene2 : Nat → Nat) (ldp2 : Nat → Nat) (dp2 : Nat) (dbl2 : Int32) (hlv2 : Int32) (spl2 : Int32) (mrg2 : Int32) (lfi2 : Nat → Nat) (lla2 : Nat → Nat) (lco2 : Nat → Nat) (lne2 : Nat → Nat) (lev2 : Nat) (ptr2 : Nat) (lsp2 : Int32) (kh2 : Nat → Nat) (dep2 : Nat → Nat) (E2 : List Nat) (L2 : List Nat), 2 - k < n232 → (k ≤ 2) → (CR key2 val2 ord2 tk2 cp2 efi2 ela2 eco2 ene2 ldp2 dp2 lfi2 lla2 lco2 lne2 lev2 ptr2 llo lhi dep2 E2 L2) → (HI kp kh2 (stl key2 val2 ord2 tk2) 60) → (∀ q, kh2 q = 2 → kh1 q = 2) → ∀ (H : Heap) (locs : List Loc), va_P D vwCl (wQ cy a key2 val2 ord2 tk2 cp2 efi2 ela2 eco2 ene2 ldp2 dp2 dbl2 hlv2 spl2 mrg2 lfi2 lla2 lco2 lne2 lev2 ptr2 llo lhi lsp2 pa na ha kp f2 kh2) H → va_D A (wQ cy a key2 val2 ord2 tk2 cp2 efi2 ela2 eco2 ene2 ldp2 dp2 dbl2 hlv2 spl2 mrg2 lfi2 lla2 lco2 lne2 lev2 ptr2 llo lhi lsp2 pa na ha kp f2 kh2) → va_S A s.heap H locs → ∀ ls : Array Slot, lv_has ls 9 [(0, .ref (b)), (1, .ref (a 0)), (2, .ref (pa)), (3, .ref (na)), (4, .ref (ha)), (5, .int (nI (1))), (6, .int (nI (nxc (dep1 c9) c9))), (7, .int (nI (t))), (8, .int (nI (k)))] → W p l e room_1 s m args below meth c H locs (21 + 0) (2609 + 0) Q (F0 m 232 ls []) from
        hlp232 3 0 key1 val1 ord1 tk1 cp1 efi1 ela1 eco1 ene1 ldp1 dp1 dbl1 hlv1 spl1 mrg1 lfi1 lla1 lco1 lne1 lev1 ptr1 lsp1 kh1 dep1 E1 L1 (by omega) (by omega) (hC1) (hH1) (fun q h => h) _ _ hP hD hS _ (lv_sub hl [3, 4, 5, 6, 7, 1, 2, 8, 0] rfl)
      intro n232
      induction n232 with
      | zero => intro k key2 val2 ord2 tk2 cp2 efi2 ela2 eco2 ene2 ldp2 dp2 dbl2 hlv2 spl2 mrg2 lfi2 lla2 lco2 lne2 lev2 ptr2 lsp2 kh2 dep2 E2 L2 hf; exact absurd hf (Nat.not_lt_zero _)
      | succ n232 ih232 =>
        intro k key2 val2 ord2 tk2 cp2 efi2 ela2 eco2 ene2 ldp2 dp2 dbl2 hlv2 spl2 mrg2 lfi2 lla2 lco2 lne2 lev2 ptr2 lsp2 kh2 dep2 E2 L2 hf232 hk2 hC2 hH2 hm2 H locs hP hD hS ls hl
        refine lv_iload hx hb dL_law_232 (lv_at hl 8 rfl) ?_
        refine lv_iconst (v := nI 2) hx hb dL_law_234 (by decide) ?_
        refine tq_icmp_ge (tgt := 289) C (by omega) (by omega) dL_law_235 (by decide) (fun h235 => ?_) (fun h235 => ?_)
        · refine lv_iinc (v := (nI (t + 1))) (lv' := [(7, .int (nI (t + 1))), (0, .ref (b)), (1, .ref (a 0)), (2, .ref (pa)), (3, .ref (na)), (4, .ref (ha)), (5, .int (nI (1))), (6, .int (nI (nxc (dep1 c9) c9))), (8, .int (nI (k)))]) hx hb dL_law_289 hl (k := 7) rfl (tq_inc1 _) (by decide) rfl (fun ls hl => ?_)
          refine lv_iload hx hb dL_law_292 (lv_at hl 6 rfl) ?_
          refine lv_if_eq (tgt := 302) hx hb dL_law_294 (by decide) (fun h9 => absurd h9 (by decide)) (fun _ => ?_)
          refine lv_iload hx hb dL_law_297 (lv_at hl 7 rfl) ?_
          refine tq_if_gt (tgt := 173) C (by omega) dL_law_299 (by decide) (fun h299 => ?_) (fun h299 => ?_)
          · exact ih173 (nxc (dep1 c9) c9) (t + 1) key2 val2 ord2 tk2 cp2 efi2 ela2 eco2 ene2 ldp2 dp2 dbl2 hlv2 spl2 mrg2 lfi2 lla2 lco2 lne2 lev2 ptr2 lsp2 kh2 f2 dep2 E2 L2 (by have := scan_up (c := c9) hd9 (by omega); have := rv_lt (nxc (dep1 c9) c9) 8; omega) (scan_lt hd9) (by have := scan_up (c := c9) hd9 (by omega); omega) (hC2) (hH2) (fun q => by
                        have h9 := hn1 q
                        rw [hr183.2 q]
                        split
                        · rw [nd_count hBn.1]
                          split <;> omega
                        · omega) (fun q hq h9 h8 => hseen q hq (hm2 q h9) (Or.inr h8)) _ _ hP hD hS _ (lv_sub hl [1, 2, 3, 4, 5, 6, 7, 0] rfl)
          · rw [h299] at hl hseen
            exact kk key2 val2 ord2 tk2 cp2 efi2 ela2 eco2 ene2 ldp2 dp2 dbl2 hlv2 spl2 mrg2 lfi2 lla2 lco2 lne2 lev2 ptr2 lsp2 kp f2 kh2 dep2 E2 L2 (hC2) (hH2) (fun q hq h9 => hseen q hq (hm2 q h9) (Or.inl rfl)) (fun q => by
                        have h9 := hn1 q
                        rw [hr183.2 q]
                        split
                        · rw [nd_count hBn.1]
                          split <;> omega
                        · omega) _ _ _ hP hD hS (lv_sub hl [1, 2, 3, 4, 5, 6, 7] rfl)
        · refine lv_iload hx hb dL_law_238 (lv_at hl 5 rfl) ?_
          refine lv_if_eq (tgt := 289) hx hb dL_law_240 (by decide) (fun h9 => absurd h9 (by decide)) (fun _ => ?_)
          refine lv_aload_n hx hb dL_law_243 rfl (lv_at hl 1 rfl) ?_
          refine lv_aload_n hx hb dL_law_244 rfl (lv_at hl 2 rfl) ?_
          refine lv_aload hx hb dL_law_245 (lv_at hl 4 rfl) ?_
          refine lv_aload_n hx hb dL_law_247 rfl (lv_at hl 0 rfl) ?_
          refine lv_iconst (v := nI 2) hx hb dL_law_248 (by decide) ?_
          refine lv_iload hx hb dL_law_249 (lv_at hl 7 rfl) ?_
          refine tq_imul C dL_law_251 ?_
          refine lv_iload hx hb dL_law_252 (lv_at hl 8 rfl) ?_
          refine tq_iadd C dL_law_254 ?_
          refine lv_bipush (v := nI 60) hx hb dL_law_255 (by decide) ?_
          refine tq_irem C (by omega) (by omega) (by omega) dL_law_257 ?_
          refine tq_callF (va_runS C.fix (As := [.ref (b), .int (nI (((2 * t) + k) % 60))]) (rest := [.ref (ha), .ref (pa), .ref (a 0)]) (c_L_drawn l b N9 xs (((2 * t) + k) % 60) (by omega) hN) (tq_cS (n := 2) C ml_L_63 sm_L_drawn ini_L cd_L_drawn ⟨by decide, by decide, by decide +kernel⟩ ⟨Nat.le_of_ble_eq_true rfl, Nat.le_of_ble_eq_true rfl⟩) ⟨tq_PX.blind, tq_preD C hX hbl hbA hS⟩ rfl rfl hl.1 rfl (lv_room (Nat.le_of_ble_eq_true rfl)) dL_law_258 ⟨Nat.le_of_ble_eq_true rfl, Nat.le_of_ble_eq_true rfl⟩) (fun r258 hr258 => ?_)
          obtain ⟨j258, hj258, rfl⟩ := hr258
          refine lv_iconst (v := nI 1) hx hb dL_law_261 (by decide) ?_
          refine lv_iload hx hb dL_law_262 (lv_at hl 7 rfl) ?_
          refine lv_bipush (v := nI 30) hx hb dL_law_264 (by decide) ?_
          refine tq_idiv C (by omega) (by omega) (by omega) dL_law_266 ?_
          refine tq_iadd C dL_law_267 ?_
          refine tq_idiv C (by omega) hj258 (by omega) dL_law_268 ?_
          refine lv_bipush (v := nI 7) hx hb dL_law_269 (by decide) ?_
          refine lv_iload hx hb dL_law_271 (lv_at hl 7 rfl) ?_
          refine lv_bipush (v := nI 30) hx hb dL_law_273 (by decide) ?_
          refine tq_idiv C (by omega) (by omega) (by omega) dL_law_275 ?_
          refine tq_imul C dL_law_276 ?_
          refine tq_iadd C dL_law_277 ?_
          refine tq_callI (W3 := fun u => (wQ cy a u.1 u.2.1 u.2.2.1 u.2.2.2.1 u.2.2.2.2.1 u.2.2.2.2.2.1 u.2.2.2.2.2.2.1 u.2.2.2.2.2.2.2.1 u.2.2.2.2.2.2.2.2.1 u.2.2.2.2.2.2.2.2.2.1 u.2.2.2.2.2.2.2.2.2.2.1 u.2.2.2.2.2.2.2.2.2.2.2.1 u.2.2.2.2.2.2.2.2.2.2.2.2.1 u.2.2.2.2.2.2.2.2.2.2.2.2.2.1 u.2.2.2.2.2.2.2.2.2.2.2.2.2.2.1 u.2.2.2.2.2.2.2.2.2.2.2.2.2.2.2.1 u.2.2.2.2.2.2.2.2.2.2.2.2.2.2.2.2.1 u.2.2.2.2.2.2.2.2.2.2.2.2.2.2.2.2.2.1 u.2.2.2.2.2.2.2.2.2.2.2.2.2.2.2.2.2.2.1 u.2.2.2.2.2.2.2.2.2.2.2.2.2.2.2.2.2.2.2.1 u.2.2.2.2.2.2.2.2.2.2.2.2.2.2.2.2.2.2.2.2.1 llo lhi u.2.2.2.2.2.2.2.2.2.2.2.2.2.2.2.2.2.2.2.2.2.1 pa na ha kp f2 u.2.2.2.2.2.2.2.2.2.2.2.2.2.2.2.2.2.2.2.2.2.2)) (wr := []) (va_runS C.fix (As := [.ref (a 0), .ref (pa), .ref (ha), .int (nI ((j258 / (1 + (t / 30))) + (7 * (t / 30))))]) (rest := []) ((c_L_changes l D cy a key2 val2 ord2 tk2 cp2 efi2 ela2 eco2 ene2 ldp2 dp2 dbl2 hlv2 spl2 mrg2 lfi2 lla2 lco2 lne2 lev2 ptr2 llo lhi lsp2 pa na ha kp f2 kh2 ((j258 / (1 + (t / 30))) + (7 * (t / 30))) dep2 E2 L2 hC2 hH2 (arg_lt hj258 (by omega))) H.size) (tq_cS (n := 4) C ml_L_74 sm_L_changes ini_L cd_L_changes ⟨by decide, by decide, by decide +kernel⟩ ⟨Nat.le_of_ble_eq_true rfl, Nat.le_of_ble_eq_true rfl⟩) ⟨tq_Pc.blind, tq_preC C hK hP hD⟩ rfl rfl hl.1 rfl (lv_room (Nat.le_of_ble_eq_true rfl)) dL_law_278 ⟨Nat.le_of_ble_eq_true rfl, Nat.le_of_ble_eq_true rfl⟩) hP hD hS hA [0, 1, 2, 3, 4, 5, 6, 7, 8, 9, 10, 11, 12, 13, 14, 15, 16, 17, 18, 19, 20] [] [0, 1, 2, 3, 4, 5, 6, 7, 8, 9, 10, 11, 12, 13, 14, 15, 16, 17, 18, 19, 20] rfl rfl (by decide) (by decide) (by decide) (fun _ => rfl) (fun r278 u278 H locs hr278 hP hD hS => ?_)
          obtain ⟨key3, val3, ord3, tk3, cp3, efi3, ela3, eco3, ene3, ldp3, dp3, dbl3, hlv3, spl3, mrg3, lfi3, lla3, lco3, lne3, lev3, ptr3, lsp3, kh3⟩ := u278
          try dsimp only at hr278
          have hP : va_P D vwCl (wQ cy a key3 val3 ord3 tk3 cp3 efi3 ela3 eco3 ene3 ldp3 dp3 dbl3 hlv3 spl3 mrg3 lfi3 lla3 lco3 lne3 lev3 ptr3 llo lhi lsp3 pa na ha kp f2 kh3) H := hP
          have hD : va_D A (wQ cy a key3 val3 ord3 tk3 cp3 efi3 ela3 eco3 ene3 ldp3 dp3 dbl3 hlv3 spl3 mrg3 lfi3 lla3 lco3 lne3 lev3 ptr3 llo lhi lsp3 pa na ha kp f2 kh3) := hD
          obtain ⟨rfl, ⟨dep3, E3, L3, hC3⟩, hH3, hm3⟩ := hr278
          refine lv_istore (lv' := [(5, .int (nI (1))), (0, .ref (b)), (1, .ref (a 0)), (2, .ref (pa)), (3, .ref (na)), (4, .ref (ha)), (6, .int (nI (nxc (dep1 c9) c9))), (7, .int (nI (t))), (8, .int (nI (k)))]) hx hb dL_law_281 hl (by decide) rfl (fun ls hl => ?_)
          refine lv_iinc (v := (nI (k + 1))) (lv' := [(8, .int (nI (k + 1))), (5, .int (nI (1))), (0, .ref (b)), (1, .ref (a 0)), (2, .ref (pa)), (3, .ref (na)), (4, .ref (ha)), (6, .int (nI (nxc (dep1 c9) c9))), (7, .int (nI (t)))]) hx hb dL_law_283 hl (k := 8) rfl (tq_inc1 _) (by decide) rfl (fun ls hl => ?_)
          refine lv_goto (tgt := 232) hx hb dL_law_286 (by decide) ?_
          exact ih232 (k + 1) key3 val3 ord3 tk3 cp3 efi3 ela3 eco3 ene3 ldp3 dp3 dbl3 hlv3 spl3 mrg3 lfi3 lla3 lco3 lne3 lev3 ptr3 lsp3 kh3 dep3 E3 L3 (by omega) (by omega) (hC3) (hH3) (fun q h9 => hm2 q (hm3 q h9)) _ _ hP hD hS _ (lv_sub hl [2, 3, 4, 5, 6, 1, 7, 8, 0] rfl)
