/-! THE CLAIM OUT OF ONE WALK OF THE LAW'S BODY. Your part is whole_start (and what it stands on); all else here is the same for every law, but numbers. -/
def R_law : String := "TwinHashTablesLaw"
def lw_P (b : Addr) (xs : List Int32) (args : Array Value) (s : State) : Prop := args = #[.ref b] ∧ s.IntsAt b xs ∧ xs.length ≤ 260 ∧ (Jvm.Cond.and given_1 narrow_1).before args s = true
def lw_Q (_ : Array Value) (s : State) (o : Outcome) (t : State) : Prop := o = .returned (some (.int 1)) ∧ Framed s o t [] 196 4003
def lw_Z (below : List Frame) (a : Array Value) (s : State) : State → Prop := fun t => ∃ o, t.status = .running ∧ Ended t below o ∧ lw_Q a s o t
/-- the law's own end, with 1 on the stack, nothing written that was there before, its room as the claim has it -/
theorem lw_ret {p : Program} {l : Launch} {e : Env} {s : State} {m : MethodId} {below : List Frame} {meth : Method} {c : Code} {b : Nat} (hx : p.tables.exec = Jvm.exec) (hb : c.code = code) (hr : meth.sig.returnType = ret) (hlocks : meth.locks = false) {pc : Nat} {H : Heap} {ls : Array Slot} (hdg : decode code pc = .ok (.ireturn, 1)) : W p l e room_1 s m #[Value.ref b] below meth c H [] 196 4003 (lw_Z below #[Value.ref b] s) (F0 m pc ls [.int 1]) := by
  intro T hT X
  obtain ⟨fs, hret, hrun, hended, hW, hframe⟩ := X.leave (v := some (.int 1)) (hlocks := hlocks) (fun h => by rw [hr] at h; cases h)
  have hmeth' : T.vm.method? m = some meth := X.method'
  refine ⟨T.setFrames fs, ?_, .returned (some (.int 1)), hrun, hended, rfl, ⟨_, rfl⟩, hW, hframe⟩
  jvm_step X.here [X.here.top, hx, hb, hdg, hmeth', hr, ret, narrow_b1]
  (try refine ⟨rfl, ?_⟩); (try refine ⟨rfl, ?_⟩)
  first | (intro acts; rw [hret _ acts rfl rfl rfl]) | rw [hret _ _ rfl rfl rfl]
  exact Steps.refl _
/-- what holds at the law's entry: the machine, the code, the tables' words (any of lw_tbl by 'hts w (by decide +kernel)'), the script of L ints xs at the cell b, what the Statement gives of the start (any of its parts by flat_of_before) -/
def lw_At (p : Program) (s : State) (m : MethodId) (meth : Method) (c : Code) (b L : Nat) (xs : Nat → Int32) : Prop :=
  p.tables.exec = Jvm.exec ∧ c.code = code ∧ meth.sig.returnType = ret ∧ c.maxLocals = 9 ∧ s.vm.findClass R_law = some m.cls ∧ (∀ w ∈ lw_tbl, w.before #[Value.ref b] s = true) ∧ va_X b L xs s s.heap ∧ b < s.heap.size ∧ meth.locks = false ∧ (Jvm.Cond.and given_1 narrow_1).before #[Value.ref b] s = true
theorem tq_arr {args : Array Value} {s : State} (h : (Cond.arrayClass .int).before args s = true) : ∃ cA, ArrOfT s cA .int ∧ va_RA s cA .int := by
  obtain ⟨cA, kA, comp, hfind, hk, hkind⟩ := Cond.arrayClass_spec h
  exact ⟨cA, fun n z => ⟨fun k h => (by cases h), kA, hk, comp, hkind⟩, hfind⟩
theorem SO_start {f : Nat → Nat} (hf : f = fun j => if j < 120 then j + 1 else 0) : SO (fun _ => 0) (fun _ => 0) f 0 := by
  subst hf
  refine ⟨by decide, fun i hi => ?_, fun i j hi hj h => ?_, fun i j _ h => absurd h (Nat.not_lt_zero _), fun e => ⟨show 0 < 65536 by decide, show 0 < 1000000 by decide⟩⟩
  · dsimp only; rw [if_pos hi]; omega
  · dsimp only at h; rw [if_pos hi, if_pos hj] at h; omega
theorem RR_start : RR (fun _ => 0) (fun _ => 0) (fun _ => 0) (fun _ => 0) (fun _ => []) := ⟨fun r _ => ⟨rfl, rfl, rfl, trivial, fun e he => absurd he List.not_mem_nil, List.nodup_nil⟩, fun _ _ _ _ _ e he => absurd he List.not_mem_nil⟩
theorem CR_start {f : Nat → Nat} (hf : f = fun j => if j < 120 then j + 1 else 0) : CR (fun _ => 0) (fun _ => 0) f 0 3 (fun _ => 0) (fun _ => 0) (fun _ => 0) (fun _ => 0) (fun _ => 0) 0 (fun _ => 0) (fun _ => 0) (fun _ => 0) (fun _ => 0) 0 0 30 80 (fun _ => 0) [] [] :=
  (CR.cleared (dbl := 0) (hlv := 0) (spl := 0) (mrg := 0) (lsp := 0) (dep := fun _ => 0) (E := []) (L := []) (dp := 0) (cp := 3) (lev := 0) (ptr := 0) (ldp := fun _ => 0) (SO_start hf) ⟨by decide, by decide⟩ ⟨by decide, by decide, by decide⟩ (fun _ _ => Nat.zero_le 8) (funext fun q => by unfold va_up; split <;> rfl) RR_start RR_start).1
theorem HI_start {kp kh : Nat → Nat} (h : ∀ i, kh i = 0) : HI kp kh [] 0 := ⟨fun i hi => absurd hi (Nat.not_lt_zero _), fun i => by rw [h i]; omega, fun i _ => h i, fun q => ⟨fun hq => absurd hq List.not_mem_nil, fun ⟨i, hi, _⟩ => absurd hi (Nat.not_lt_zero _)⟩⟩
set_option maxHeartbeats 4000000 in
set_option maxRecDepth 100000 in
theorem law_reb {p : Program} (l : Launch) {e : Env} {s : State} {m : MethodId} {args : Array Value} {below : List Frame} {meth : Method} {c : Code} (D : va_G) (cy : ClassId) {A : Nat → Prop} {Q : State → Prop} {b N9 : Nat} {xs : Nat → Int32} {a : Nat → Nat} {pa na ha llo lhi : Nat} (C : tq_C p s m meth c "TwinHashTablesLaw" cL_law 9 (some .boolean)) (hK : va_K D vwCl (tq_ty cy) s) (hA : ∀ q : Nat, s.heap.size ≤ q → A q) (hX : va_X b N9 xs s s.heap) (hbl : b < s.heap.size) (hbA : ¬ A b) (hN : N9 ≤ 260) (key : Nat → Nat) (val : Nat → Nat) (ord : Nat → Nat) (tk : Nat) (cp : Nat) (efi : Nat → Nat) (ela : Nat → Nat) (eco : Nat → Nat) (ene : Nat → Nat) (ldp : Nat → Nat) (dp : Nat) (dbl : Int32) (hlv : Int32) (spl : Int32) (mrg : Int32) (lfi : Nat → Nat) (lla : Nat → Nat) (lco : Nat → Nat) (lne : Nat → Nat) (lev : Nat) (ptr : Nat) (lsp : Int32) (kp : Nat → Nat) (kn : Nat → Nat) (kh : Nat → Nat) (dep : Nat → Nat) (E : List Nat) (L : List Nat) (hC : CR key val ord tk cp efi ela eco ene ldp dp lfi lla lco lne lev ptr llo lhi dep E L) (htk : tk = 0) (hcp : cp = 3) (hkh : ∀ i, kh i = 0) (hkn : ∀ q, kn q = 0)
    (H : Heap) (locs : List Loc) (ls : Array Slot) (hP : va_P D vwCl (wQ cy a key val ord tk cp efi ela eco ene ldp dp dbl hlv spl mrg lfi lla lco lne lev ptr llo lhi lsp pa na ha kp kn kh) H) (hD : va_D A (wQ cy a key val ord tk cp efi ela eco ene ldp dp dbl hlv spl mrg lfi lla lco lne lev ptr llo lhi lsp pa na ha kp kn kh)) (hS : va_S A s.heap H locs) (hl : lv_has ls 9 [(0, .ref (b)), (1, .ref (a 0)), (2, .ref (pa)), (3, .ref (na)), (4, .ref (ha))])
    (kk : ∀ (key : Nat → Nat) (val : Nat → Nat) (ord : Nat → Nat) (tk : Nat) (cp : Nat) (efi : Nat → Nat) (ela : Nat → Nat) (eco : Nat → Nat) (ene : Nat → Nat) (ldp : Nat → Nat) (dp : Nat) (dbl : Int32) (hlv : Int32) (spl : Int32) (mrg : Int32) (lfi : Nat → Nat) (lla : Nat → Nat) (lco : Nat → Nat) (lne : Nat → Nat) (lev : Nat) (ptr : Nat) (lsp : Int32) (kp : Nat → Nat) (kn : Nat → Nat) (kh : Nat → Nat) (dep : Nat → Nat) (E : List Nat) (L : List Nat), (CR key val ord tk cp efi ela eco ene ldp dp lfi lla lco lne lev ptr llo lhi dep E L) → (HI kp kh (stl key val ord tk) 0) → (∀ q, kn q = 0) → ∀ (H : Heap) (locs : List Loc) (ls : Array Slot), va_P D vwCl (wQ cy a key val ord tk cp efi ela eco ene ldp dp dbl hlv spl mrg lfi lla lco lne lev ptr llo lhi lsp pa na ha kp kn kh) H → va_D A (wQ cy a key val ord tk cp efi ela eco ene ldp dp dbl hlv spl mrg lfi lla lco lne lev ptr llo lhi lsp pa na ha kp kn kh) → va_S A s.heap H locs → lv_has ls 9 [(0, .ref (b)), (1, .ref (a 0)), (2, .ref (pa)), (3, .ref (na)), (4, .ref (ha)), (5, .int (nI (1)))] → W p l e room_1 s m args below meth c H locs 21 2609 Q (F0 m 48 ls [])) : W p l e room_1 s m args below meth c H locs 21 2609 Q (F0 m 24 ls []) := by
  obtain ⟨hx, hb, hml, hown, hrt, hlk, hT⟩ := id C
  refine lv_aload_n hx hb dL_law_24 rfl (lv_at hl 1 rfl) ?_
  refine lv_iconst (v := nI 1) hx hb dL_law_25 (by decide) ?_
  refine lv_aload_n hx hb dL_law_26 rfl (lv_at hl 0 rfl) ?_
  refine lv_iconst (v := nI 0) hx hb dL_law_27 (by decide) ?_
  refine tq_callF (va_runS C.fix (As := [.ref (b), .int (nI (0))]) (rest := [.int (nI (1)), .ref (a 0)]) (c_L_drawn l b N9 xs 0 (by omega) hN) (tq_cS (n := 2) C ml_L_63 sm_L_drawn ini_L cd_L_drawn ⟨by decide, by decide, by decide +kernel⟩ ⟨Nat.le_of_ble_eq_true rfl, Nat.le_of_ble_eq_true rfl⟩) ⟨tq_PX.blind, tq_preD C hX hbl hbA hS⟩ rfl rfl hl.1 rfl (lv_room (Nat.le_of_ble_eq_true rfl)) dL_law_28 ⟨Nat.le_of_ble_eq_true rfl, Nat.le_of_ble_eq_true rfl⟩) (fun r28 hr28 => ?_)
  obtain ⟨j28, hj28, rfl⟩ := hr28
  refine lv_iconst (v := nI 5) hx hb dL_law_31 (by decide) ?_
  refine tq_irem C (by omega) hj28 (by omega) dL_law_32 ?_
  refine tq_iadd C dL_law_33 ?_
  refine tq_callI (W3 := fun u => (wQ cy a key val ord u.1 u.2.1 u.2.2.1 u.2.2.2.1 u.2.2.2.2.1 u.2.2.2.2.2.1 u.2.2.2.2.2.2.1 u.2.2.2.2.2.2.2.1 u.2.2.2.2.2.2.2.2.1 hlv u.2.2.2.2.2.2.2.2.2.1 mrg u.2.2.2.2.2.2.2.2.2.2.1 u.2.2.2.2.2.2.2.2.2.2.2.1 u.2.2.2.2.2.2.2.2.2.2.2.2.1 u.2.2.2.2.2.2.2.2.2.2.2.2.2.1 u.2.2.2.2.2.2.2.2.2.2.2.2.2.2.1 u.2.2.2.2.2.2.2.2.2.2.2.2.2.2.2.1 llo lhi u.2.2.2.2.2.2.2.2.2.2.2.2.2.2.2.2 pa na ha kp kn kh)) (wr := [18, 19, 20].filterMap (fun i => (wQ cy a key val ord tk cp efi ela eco ene ldp dp dbl hlv spl mrg lfi lla lco lne lev ptr llo lhi lsp pa na ha kp kn kh)[i]?)) (vx_runSW C.fix (As := [.ref (a 0), .int (nI (1 + (j28 % 5)))]) (rest := []) ((c_L_rebuilt l D cy a key val ord tk cp efi ela eco ene ldp dp dbl hlv spl mrg lfi lla lco lne lev ptr llo lhi lsp (1 + (j28 % 5)) dep E L hC (by omega) (by omega)) H.size) (tq_cW (n := 2) C ml_L_59 sm_L_rebuilt ini_L cw_L_rebuilt ⟨by decide, by decide, by decide +kernel⟩ ⟨Nat.le_of_ble_eq_true rfl, Nat.le_of_ble_eq_true rfl⟩) ⟨tq_Pc.blind, tq_preC C hK (hP.sub [0, 1, 2, 3, 4, 5, 6, 7, 8, 9, 10, 11, 12, 13, 14, 15, 16, 17] rfl) (hD.sub [0, 1, 2, 3, 4, 5, 6, 7, 8, 9, 10, 11, 12, 13, 14, 15, 16, 17] (by decide) rfl)⟩ rfl rfl hl.1 rfl (lv_room (Nat.le_of_ble_eq_true rfl)) dL_law_34 ⟨Nat.le_of_ble_eq_true rfl, Nat.le_of_ble_eq_true rfl⟩) hP hD hS hA [0, 1, 2, 3, 4, 5, 6, 7, 8, 9, 10, 11, 12, 13, 14, 15, 16, 17] [18, 19, 20] [3, 4, 5, 6, 7, 8, 9, 10, 11, 12, 13, 14, 15, 16, 17, 18, 19, 20, 0, 1, 2] rfl rfl (by decide) (by decide) (by decide) (fun _ => rfl) (fun r34 u34 H locs hr34 hP hD hS => ?_)
  obtain ⟨tk4, cp4, efi4, ela4, eco4, ene4, ldp4, dp4, dbl4, spl4, lfi4, lla4, lco4, lne4, lev4, ptr4, lsp4⟩ := u34
  try dsimp only at hr34
  have hP : va_P D vwCl (wQ cy a key val ord tk4 cp4 efi4 ela4 eco4 ene4 ldp4 dp4 dbl4 hlv spl4 mrg lfi4 lla4 lco4 lne4 lev4 ptr4 llo lhi lsp4 pa na ha kp kn kh) H := hP
  have hD : va_D A (wQ cy a key val ord tk4 cp4 efi4 ela4 eco4 ene4 ldp4 dp4 dbl4 hlv spl4 mrg lfi4 lla4 lco4 lne4 lev4 ptr4 llo lhi lsp4 pa na ha kp kn kh) := hD
  obtain ⟨e1, e2, e3, dep2, E2, L2, hC2⟩ := hr34
  subst e1
  refine lv_iconst (v := nI 3) hx hb dL_law_37 (by decide) ?_
  refine tq_icmp_ne (tgt := 45) C (by omega) (by omega) dL_law_38 (by decide) (fun h38 => ?_) (fun h38 => ?_)
  · exact absurd hcp h38
  · refine lv_iconst (v := nI 1) hx hb dL_law_41 (by decide) ?_
    refine lv_goto (tgt := 46) hx hb dL_law_42 (by decide) ?_
    refine lv_istore (lv' := [(5, .int (nI (1))), (0, .ref (b)), (1, .ref (a 0)), (2, .ref (pa)), (3, .ref (na)), (4, .ref (ha))]) hx hb dL_law_46 hl (by decide) rfl (fun ls hl => ?_)
    exact kk key val ord tk4 cp4 efi4 ela4 eco4 ene4 ldp4 dp4 dbl4 hlv spl4 mrg lfi4 lla4 lco4 lne4 lev4 ptr4 lsp4 kp kn kh dep2 E2 L2 (hC2) (by rw [e2, htk]; exact HI_start hkh) (hkn) _ _ _ hP hD hS (lv_sub hl [1, 2, 3, 4, 5, 0] rfl)
