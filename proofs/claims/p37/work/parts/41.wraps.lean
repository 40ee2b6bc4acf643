
theorem tq_irem {p : Program} {l : Launch} {e : Env} {R : Room} {s : State} {m : MethodId} {args : Array Value} {below : List Frame} {meth : Method} {c : Code} {H : Heap} {locs : List Loc} {cells slots : Nat} {Q : State → Prop} {own : String} {cc : ByteArray} {nL : Nat} {rt : Option FieldType} {pc : Nat} {ls : Array Slot} {rest : List Value} (C : tq_C p s m meth c own cc nL rt) {a b : Nat} (h0 : 0 < b) (ha : a < 2 ^ 31) (hb : b < 2 ^ 31) (hdg : decode cc pc = .ok (.irem, 1)) (k : W p l e R s m args below meth c H locs cells slots Q (F0 m (pc + 1) ls (.int (nI (a % b)) :: rest))) : W p l e R s m args below meth c H locs cells slots Q (F0 m pc ls (.int (nI b) :: .int (nI a) :: rest)) :=
  lv_irem C.1 C.2.1 hdg (nI_ne0 h0 hb) (tq_top (pk_rem ha h0 hb) k)
def tq_WF (l : Launch) (y : MethodName) (b : ByteArray) (nL : Nat) (hh : List (Nat × Nat × Nat × Nat)) (fr lo : Nat) (D : va_G) (cy : ClassId) (Ws : va_W) (av : List Value) (post : Int32 → Prop) : Prop :=
  Met l y [.codeWith y b nL (some .int) hh] { frames := fr, cells := 0, slots := 0, locals := lo } (tq_Pf D cy Ws av) (tq_Qf post) 0 0 (fun _ => False)
def tq_WI {S : Type} (l : Launch) (y : MethodName) (b : ByteArray) (nL : Nat) (hh : List (Nat × Nat × Nat × Nat)) (fr lo : Nat) (D : va_G) (cy : ClassId) (Ws : va_W) (av : List Value) (post : Int32 → S → Prop) (W2 : S → va_W) : Prop :=
  ∀ sz : Nat, Met l y [.codeWith y b nL (some .int) hh] { frames := fr, cells := 0, slots := 0, locals := lo } (tq_Pc D cy Ws sz av) (va_Qi post (tq_B D (va_A Ws sz) W2) (va_A Ws sz)) 0 0 (va_A Ws sz)
section TW
variable {p : Program} {l : Launch} {e : Env} {R : Room} {s : State} {m : MethodId} {args : Array Value} {below : List Frame} {meth : Method} {c : Code} {H : Heap} {locs : List Loc} {cells slots : Nat} {Q : State → Prop}
variable {D : va_G} {cy : ClassId} {own : String} {cc : ByteArray} {nL : Nat} {rt : Option FieldType} {A : Nat → Prop} {ws Ws Wc : va_W} {pc : Nat} {ls : Array Slot} {rest : List Value}
theorem tq_WF.mk {y : MethodName} {b : ByteArray} {hh : List (Nat × Nat × Nat × Nat)} {fr lo : Nat} {av : List Value} {post : Int32 → Prop} (hy : plainName y.cls = true) (he : (lg_sl av).length ≤ nL)
    (body : ∀ (p : Program) (e : Env) (s : State) (m : MethodId) (args : Array Value) (below : List Frame) (meth : Method) (c : Code), tq_C p s m meth c y.cls b nL (some .int) → va_P D vwCl Ws s.heap → va_K D vwCl (tq_ty cy) s →
      ∀ ls : Array Slot, lv_has ls nL (lv_args 0 av) → W p l e { frames := fr, cells := 0, slots := 0, locals := lo } s m args below meth c s.heap [] 0 0 (MQ below (tq_Qf post) args s 0 0 (fun _ => False)) (F0 m 0 ls [])) :
    tq_WF l y b nL hh fr lo D cy Ws av post := by
  unfold tq_WF
  refine MetFree.of_bodyS (code := b) (maxLocals := nL) (ret := some .int) hy ?_ ?_
  · intro args s m h hn
    obtain ⟨m9, meth, c, hn9, h1, h2, h3, h4, -, h5, h6, -⟩ := Cond.codeWith_spec (atoms_spec (ws := [.codeWith y b nL (some .int) hh]) h _ List.mem_cons_self)
    cases hn.symm.trans hn9
    exact ⟨meth, c, h1, h2, h3, h4, h5, h6⟩
  · intro p e s m args below meth c s₁ B hml hv _
    obtain ⟨rfl, hT, hP, hK⟩ := hv
    have hh0 : s₁.heap = s.heap := by rw [B.state]; rfl
    have K : W p l e { frames := fr, cells := 0, slots := 0, locals := lo } s m av.toArray below meth c s.heap [] 0 0 (MQ below (tq_Qf post) av.toArray s 0 0 (fun _ => False)) (entryFrame m av.toArray nL) := by
      rw [lg_entry_eq]
      exact body p e s m _ below meth c ⟨B.exec, B.bytes, hml, findClass_of_methodNamed B.named, B.returns, B.notSynchronized, hT⟩ hP hK _ (lv_entry av he)
    obtain ⟨t, a1, o, b1, b2, b3⟩ := K s₁ hh0 (Stand.of_body B)
    exact ⟨t, o, a1, b1, b2, b3⟩
theorem tq_WI.mk {S : Type} {y : MethodName} {b : ByteArray} {hh : List (Nat × Nat × Nat × Nat)} {fr lo : Nat} {av : List Value} {post : Int32 → S → Prop} {W2 : S → va_W} (hy : plainName y.cls = true) (he : (lg_sl av).length ≤ nL)
    (body : ∀ (p : Program) (e : Env) (s : State) (m : MethodId) (args : Array Value) (below : List Frame) (meth : Method) (c : Code) (A : Nat → Prop), tq_C p s m meth c y.cls b nL (some .int) → va_P D vwCl Ws s.heap → va_K D vwCl (tq_ty cy) s →
      va_D A Ws → va_S A s.heap s.heap [] → (∀ q : Nat, s.heap.size ≤ q → A q) →
      ∀ ls : Array Slot, lv_has ls nL (lv_args 0 av) → W p l e { frames := fr, cells := 0, slots := 0, locals := lo } s m args below meth c s.heap [] 0 0 (MQ below (va_Qi post (tq_B D A W2) A) args s 0 0 A) (F0 m 0 ls [])) :
    tq_WI l y b nL hh fr lo D cy Ws av post W2 := by
  intro sz
  refine MetFree.of_bodyS (code := b) (maxLocals := nL) (ret := some .int) hy ?_ ?_
  · intro args s m h hn
    obtain ⟨m9, meth, c, hn9, h1, h2, h3, h4, -, h5, h6, -⟩ := Cond.codeWith_spec (atoms_spec (ws := [.codeWith y b nL (some .int) hh]) h _ List.mem_cons_self)
    cases hn.symm.trans hn9
    exact ⟨meth, c, h1, h2, h3, h4, h5, h6⟩
  · intro p e s m args below meth c s₁ B hml hv _
    obtain ⟨rfl, hT, hsz, hP, hK, hD0⟩ := hv
    subst hsz
    have hh0 : s₁.heap = s.heap := by rw [B.state]; rfl
    have K : W p l e { frames := fr, cells := 0, slots := 0, locals := lo } s m av.toArray below meth c s.heap [] 0 0 (MQ below (va_Qi post (tq_B D (va_A Ws s.heap.size) W2) (va_A Ws s.heap.size)) av.toArray s 0 0 (va_A Ws s.heap.size)) (entryFrame m av.toArray nL) := by
      rw [lg_entry_eq]
      exact body p e s m _ below meth c _ ⟨B.exec, B.bytes, hml, findClass_of_methodNamed B.named, B.returns, B.notSynchronized, hT⟩ hP hK hD0.self va_S.rf (fun q h => Or.inr h) _ (lv_entry av he)
    obtain ⟨t, a1, o, b1, b2, b3⟩ := K s₁ hh0 (Stand.of_body B)
    exact ⟨t, o, a1, b1, b2, b3⟩
theorem tq_cW {y : MethodName} {b1 : ByteArray} {n1 n idx fr lo : Nat} {hh : List (Nat × Nat × Nat × Nat)} (C : tq_C p s m meth c own cc nL rt) (h1 : Cond.methodLink own idx y ∈ lw_tbl) (h2 : Cond.static y ∈ lw_tbl) (h4 : Cond.initialized y.cls ∈ lw_tbl) (h5 : Cond.codeWith y b1 n1 (some .int) hh ∈ lw_tbl)
    (hd : y.cls ≠ "java/lang/invoke/MethodHandle" ∧ y.cls ≠ "java/lang/invoke/VarHandle" ∧ (parseMethodDescriptor y.desc).map (fun d => d.parameters.length) = some n) (hR : fr + 1 ≤ R.frames ∧ 8 + (n1 + 11) + lo ≤ R.locals) :
    vx_CSW R s args own idx y b1 n1 (some .int) hh [.codeWith y b1 n1 (some .int) hh] { frames := fr, cells := 0, slots := 0, locals := lo } 0 0 n :=
  ⟨⟨rfl, rfl, hR.1, hR.2, fun w hw a' U hW => by rcases List.mem_singleton.mp hw with rfl; exact (C.2.2.2.2.2.2.warm hW).use h5 rfl, List.mem_cons_self⟩, C.2.2.2.2.2.2.use h5 rfl, C.2.2.2.2.2.2.use h4 rfl, ⟨hd.1, hd.2.1⟩, fun sig h => by
    have h2 := hd.2.2
    rw [h] at h2
    exact (Option.some.inj h2).symm, C.2.2.2.2.2.2.use h1 rfl, C.2.2.2.2.2.2.use h2 rfl⟩
end TW

theorem dL_put_0 : decode cL_put 0 = .ok (.aload_n 0, 1) := by decide +kernel
theorem dL_put_1 : decode cL_put 1 = .ok (.iload_n 1, 1) := by decide +kernel
theorem dL_put_2 : decode cL_put 2 = .ok (.iconst 5, 1) := by decide +kernel
theorem dL_put_3 : decode cL_put 3 = .ok (.invokevirtual 8, 3) := by decide +kernel
theorem dL_put_6 : decode cL_put 6 = .ok (.ireturn, 1) := by decide +kernel
theorem dL_put_7 : decode cL_put 7 = .ok (.astore_n 2, 1) := by decide +kernel
theorem dL_put_8 : decode cL_put 8 = .ok (.bipush (-7), 2) := by decide +kernel
theorem dL_put_10 : decode cL_put 10 = .ok (.ireturn, 1) := by decide +kernel
theorem dL_put_11 : decode cL_put 11 = .ok (.astore_n 2, 1) := by decide +kernel
theorem dL_put_12 : decode cL_put 12 = .ok (.bipush (-7), 2) := by decide +kernel
theorem dL_put_14 : decode cL_put 14 = .ok (.ireturn, 1) := by decide +kernel
theorem dL_removed_0 : decode cL_removed 0 = .ok (.aload_n 0, 1) := by decide +kernel
theorem dL_removed_1 : decode cL_removed 1 = .ok (.iload_n 1, 1) := by decide +kernel
theorem dL_removed_2 : decode cL_removed 2 = .ok (.invokevirtual 18, 3) := by decide +kernel
theorem dL_removed_5 : decode cL_removed 5 = .ok (.ireturn, 1) := by decide +kernel
theorem dL_removed_6 : decode cL_removed 6 = .ok (.astore_n 2, 1) := by decide +kernel
theorem dL_removed_7 : decode cL_removed 7 = .ok (.bipush (-7), 2) := by decide +kernel
theorem dL_removed_9 : decode cL_removed 9 = .ok (.ireturn, 1) := by decide +kernel
theorem dL_rebuilt_0 : decode cL_rebuilt 0 = .ok (.aload_n 0, 1) := by decide +kernel
theorem dL_rebuilt_1 : decode cL_rebuilt 1 = .ok (.iload_n 1, 1) := by decide +kernel
theorem dL_rebuilt_2 : decode cL_rebuilt 2 = .ok (.invokevirtual 22, 3) := by decide +kernel
theorem dL_rebuilt_5 : decode cL_rebuilt 5 = .ok (.ireturn, 1) := by decide +kernel
theorem dL_rebuilt_6 : decode cL_rebuilt 6 = .ok (.astore_n 2, 1) := by decide +kernel
theorem dL_rebuilt_7 : decode cL_rebuilt 7 = .ok (.bipush (-7), 2) := by decide +kernel
theorem dL_rebuilt_9 : decode cL_rebuilt 9 = .ok (.ireturn, 1) := by decide +kernel
theorem dL_slotAt_0 : decode cL_slotAt 0 = .ok (.aload_n 0, 1) := by decide +kernel
theorem dL_slotAt_1 : decode cL_slotAt 1 = .ok (.iload_n 1, 1) := by decide +kernel
theorem dL_slotAt_2 : decode cL_slotAt 2 = .ok (.invokevirtual 25, 3) := by decide +kernel
theorem dL_slotAt_5 : decode cL_slotAt 5 = .ok (.ireturn, 1) := by decide +kernel
theorem dL_slotAt_6 : decode cL_slotAt 6 = .ok (.astore_n 2, 1) := by decide +kernel
theorem dL_slotAt_7 : decode cL_slotAt 7 = .ok (.bipush (-7), 2) := by decide +kernel
theorem dL_slotAt_9 : decode cL_slotAt 9 = .ok (.ireturn, 1) := by decide +kernel
theorem dL_next_0 : decode cL_next 0 = .ok (.aload_n 0, 1) := by decide +kernel
theorem dL_next_1 : decode cL_next 1 = .ok (.iload_n 1, 1) := by decide +kernel
theorem dL_next_2 : decode cL_next 2 = .ok (.invokevirtual 28, 3) := by decide +kernel
theorem dL_next_5 : decode cL_next 5 = .ok (.ireturn, 1) := by decide +kernel
theorem dL_next_6 : decode cL_next 6 = .ok (.astore_n 2, 1) := by decide +kernel
theorem dL_next_7 : decode cL_next 7 = .ok (.bipush (-7), 2) := by decide +kernel
theorem dL_next_9 : decode cL_next 9 = .ok (.ireturn, 1) := by decide +kernel
theorem dL_many_0 : decode cL_many 0 = .ok (.aload_n 0, 1) := by decide +kernel
theorem dL_many_1 : decode cL_many 1 = .ok (.iload_n 1, 1) := by decide +kernel
theorem dL_many_2 : decode cL_many 2 = .ok (.invokevirtual 31, 3) := by decide +kernel
theorem dL_many_5 : decode cL_many 5 = .ok (.ireturn, 1) := by decide +kernel
theorem dL_many_6 : decode cL_many 6 = .ok (.astore_n 2, 1) := by decide +kernel
theorem dL_many_7 : decode cL_many 7 = .ok (.bipush (-7), 2) := by decide +kernel
theorem dL_many_9 : decode cL_many 9 = .ok (.ireturn, 1) := by decide +kernel
theorem dL_keyAt_0 : decode cL_keyAt 0 = .ok (.aload_n 0, 1) := by decide +kernel
theorem dL_keyAt_1 : decode cL_keyAt 1 = .ok (.iload_n 1, 1) := by decide +kernel
theorem dL_keyAt_2 : decode cL_keyAt 2 = .ok (.iload_n 2, 1) := by decide +kernel
theorem dL_keyAt_3 : decode cL_keyAt 3 = .ok (.invokevirtual 36, 3) := by decide +kernel
theorem dL_keyAt_6 : decode cL_keyAt 6 = .ok (.ireturn, 1) := by decide +kernel
theorem dL_keyAt_7 : decode cL_keyAt 7 = .ok (.astore_n 3, 1) := by decide +kernel
theorem dL_keyAt_8 : decode cL_keyAt 8 = .ok (.bipush (-7), 2) := by decide +kernel
theorem dL_keyAt_10 : decode cL_keyAt 10 = .ok (.ireturn, 1) := by decide +kernel
set_option maxHeartbeats 4000000 in
set_option maxRecDepth 100000 in
theorem c_L_put (l : Launch) (D : va_G) (cy : ClassId) (a : Nat → Nat) (key : Nat → Nat) (val : Nat → Nat) (ord : Nat → Nat) (tk : Nat) (cp : Nat) (efi : Nat → Nat) (ela : Nat → Nat) (eco : Nat → Nat) (ene : Nat → Nat) (ldp : Nat → Nat) (dp : Nat) (dbl : Int32) (hlv : Int32) (spl : Int32) (mrg : Int32) (lfi : Nat → Nat) (lla : Nat → Nat) (lco : Nat → Nat) (lne : Nat → Nat) (lev : Nat) (ptr : Nat) (llo : Nat) (lhi : Nat) (lsp : Int32) (k : Nat) (dep : Nat → Nat) (E L : List Nat) (hCR : CR key val ord tk cp efi ela eco ene ldp dp lfi lla lco lne lev ptr llo lhi dep E L) (hk : k < 65536) (htk : tk < 120) : tq_WI (S := (Nat → Nat) × (Nat → Nat) × (Nat → Nat) × Nat × (Nat → Nat) × (Nat → Nat) × (Nat → Nat) × (Nat → Nat) × (Nat → Nat) × Nat × Int32 × Int32 × (Nat → Nat) × (Nat → Nat) × (Nat → Nat) × (Nat → Nat) × Nat × Nat × Int32) l yL_put cL_put 3 [(0, 6, 7, 14), (0, 6, 11, 16)] 7 160 D cy (wC cy a key val ord tk cp efi ela eco ene ldp dp dbl hlv spl mrg lfi lla lco lne lev ptr llo lhi lsp) [.ref (a 0), .int (nI (k))] (fun r u => (∃ w, (k, w) ∈ (stl key val ord tk) ∧ r = nI w ∧ ∃ dep2 E2 L2, CR u.1 u.2.1 u.2.2.1 u.2.2.2.1 cp u.2.2.2.2.1 u.2.2.2.2.2.1 u.2.2.2.2.2.2.1 u.2.2.2.2.2.2.2.1 u.2.2.2.2.2.2.2.2.1 u.2.2.2.2.2.2.2.2.2.1 u.2.2.2.2.2.2.2.2.2.2.2.2.1 u.2.2.2.2.2.2.2.2.2.2.2.2.2.1 u.2.2.2.2.2.2.2.2.2.2.2.2.2.2.1 u.2.2.2.2.2.2.2.2.2.2.2.2.2.2.2.1 u.2.2.2.2.2.2.2.2.2.2.2.2.2.2.2.2.1 u.2.2.2.2.2.2.2.2.2.2.2.2.2.2.2.2.2.1 llo lhi dep2 E2 L2 ∧ mkA u.1 u.2.1 u.2.2.1 u.2.2.2.1 cp dep2 u.2.2.2.2.2.2.2.2.2.1 E2 u.2.2.2.2.2.2.2.2.2.2.1 hlv u.2.2.2.2.2.2.2.2.2.2.2.1 mrg L2 u.2.2.2.2.2.2.2.2.2.2.2.2.2.2.2.2.1 u.2.2.2.2.2.2.2.2.2.2.2.2.2.2.2.2.2.1 llo lhi u.2.2.2.2.2.2.2.2.2.2.2.2.2.2.2.2.2.2 = arep (mkA key val ord tk cp dep dp E dbl hlv spl mrg L lev ptr llo lhi lsp) k 5) ∨ ((∀ w, (k, w) ∉ (stl key val ord tk)) ∧ r = -1 ∧ ∃ dep2 E2 L2, CR u.1 u.2.1 u.2.2.1 u.2.2.2.1 cp u.2.2.2.2.1 u.2.2.2.2.2.1 u.2.2.2.2.2.2.1 u.2.2.2.2.2.2.2.1 u.2.2.2.2.2.2.2.2.1 u.2.2.2.2.2.2.2.2.2.1 u.2.2.2.2.2.2.2.2.2.2.2.2.1 u.2.2.2.2.2.2.2.2.2.2.2.2.2.1 u.2.2.2.2.2.2.2.2.2.2.2.2.2.2.1 u.2.2.2.2.2.2.2.2.2.2.2.2.2.2.2.1 u.2.2.2.2.2.2.2.2.2.2.2.2.2.2.2.2.1 u.2.2.2.2.2.2.2.2.2.2.2.2.2.2.2.2.2.1 llo lhi dep2 E2 L2 ∧ mkA u.1 u.2.1 u.2.2.1 u.2.2.2.1 cp dep2 u.2.2.2.2.2.2.2.2.2.1 E2 u.2.2.2.2.2.2.2.2.2.2.1 hlv u.2.2.2.2.2.2.2.2.2.2.2.1 mrg L2 u.2.2.2.2.2.2.2.2.2.2.2.2.2.2.2.2.1 u.2.2.2.2.2.2.2.2.2.2.2.2.2.2.2.2.2.1 llo lhi u.2.2.2.2.2.2.2.2.2.2.2.2.2.2.2.2.2.2 = aadd (mkA key val ord tk cp dep dp E dbl hlv spl mrg L lev ptr llo lhi lsp) k 5)) (fun u => (wC cy a u.1 u.2.1 u.2.2.1 u.2.2.2.1 cp u.2.2.2.2.1 u.2.2.2.2.2.1 u.2.2.2.2.2.2.1 u.2.2.2.2.2.2.2.1 u.2.2.2.2.2.2.2.2.1 u.2.2.2.2.2.2.2.2.2.1 u.2.2.2.2.2.2.2.2.2.2.1 hlv u.2.2.2.2.2.2.2.2.2.2.2.1 mrg u.2.2.2.2.2.2.2.2.2.2.2.2.1 u.2.2.2.2.2.2.2.2.2.2.2.2.2.1 u.2.2.2.2.2.2.2.2.2.2.2.2.2.2.1 u.2.2.2.2.2.2.2.2.2.2.2.2.2.2.2.1 u.2.2.2.2.2.2.2.2.2.2.2.2.2.2.2.2.1 u.2.2.2.2.2.2.2.2.2.2.2.2.2.2.2.2.2.1 llo lhi u.2.2.2.2.2.2.2.2.2.2.2.2.2.2.2.2.2.2)) := by
  refine tq_WI.mk (by decide) (Nat.le_of_ble_eq_true rfl) ?_
  intro p e s m args below meth c A C hP hK hD hS hA ls hl
  obtain ⟨hx, hb, hml, hown, hrt, hlk, hT⟩ := id C
  have hl : lv_has ls 3 [(0, .ref (a 0)), (1, .int (nI (k)))] := hl
  refine lv_aload_n hx hb dL_put_0 rfl (lv_at hl 0 rfl) ?_
  refine lv_iload_n hx hb dL_put_1 rfl (lv_at hl 1 rfl) ?_
  refine lv_iconst (v := nI 5) hx hb dL_put_2 (by decide) ?_
  refine tq_callI (W3 := fun u => (wC cy a u.1 u.2.1 u.2.2.1 u.2.2.2.1 cp u.2.2.2.2.1 u.2.2.2.2.2.1 u.2.2.2.2.2.2.1 u.2.2.2.2.2.2.2.1 u.2.2.2.2.2.2.2.2.1 u.2.2.2.2.2.2.2.2.2.1 u.2.2.2.2.2.2.2.2.2.2.1 hlv u.2.2.2.2.2.2.2.2.2.2.2.1 mrg u.2.2.2.2.2.2.2.2.2.2.2.2.1 u.2.2.2.2.2.2.2.2.2.2.2.2.2.1 u.2.2.2.2.2.2.2.2.2.2.2.2.2.2.1 u.2.2.2.2.2.2.2.2.2.2.2.2.2.2.2.1 u.2.2.2.2.2.2.2.2.2.2.2.2.2.2.2.2.1 u.2.2.2.2.2.2.2.2.2.2.2.2.2.2.2.2.2.1 llo lhi u.2.2.2.2.2.2.2.2.2.2.2.2.2.2.2.2.2.2)) (wr := []) (va_runV C.fix (As := [.int (nI (k)), .int (nI (5))]) (rest := []) ((c_X4_put l D cy a key val ord tk cp efi ela eco ene ldp dp dbl hlv spl mrg lfi lla lco lne lev ptr llo lhi lsp k 5 dep E L hCR hk (by decide) htk) s.heap.size) (tq_cV (n := 2) C ml_L_8 im_X4_put se_X4_put ini_X4 cd_X4_put ⟨by decide, by decide, by decide +kernel⟩ ⟨Nat.le_of_ble_eq_true rfl, Nat.le_of_ble_eq_true rfl⟩) ⟨tq_Pc.blind, va_recv hK hP (ci := 4) (q0 := 0) rfl rfl, tq_preC C hK hP hD⟩ rfl rfl hl.1 rfl (lv_room (Nat.le_of_ble_eq_true rfl)) dL_put_3 ⟨Nat.le_of_ble_eq_true rfl, Nat.le_of_ble_eq_true rfl⟩) hP hD hS hA [0, 1, 2, 3, 4, 5, 6, 7, 8, 9, 10, 11, 12, 13, 14, 15, 16, 17] [] [0, 1, 2, 3, 4, 5, 6, 7, 8, 9, 10, 11, 12, 13, 14, 15, 16, 17] rfl rfl (by decide) (by decide) (by decide) (fun _ => rfl) (fun r3 u3 H locs hr3 hP hD hS => ?_)
  obtain ⟨key3, val3, ord3, tk3, efi3, ela3, eco3, ene3, ldp3, dp3, dbl3, spl3, lfi3, lla3, lco3, lne3, lev3, ptr3, lsp3⟩ := u3
  try dsimp only at hr3
  have hP : va_P D vwCl (wC cy a key3 val3 ord3 tk3 cp efi3 ela3 eco3 ene3 ldp3 dp3 dbl3 hlv spl3 mrg lfi3 lla3 lco3 lne3 lev3 ptr3 llo lhi lsp3) H := hP
  have hD : va_D A (wC cy a key3 val3 ord3 tk3 cp efi3 ela3 eco3 ene3 ldp3 dp3 dbl3 hlv spl3 mrg lfi3 lla3 lco3 lne3 lev3 ptr3 llo lhi lsp3) := hD
  exact tq_iret (v := (r3)) C rfl (key3, val3, ord3, tk3, efi3, ela3, eco3, ene3, ldp3, dp3, dbl3, spl3, lfi3, lla3, lco3, lne3, lev3, ptr3, lsp3) hP hD hS (hr3) (Nat.le_of_ble_eq_true rfl) (Nat.le_of_ble_eq_true rfl) dL_put_6
set_option maxHeartbeats 4000000 in
set_option maxRecDepth 100000 in
theorem c_L_removed (l : Launch) (D : va_G) (cy : ClassId) (a : Nat → Nat) (key : Nat → Nat) (val : Nat → Nat) (ord : Nat → Nat) (tk : Nat) (cp : Nat) (efi : Nat → Nat) (ela : Nat → Nat) (eco : Nat → Nat) (ene : Nat → Nat) (ldp : Nat → Nat) (dp : Nat) (dbl : Int32) (hlv : Int32) (spl : Int32) (mrg : Int32) (lfi : Nat → Nat) (lla : Nat → Nat) (lco : Nat → Nat) (lne : Nat → Nat) (lev : Nat) (ptr : Nat) (llo : Nat) (lhi : Nat) (lsp : Int32) (k : Nat) (dep : Nat → Nat) (E L : List Nat) (hCR : CR key val ord tk cp efi ela eco ene ldp dp lfi lla lco lne lev ptr llo lhi dep E L) (hk : k < 65536) : tq_WI (S := (Nat → Nat) × Nat × (Nat → Nat) × (Nat → Nat) × (Nat → Nat) × (Nat → Nat) × (Nat → Nat) × Nat × Int32 × Int32 × (Nat → Nat) × (Nat → Nat) × (Nat → Nat) × (Nat → Nat) × Nat × Nat × Int32) l yL_removed cL_removed 3 [(0, 5, 6, 14)] 7 160 D cy (wC cy a key val ord tk cp efi ela eco ene ldp dp dbl hlv spl mrg lfi lla lco lne lev ptr llo lhi lsp) [.ref (a 0), .int (nI (k))] (fun r u => ((∀ w, (k, w) ∉ (stl key val ord tk)) ∧ r = -1 ∧ ∃ dep2 E2 L2, CR key val u.1 u.2.1 cp u.2.2.1 u.2.2.2.1 u.2.2.2.2.1 u.2.2.2.2.2.1 u.2.2.2.2.2.2.1 u.2.2.2.2.2.2.2.1 u.2.2.2.2.2.2.2.2.2.2.1 u.2.2.2.2.2.2.2.2.2.2.2.1 u.2.2.2.2.2.2.2.2.2.2.2.2.1 u.2.2.2.2.2.2.2.2.2.2.2.2.2.1 u.2.2.2.2.2.2.2.2.2.2.2.2.2.2.1 u.2.2.2.2.2.2.2.2.2.2.2.2.2.2.2.1 llo lhi dep2 E2 L2 ∧ mkA key val u.1 u.2.1 cp dep2 u.2.2.2.2.2.2.2.1 E2 dbl u.2.2.2.2.2.2.2.2.1 spl u.2.2.2.2.2.2.2.2.2.1 L2 u.2.2.2.2.2.2.2.2.2.2.2.2.2.2.1 u.2.2.2.2.2.2.2.2.2.2.2.2.2.2.2.1 llo lhi u.2.2.2.2.2.2.2.2.2.2.2.2.2.2.2.2 = (mkA key val ord tk cp dep dp E dbl hlv spl mrg L lev ptr llo lhi lsp)) ∨ (∃ w, (k, w) ∈ (stl key val ord tk) ∧ r = nI w ∧ ∃ dep2 E2 L2, CR key val u.1 u.2.1 cp u.2.2.1 u.2.2.2.1 u.2.2.2.2.1 u.2.2.2.2.2.1 u.2.2.2.2.2.2.1 u.2.2.2.2.2.2.2.1 u.2.2.2.2.2.2.2.2.2.2.1 u.2.2.2.2.2.2.2.2.2.2.2.1 u.2.2.2.2.2.2.2.2.2.2.2.2.1 u.2.2.2.2.2.2.2.2.2.2.2.2.2.1 u.2.2.2.2.2.2.2.2.2.2.2.2.2.2.1 u.2.2.2.2.2.2.2.2.2.2.2.2.2.2.2.1 llo lhi dep2 E2 L2 ∧ mkA key val u.1 u.2.1 cp dep2 u.2.2.2.2.2.2.2.1 E2 dbl u.2.2.2.2.2.2.2.2.1 spl u.2.2.2.2.2.2.2.2.2.1 L2 u.2.2.2.2.2.2.2.2.2.2.2.2.2.2.1 u.2.2.2.2.2.2.2.2.2.2.2.2.2.2.2.1 llo lhi u.2.2.2.2.2.2.2.2.2.2.2.2.2.2.2.2 = adel (mkA key val ord tk cp dep dp E dbl hlv spl mrg L lev ptr llo lhi lsp) k)) (fun u => (wC cy a key val u.1 u.2.1 cp u.2.2.1 u.2.2.2.1 u.2.2.2.2.1 u.2.2.2.2.2.1 u.2.2.2.2.2.2.1 u.2.2.2.2.2.2.2.1 dbl u.2.2.2.2.2.2.2.2.1 spl u.2.2.2.2.2.2.2.2.2.1 u.2.2.2.2.2.2.2.2.2.2.1 u.2.2.2.2.2.2.2.2.2.2.2.1 u.2.2.2.2.2.2.2.2.2.2.2.2.1 u.2.2.2.2.2.2.2.2.2.2.2.2.2.1 u.2.2.2.2.2.2.2.2.2.2.2.2.2.2.1 u.2.2.2.2.2.2.2.2.2.2.2.2.2.2.2.1 llo lhi u.2.2.2.2.2.2.2.2.2.2.2.2.2.2.2.2)) := by
  refine tq_WI.mk (by decide) (Nat.le_of_ble_eq_true rfl) ?_
  intro p e s m args below meth c A C hP hK hD hS hA ls hl
  obtain ⟨hx, hb, hml, hown, hrt, hlk, hT⟩ := id C
  have hl : lv_has ls 3 [(0, .ref (a 0)), (1, .int (nI (k)))] := hl
  refine lv_aload_n hx hb dL_removed_0 rfl (lv_at hl 0 rfl) ?_
  refine lv_iload_n hx hb dL_removed_1 rfl (lv_at hl 1 rfl) ?_
  refine tq_callI (W3 := fun u => (wC cy a key val u.1 u.2.1 cp u.2.2.1 u.2.2.2.1 u.2.2.2.2.1 u.2.2.2.2.2.1 u.2.2.2.2.2.2.1 u.2.2.2.2.2.2.2.1 dbl u.2.2.2.2.2.2.2.2.1 spl u.2.2.2.2.2.2.2.2.2.1 u.2.2.2.2.2.2.2.2.2.2.1 u.2.2.2.2.2.2.2.2.2.2.2.1 u.2.2.2.2.2.2.2.2.2.2.2.2.1 u.2.2.2.2.2.2.2.2.2.2.2.2.2.1 u.2.2.2.2.2.2.2.2.2.2.2.2.2.2.1 u.2.2.2.2.2.2.2.2.2.2.2.2.2.2.2.1 llo lhi u.2.2.2.2.2.2.2.2.2.2.2.2.2.2.2.2)) (wr := []) (va_runV C.fix (As := [.int (nI (k))]) (rest := []) ((c_X4_remove l D cy a key val ord tk cp efi ela eco ene ldp dp dbl hlv spl mrg lfi lla lco lne lev ptr llo lhi lsp k dep E L hCR hk) s.heap.size) (tq_cV (n := 1) C ml_L_18 im_X4_remove se_X4_remove ini_X4 cd_X4_remove ⟨by decide, by decide, by decide +kernel⟩ ⟨Nat.le_of_ble_eq_true rfl, Nat.le_of_ble_eq_true rfl⟩) ⟨tq_Pc.blind, va_recv hK hP (ci := 4) (q0 := 0) rfl rfl, tq_preC C hK hP hD⟩ rfl rfl hl.1 rfl (lv_room (Nat.le_of_ble_eq_true rfl)) dL_removed_2 ⟨Nat.le_of_ble_eq_true rfl, Nat.le_of_ble_eq_true rfl⟩) hP hD hS hA [0, 1, 2, 3, 4, 5, 6, 7, 8, 9, 10, 11, 12, 13, 14, 15, 16, 17] [] [0, 1, 2, 3, 4, 5, 6, 7, 8, 9, 10, 11, 12, 13, 14, 15, 16, 17] rfl rfl (by decide) (by decide) (by decide) (fun _ => rfl) (fun r2 u2 H locs hr2 hP hD hS => ?_)
  obtain ⟨ord2, tk2, efi2, ela2, eco2, ene2, ldp2, dp2, hlv2, mrg2, lfi2, lla2, lco2, lne2, lev2, ptr2, lsp2⟩ := u2
  try dsimp only at hr2
  have hP : va_P D vwCl (wC cy a key val ord2 tk2 cp efi2 ela2 eco2 ene2 ldp2 dp2 dbl hlv2 spl mrg2 lfi2 lla2 lco2 lne2 lev2 ptr2 llo lhi lsp2) H := hP
  have hD : va_D A (wC cy a key val ord2 tk2 cp efi2 ela2 eco2 ene2 ldp2 dp2 dbl hlv2 spl mrg2 lfi2 lla2 lco2 lne2 lev2 ptr2 llo lhi lsp2) := hD
  exact tq_iret (v := (r2)) C rfl (ord2, tk2, efi2, ela2, eco2, ene2, ldp2, dp2, hlv2, mrg2, lfi2, lla2, lco2, lne2, lev2, ptr2, lsp2) hP hD hS (hr2) (Nat.le_of_ble_eq_true rfl) (Nat.le_of_ble_eq_true rfl) dL_removed_5
set_option maxHeartbeats 4000000 in
set_option maxRecDepth 100000 in
theorem c_L_rebuilt (l : Launch) (D : va_G) (cy : ClassId) (a : Nat → Nat) (key : Nat → Nat) (val : Nat → Nat) (ord : Nat → Nat) (tk : Nat) (cp : Nat) (efi : Nat → Nat) (ela : Nat → Nat) (eco : Nat → Nat) (ene : Nat → Nat) (ldp : Nat → Nat) (dp : Nat) (dbl : Int32) (hlv : Int32) (spl : Int32) (mrg : Int32) (lfi : Nat → Nat) (lla : Nat → Nat) (lco : Nat → Nat) (lne : Nat → Nat) (lev : Nat) (ptr : Nat) (llo : Nat) (lhi : Nat) (lsp : Int32) (cq : Nat) (dep : Nat → Nat) (E L : List Nat) (hCR : CR key val ord tk cp efi ela eco ene ldp dp lfi lla lco lne lev ptr llo lhi dep E L) (hc1 : 1 ≤ cq) (hc2 : cq ≤ 5) : tq_WI (S := Nat × Nat × (Nat → Nat) × (Nat → Nat) × (Nat → Nat) × (Nat → Nat) × (Nat → Nat) × Nat × Int32 × Int32 × (Nat → Nat) × (Nat → Nat) × (Nat → Nat) × (Nat → Nat) × Nat × Nat × Int32) l yL_rebuilt cL_rebuilt 3 [(0, 5, 6, 14)] 7 161 D cy (wC cy a key val ord tk cp efi ela eco ene ldp dp dbl hlv spl mrg lfi lla lco lne lev ptr llo lhi lsp) [.ref (a 0), .int (nI (cq))] (fun r u => r = nI cp ∧ u.1 = tk ∧ u.2.1 = cq ∧ ∃ dep2 E2 L2, CR key val ord u.1 u.2.1 u.2.2.1 u.2.2.2.1 u.2.2.2.2.1 u.2.2.2.2.2.1 u.2.2.2.2.2.2.1 u.2.2.2.2.2.2.2.1 u.2.2.2.2.2.2.2.2.2.2.1 u.2.2.2.2.2.2.2.2.2.2.2.1 u.2.2.2.2.2.2.2.2.2.2.2.2.1 u.2.2.2.2.2.2.2.2.2.2.2.2.2.1 u.2.2.2.2.2.2.2.2.2.2.2.2.2.2.1 u.2.2.2.2.2.2.2.2.2.2.2.2.2.2.2.1 llo lhi dep2 E2 L2) (fun u => (wC cy a key val ord u.1 u.2.1 u.2.2.1 u.2.2.2.1 u.2.2.2.2.1 u.2.2.2.2.2.1 u.2.2.2.2.2.2.1 u.2.2.2.2.2.2.2.1 u.2.2.2.2.2.2.2.2.1 hlv u.2.2.2.2.2.2.2.2.2.1 mrg u.2.2.2.2.2.2.2.2.2.2.1 u.2.2.2.2.2.2.2.2.2.2.2.1 u.2.2.2.2.2.2.2.2.2.2.2.2.1 u.2.2.2.2.2.2.2.2.2.2.2.2.2.1 u.2.2.2.2.2.2.2.2.2.2.2.2.2.2.1 u.2.2.2.2.2.2.2.2.2.2.2.2.2.2.2.1 llo lhi u.2.2.2.2.2.2.2.2.2.2.2.2.2.2.2.2)) := by
  refine tq_WI.mk (by decide) (Nat.le_of_ble_eq_true rfl) ?_
  intro p e s m args below meth c A C hP hK hD hS hA ls hl
  obtain ⟨hx, hb, hml, hown, hrt, hlk, hT⟩ := id C
  have hl : lv_has ls 3 [(0, .ref (a 0)), (1, .int (nI (cq)))] := hl
  refine lv_aload_n hx hb dL_rebuilt_0 rfl (lv_at hl 0 rfl) ?_
  refine lv_iload_n hx hb dL_rebuilt_1 rfl (lv_at hl 1 rfl) ?_
  refine tq_callI (W3 := fun u => (wC cy a key val ord u.1 u.2.1 u.2.2.1 u.2.2.2.1 u.2.2.2.2.1 u.2.2.2.2.2.1 u.2.2.2.2.2.2.1 u.2.2.2.2.2.2.2.1 u.2.2.2.2.2.2.2.2.1 hlv u.2.2.2.2.2.2.2.2.2.1 mrg u.2.2.2.2.2.2.2.2.2.2.1 u.2.2.2.2.2.2.2.2.2.2.2.1 u.2.2.2.2.2.2.2.2.2.2.2.2.1 u.2.2.2.2.2.2.2.2.2.2.2.2.2.1 u.2.2.2.2.2.2.2.2.2.2.2.2.2.2.1 u.2.2.2.2.2.2.2.2.2.2.2.2.2.2.2.1 llo lhi u.2.2.2.2.2.2.2.2.2.2.2.2.2.2.2.2)) (wr := []) (va_runV C.fix (As := [.int (nI (cq))]) (rest := []) ((c_X4_rebuild l D cy a key val ord tk cp efi ela eco ene ldp dp dbl hlv spl mrg lfi lla lco lne lev ptr llo lhi lsp cq dep E L hCR hc1 hc2) s.heap.size) (tq_cV (n := 1) C ml_L_22 im_X4_rebuild se_X4_rebuild ini_X4 cd_X4_rebuild ⟨by decide, by decide, by decide +kernel⟩ ⟨Nat.le_of_ble_eq_true rfl, Nat.le_of_ble_eq_true rfl⟩) ⟨tq_Pc.blind, va_recv hK hP (ci := 4) (q0 := 0) rfl rfl, tq_preC C hK hP hD⟩ rfl rfl hl.1 rfl (lv_room (Nat.le_of_ble_eq_true rfl)) dL_rebuilt_2 ⟨Nat.le_of_ble_eq_true rfl, Nat.le_of_ble_eq_true rfl⟩) hP hD hS hA [0, 1, 2, 3, 4, 5, 6, 7, 8, 9, 10, 11, 12, 13, 14, 15, 16, 17] [] [0, 1, 2, 3, 4, 5, 6, 7, 8, 9, 10, 11, 12, 13, 14, 15, 16, 17] rfl rfl (by decide) (by decide) (by decide) (fun _ => rfl) (fun r2 u2 H locs hr2 hP hD hS => ?_)
  obtain ⟨tk2, cp2, efi2, ela2, eco2, ene2, ldp2, dp2, dbl2, spl2, lfi2, lla2, lco2, lne2, lev2, ptr2, lsp2⟩ := u2
  try dsimp only at hr2
  have hP : va_P D vwCl (wC cy a key val ord tk2 cp2 efi2 ela2 eco2 ene2 ldp2 dp2 dbl2 hlv spl2 mrg lfi2 lla2 lco2 lne2 lev2 ptr2 llo lhi lsp2) H := hP
  have hD : va_D A (wC cy a key val ord tk2 cp2 efi2 ela2 eco2 ene2 ldp2 dp2 dbl2 hlv spl2 mrg lfi2 lla2 lco2 lne2 lev2 ptr2 llo lhi lsp2) := hD
  exact tq_iret (v := (r2)) C rfl (tk2, cp2, efi2, ela2, eco2, ene2, ldp2, dp2, dbl2, spl2, lfi2, lla2, lco2, lne2, lev2, ptr2, lsp2) hP hD hS (hr2) (Nat.le_of_ble_eq_true rfl) (Nat.le_of_ble_eq_true rfl) dL_rebuilt_5
set_option maxHeartbeats 4000000 in
set_option maxRecDepth 100000 in
theorem c_L_slotAt (l : Launch) (D : va_G) (cy : ClassId) (a : Nat → Nat) (key : Nat → Nat) (val : Nat → Nat) (ord : Nat → Nat) (tk : Nat) (cp : Nat) (efi : Nat → Nat) (ela : Nat → Nat) (eco : Nat → Nat) (ene : Nat → Nat) (ldp : Nat → Nat) (dp : Nat) (dbl : Int32) (hlv : Int32) (spl : Int32) (mrg : Int32) (lfi : Nat → Nat) (lla : Nat → Nat) (lco : Nat → Nat) (lne : Nat → Nat) (lev : Nat) (ptr : Nat) (llo : Nat) (lhi : Nat) (lsp : Int32) (cu : Nat) (hdp : dp ≤ 8) (hcu : cu < 256) : tq_WF l yL_slotAt cL_slotAt 3 [(0, 5, 6, 14)] 2 43 D cy (wC cy a key val ord tk cp efi ela eco ene ldp dp dbl hlv spl mrg lfi lla lco lne lev ptr llo lhi lsp) [.ref (a 0), .int (nI (cu))] (fun r => r = (nI (cu % 2 ^ dp))) := by
  refine tq_WF.mk (by decide) (Nat.le_of_ble_eq_true rfl) ?_
  intro p e s m args below meth c C hP hK ls hl
  obtain ⟨hx, hb, hml, hown, hrt, hlk, hT⟩ := id C
  have hl : lv_has ls 3 [(0, .ref (a 0)), (1, .int (nI (cu)))] := hl
  refine lv_aload_n hx hb dL_slotAt_0 rfl (lv_at hl 0 rfl) ?_
  refine lv_iload_n hx hb dL_slotAt_1 rfl (lv_at hl 1 rfl) ?_
  refine tq_callF (va_runV C.fix (As := [.int (nI (cu))]) (rest := []) (c_X4_slotAt l D cy a key val ord tk cp efi ela eco ene ldp dp dbl hlv spl mrg lfi lla lco lne lev ptr llo lhi lsp cu hdp hcu) (tq_cV (n := 1) C ml_L_25 im_X4_slotAt se_X4_slotAt ini_X4 cd_X4_slotAt ⟨by decide, by decide, by decide +kernel⟩ ⟨Nat.le_of_ble_eq_true rfl, Nat.le_of_ble_eq_true rfl⟩) ⟨tq_Pf.blind, va_recv hK hP (ci := 4) (q0 := 0) rfl rfl, tq_preF C hK hP⟩ rfl rfl hl.1 rfl (lv_room (Nat.le_of_ble_eq_true rfl)) dL_slotAt_2 ⟨Nat.le_of_ble_eq_true rfl, Nat.le_of_ble_eq_true rfl⟩) (fun r2 hr2 => ?_)
  obtain rfl := hr2
  exact tq_fret (v := (nI (cu % 2 ^ dp))) C rfl (rfl) dL_slotAt_5
set_option maxHeartbeats 4000000 in
set_option maxRecDepth 100000 in
theorem c_L_next (l : Launch) (D : va_G) (cy : ClassId) (a : Nat → Nat) (key : Nat → Nat) (val : Nat → Nat) (ord : Nat → Nat) (tk : Nat) (cp : Nat) (efi : Nat → Nat) (ela : Nat → Nat) (eco : Nat → Nat) (ene : Nat → Nat) (ldp : Nat → Nat) (dp : Nat) (dbl : Int32) (hlv : Int32) (spl : Int32) (mrg : Int32) (lfi : Nat → Nat) (lla : Nat → Nat) (lco : Nat → Nat) (lne : Nat → Nat) (lev : Nat) (ptr : Nat) (llo : Nat) (lhi : Nat) (lsp : Int32) (cu : Nat) (dep : Nat → Nat) (E L : List Nat) (hCR : CR key val ord tk cp efi ela eco ene ldp dp lfi lla lco lne lev ptr llo lhi dep E L) (hcu : cu < 256) : tq_WF l yL_next cL_next 3 [(0, 5, 6, 14)] 3 67 D cy (wC cy a key val ord tk cp efi ela eco ene ldp dp dbl hlv spl mrg lfi lla lco lne lev ptr llo lhi lsp) [.ref (a 0), .int (nI (cu))] (fun r => r = nI (nxc (dep (cu % 2 ^ dp)) cu)) := by
  refine tq_WF.mk (by decide) (Nat.le_of_ble_eq_true rfl) ?_
  intro p e s m args below meth c C hP hK ls hl
  obtain ⟨hx, hb, hml, hown, hrt, hlk, hT⟩ := id C
  have hl : lv_has ls 3 [(0, .ref (a 0)), (1, .int (nI (cu)))] := hl
  refine lv_aload_n hx hb dL_next_0 rfl (lv_at hl 0 rfl) ?_
  refine lv_iload_n hx hb dL_next_1 rfl (lv_at hl 1 rfl) ?_
  refine tq_callF (va_runV C.fix (As := [.int (nI (cu))]) (rest := []) (c_X4_nextCursor l D cy a key val ord tk cp efi ela eco ene ldp dp dbl hlv spl mrg lfi lla lco lne lev ptr llo lhi lsp cu dep E L hCR hcu) (tq_cV (n := 1) C ml_L_28 im_X4_nextCursor se_X4_nextCursor ini_X4 cd_X4_nextCursor ⟨by decide, by decide, by decide +kernel⟩ ⟨Nat.le_of_ble_eq_true rfl, Nat.le_of_ble_eq_true rfl⟩) ⟨tq_Pf.blind, va_recv hK hP (ci := 4) (q0 := 0) rfl rfl, tq_preF C hK hP⟩ rfl rfl hl.1 rfl (lv_room (Nat.le_of_ble_eq_true rfl)) dL_next_2 ⟨Nat.le_of_ble_eq_true rfl, Nat.le_of_ble_eq_true rfl⟩) (fun r2 hr2 => ?_)
  obtain rfl := hr2
  exact tq_fret (v := (nI (nxc (dep (cu % 2 ^ dp)) cu))) C rfl (rfl) dL_next_5
set_option maxHeartbeats 4000000 in
set_option maxRecDepth 100000 in
theorem c_L_many (l : Launch) (D : va_G) (cy : ClassId) (a : Nat → Nat) (key : Nat → Nat) (val : Nat → Nat) (ord : Nat → Nat) (tk : Nat) (cp : Nat) (efi : Nat → Nat) (ela : Nat → Nat) (eco : Nat → Nat) (ene : Nat → Nat) (ldp : Nat → Nat) (dp : Nat) (dbl : Int32) (hlv : Int32) (spl : Int32) (mrg : Int32) (lfi : Nat → Nat) (lla : Nat → Nat) (lco : Nat → Nat) (lne : Nat → Nat) (lev : Nat) (ptr : Nat) (llo : Nat) (lhi : Nat) (lsp : Int32) (sl : Nat) (dep : Nat → Nat) (E L : List Nat) (hCR : CR key val ord tk cp efi ela eco ene ldp dp lfi lla lco lne lev ptr llo lhi dep E L) (hs9 : sl < 2 ^ dp) : tq_WF l yL_many cL_many 3 [(0, 5, 6, 34)] 4 83 D cy (wC cy a key val ord tk cp efi ela eco ene ldp dp dbl hlv spl mrg lfi lla lco lne lev ptr llo lhi lsp) [.ref (a 0), .int (nI (sl))] (fun r => r = nI (clB E sl (dep sl)).length) := by
  refine tq_WF.mk (by decide) (Nat.le_of_ble_eq_true rfl) ?_
  intro p e s m args below meth c C hP hK ls hl
  obtain ⟨hx, hb, hml, hown, hrt, hlk, hT⟩ := id C
  have hl : lv_has ls 3 [(0, .ref (a 0)), (1, .int (nI (sl)))] := hl
  refine lv_aload_n hx hb dL_many_0 rfl (lv_at hl 0 rfl) ?_
  refine lv_iload_n hx hb dL_many_1 rfl (lv_at hl 1 rfl) ?_
  refine tq_callF (va_runV C.fix (As := [.int (nI (sl))]) (rest := []) (c_X4_bucketSize l D cy a key val ord tk cp efi ela eco ene ldp dp dbl hlv spl mrg lfi lla lco lne lev ptr llo lhi lsp sl dep E L hCR hs9) (tq_cV (n := 1) C ml_L_31 im_X4_bucketSize se_X4_bucketSize ini_X4 cd_X4_bucketSize ⟨by decide, by decide, by decide +kernel⟩ ⟨Nat.le_of_ble_eq_true rfl, Nat.le_of_ble_eq_true rfl⟩) ⟨tq_Pf.blind, va_recv hK hP (ci := 4) (q0 := 0) rfl rfl, tq_preF C hK hP⟩ rfl rfl hl.1 rfl (lv_room (Nat.le_of_ble_eq_true rfl)) dL_many_2 ⟨Nat.le_of_ble_eq_true rfl, Nat.le_of_ble_eq_true rfl⟩) (fun r2 hr2 => ?_)
  obtain rfl := hr2
  exact tq_fret (v := (nI ((clB E sl (dep sl)).length))) C rfl (rfl) dL_many_5
set_option maxHeartbeats 4000000 in
set_option maxRecDepth 100000 in
theorem c_L_keyAt (l : Launch) (D : va_G) (cy : ClassId) (a : Nat → Nat) (key : Nat → Nat) (val : Nat → Nat) (ord : Nat → Nat) (tk : Nat) (cp : Nat) (efi : Nat → Nat) (ela : Nat → Nat) (eco : Nat → Nat) (ene : Nat → Nat) (ldp : Nat → Nat) (dp : Nat) (dbl : Int32) (hlv : Int32) (spl : Int32) (mrg : Int32) (lfi : Nat → Nat) (lla : Nat → Nat) (lco : Nat → Nat) (lne : Nat → Nat) (lev : Nat) (ptr : Nat) (llo : Nat) (lhi : Nat) (lsp : Int32) (sl : Nat) (pl : Nat) (dep : Nat → Nat) (E L : List Nat) (hCR : CR key val ord tk cp efi ela eco ene ldp dp lfi lla lco lne lev ptr llo lhi dep E L) (hs9 : sl < 2 ^ dp) (hpl : pl < (clB E sl (dep sl)).length) : tq_WF l yL_keyAt cL_keyAt 4 [(0, 6, 7, 34)] 5 110 D cy (wC cy a key val ord tk cp efi ela eco ene ldp dp dbl hlv spl mrg lfi lla lco lne lev ptr llo lhi lsp) [.ref (a 0), .int (nI (sl)), .int (nI (pl))] (fun r => r = nI ((clB E sl (dep sl)).getD pl 0)) := by
  refine tq_WF.mk (by decide) (Nat.le_of_ble_eq_true rfl) ?_
  intro p e s m args below meth c C hP hK ls hl
  obtain ⟨hx, hb, hml, hown, hrt, hlk, hT⟩ := id C
  have hl : lv_has ls 4 [(0, .ref (a 0)), (1, .int (nI (sl))), (2, .int (nI (pl)))] := hl
  refine lv_aload_n hx hb dL_keyAt_0 rfl (lv_at hl 0 rfl) ?_
  refine lv_iload_n hx hb dL_keyAt_1 rfl (lv_at hl 1 rfl) ?_
  refine lv_iload_n hx hb dL_keyAt_2 rfl (lv_at hl 2 rfl) ?_
  refine tq_callF (va_runV C.fix (As := [.int (nI (sl)), .int (nI (pl))]) (rest := []) (c_X4_keyAt l D cy a key val ord tk cp efi ela eco ene ldp dp dbl hlv spl mrg lfi lla lco lne lev ptr llo lhi lsp sl pl dep E L hCR hs9 hpl) (tq_cV (n := 2) C ml_L_36 im_X4_keyAt se_X4_keyAt ini_X4 cd_X4_keyAt ⟨by decide, by decide, by decide +kernel⟩ ⟨Nat.le_of_ble_eq_true rfl, Nat.le_of_ble_eq_true rfl⟩) ⟨tq_Pf.blind, va_recv hK hP (ci := 4) (q0 := 0) rfl rfl, tq_preF C hK hP⟩ rfl rfl hl.1 rfl (lv_room (Nat.le_of_ble_eq_true rfl)) dL_keyAt_3 ⟨Nat.le_of_ble_eq_true rfl, Nat.le_of_ble_eq_true rfl⟩) (fun r3 hr3 => ?_)
  obtain rfl := hr3
  exact tq_fret (v := (nI ((clB E sl (dep sl)).getD pl 0))) C rfl (rfl) dL_keyAt_6
