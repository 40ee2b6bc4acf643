/-- what a throw needs: the two statics of Throwable outside A, the three texts -/
def tq_E (A : Nat → Prop) (U : State) (H : Heap) : Prop := vx_Zq Bundle.tN "UNASSIGNED_STACK" Bundle.steD A U H ∧ vx_Zq Bundle.tN "SUPPRESSED_SENTINEL" Bundle.listD A U H ∧ (∃ a, vk_R "TwinHashTables" 204 "out of range" a U) ∧ (∃ a, vk_R "TwinHashTables" 55 "the store is full" a U) ∧ ∃ a, vk_R "TwinHashTables" 209 "there is none with this number" a U
theorem tq_E.warm {A : Nat → Prop} {s U : State} {H : Heap} (hW : s.WarmedH U.vm) (h : tq_E A s H) : tq_E A U H := by
  obtain ⟨h1, h2, ⟨a, h3⟩, ⟨b, h4⟩, ⟨c, h5⟩⟩ := h
  exact ⟨h1.moved hW.alike, h2.moved hW.alike, ⟨a, h3.warm hW⟩, ⟨b, h4.warm hW⟩, ⟨c, h5.warm hW⟩⟩
theorem tq_E.kept {A : Nat → Prop} {U : State} {H H1 : Heap} (h : tq_E A U H) (hq : ∀ a : Nat, a < H.size → ¬ A a → H1[a]? = H[a]?) : tq_E A U H1 := ⟨h.1.kept hq, h.2.1.kept hq, h.2.2⟩
theorem tq_E.narrow {A B : Nat → Prop} {U : State} {H : Heap} (h : tq_E A U H) (hAB : ∀ q, B q → A q) : tq_E B U H := ⟨h.1.narrow hAB, h.2.1.narrow hAB, h.2.2⟩
/-- a start that may throw -/
def tq_Px (D : va_G) (cy : ClassId) (Ws : va_W) (sz : Nat) (av : List Value) : Array Value → State → Prop := va_Pc av (fun U => tq_T U ∧ U.heap.size = sz ∧ va_P D vwCl Ws U.heap ∧ va_K D vwCl (tq_ty cy) U ∧ va_D (fun _ => True) Ws ∧ tq_E (va_A Ws sz) U U.heap)
theorem tq_Px.blind {D : va_G} {cy : ClassId} {Ws : va_W} {sz : Nat} {av : List Value} : FrameBlind (tq_Px D cy Ws sz av) := fun a U g mk h =>
  ⟨h.1, tq_calling h.2.1, h.2.2.1, h.2.2.2.1, va_K.moved (u := U) (U := U.calling g mk a) (Vm.Alike.refl U.vm) h.2.2.2.2.1, h.2.2.2.2.2.1, h.2.2.2.2.2.2.warm (State.WarmedH.refl U)⟩
def tq_Qu (post : Prop) : Array Value → State → Outcome → State → Prop := fun _ st oc t => (oc = .returned none ∧ post) ∧ t.heap = st.heap
def tq_XC (px : String → Prop) : String → State → State → Prop := fun E st t => px E ∧ va_F (fun _ => False) st t
/-- contracts that may throw: reads with an int, without an answer; changes with an int -/
def tq_XF (l : Launch) (y : MethodName) (b : ByteArray) (nL : Nat) (ret : Option FieldType) (fr lo : Nat) (D : va_G) (cy : ClassId) (Ws : va_W) (av : List Value) (post : Int32 → Prop) (px : String → Prop) : Prop :=
  ∀ sz : Nat, vx_Met l y [.code y b nL ret] { frames := fr, cells := 1, slots := 6, locals := lo } (tq_Px D cy Ws sz av) (tq_Qf post) (tq_XC px) 1 6 (fun _ => False)
def tq_XU (l : Launch) (y : MethodName) (b : ByteArray) (nL : Nat) (fr lo : Nat) (D : va_G) (cy : ClassId) (Ws : va_W) (av : List Value) (post : Prop) (px : String → Prop) : Prop :=
  ∀ sz : Nat, vx_Met l y [.code y b nL none] { frames := fr, cells := 1, slots := 6, locals := lo } (tq_Px D cy Ws sz av) (tq_Qu post) (tq_XC px) 1 6 (fun _ => False)
def tq_XI {S : Type} (l : Launch) (y : MethodName) (b : ByteArray) (nL : Nat) (ret : Option FieldType) (fr lo : Nat) (D : va_G) (cy : ClassId) (Ws : va_W) (av : List Value) (post : Int32 → S → Prop) (W2 : S → va_W) (px : String → Prop) : Prop :=
  ∀ sz : Nat, vx_Met l y [.code y b nL ret] { frames := fr, cells := 1, slots := 6, locals := lo } (tq_Px D cy Ws sz av) (va_Qi post (tq_B D (va_A Ws sz) W2) (va_A Ws sz)) (tq_XC px) 1 6 (va_A Ws sz)
section TX
variable {p : Program} {l : Launch} {e : Env} {R : Room} {s : State} {m : MethodId} {args : Array Value} {below : List Frame} {meth : Method} {c : Code} {H : Heap} {locs : List Loc} {cells slots : Nat} {Q : State → Prop}
variable {D : va_G} {cy : ClassId} {own : String} {cc : ByteArray} {nL : Nat} {rt : Option FieldType} {A : Nat → Prop} {ws Ws Wc wr : va_W} {pc : Nat} {ls : Array Slot} {rest : List Value} {px : String → Prop}
theorem tq_XF.mk {y : MethodName} {b : ByteArray} {ret : Option FieldType} {fr lo : Nat} {av : List Value} {post : Int32 → Prop} (hy : plainName y.cls = true) (he : (lg_sl av).length ≤ nL)
    (body : ∀ (p : Program) (e : Env) (s : State) (m : MethodId) (args : Array Value) (below : List Frame) (meth : Method) (c : Code) (A : Nat → Prop), tq_C p s m meth c y.cls b nL ret → (∀ x ∈ c.exceptionTable.toList, False) → va_P D vwCl Ws s.heap → va_K D vwCl (tq_ty cy) s →
      va_D A Ws → (∀ q : Nat, s.heap.size ≤ q → A q) → tq_E A s s.heap →
      ∀ ls : Array Slot, lv_has ls nL (lv_args 0 av) → W p l e { frames := fr, cells := 1, slots := 6, locals := lo } s m args below meth c s.heap [] 0 0 (vx_MQ below (tq_Qf post) (tq_XC px) args s 1 6 (fun _ => False)) (F0 m 0 ls [])) :
    tq_XF l y b nL ret fr lo D cy Ws av post px := by
  intro sz
  refine vx_ofW (cc := b) (maxL := nL) (ret := ret) hy rfl ?_
  intro p e s m args below meth c s₁ B hml hX hv
  obtain ⟨rfl, hT, hsz, hP, hK, hD0, hE⟩ := hv
  subst hsz
  rw [lg_entry_eq]
  exact body p e s m _ below meth c _ ⟨B.exec, B.bytes, hml, findClass_of_methodNamed B.named, B.returns, B.notSynchronized, hT⟩ hX hP hK hD0.self (fun q h => Or.inr h) hE _ (lv_entry av he)
theorem tq_XU.mk {y : MethodName} {b : ByteArray} {fr lo : Nat} {av : List Value} {post : Prop} (hy : plainName y.cls = true) (he : (lg_sl av).length ≤ nL)
    (body : ∀ (p : Program) (e : Env) (s : State) (m : MethodId) (args : Array Value) (below : List Frame) (meth : Method) (c : Code) (A : Nat → Prop), tq_C p s m meth c y.cls b nL none → (∀ x ∈ c.exceptionTable.toList, False) → va_P D vwCl Ws s.heap → va_K D vwCl (tq_ty cy) s →
      va_D A Ws → (∀ q : Nat, s.heap.size ≤ q → A q) → tq_E A s s.heap →
      ∀ ls : Array Slot, lv_has ls nL (lv_args 0 av) → W p l e { frames := fr, cells := 1, slots := 6, locals := lo } s m args below meth c s.heap [] 0 0 (vx_MQ below (tq_Qu post) (tq_XC px) args s 1 6 (fun _ => False)) (F0 m 0 ls [])) :
    tq_XU l y b nL fr lo D cy Ws av post px := by
  intro sz
  refine vx_ofW (cc := b) (maxL := nL) (ret := none) hy rfl ?_
  intro p e s m args below meth c s₁ B hml hX hv
  obtain ⟨rfl, hT, hsz, hP, hK, hD0, hE⟩ := hv
  subst hsz
  rw [lg_entry_eq]
  exact body p e s m _ below meth c _ ⟨B.exec, B.bytes, hml, findClass_of_methodNamed B.named, B.returns, B.notSynchronized, hT⟩ hX hP hK hD0.self (fun q h => Or.inr h) hE _ (lv_entry av he)
theorem tq_XI.mk {S : Type} {y : MethodName} {b : ByteArray} {ret : Option FieldType} {fr lo : Nat} {av : List Value} {post : Int32 → S → Prop} {W2 : S → va_W} (hy : plainName y.cls = true) (he : (lg_sl av).length ≤ nL)
    (body : ∀ (p : Program) (e : Env) (s : State) (m : MethodId) (args : Array Value) (below : List Frame) (meth : Method) (c : Code) (A : Nat → Prop), tq_C p s m meth c y.cls b nL ret → (∀ x ∈ c.exceptionTable.toList, False) → va_P D vwCl Ws s.heap → va_K D vwCl (tq_ty cy) s →
      va_D A Ws → va_S A s.heap s.heap [] → (∀ q : Nat, s.heap.size ≤ q → A q) → tq_E A s s.heap →
      ∀ ls : Array Slot, lv_has ls nL (lv_args 0 av) → W p l e { frames := fr, cells := 1, slots := 6, locals := lo } s m args below meth c s.heap [] 0 0 (vx_MQ below (va_Qi post (tq_B D A W2) A) (tq_XC px) args s 1 6 A) (F0 m 0 ls [])) :
    tq_XI l y b nL ret fr lo D cy Ws av post W2 px := by
  intro sz
  refine vx_ofW (cc := b) (maxL := nL) (ret := ret) hy rfl ?_
  intro p e s m args below meth c s₁ B hml hX hv
  obtain ⟨rfl, hT, hsz, hP, hK, hD0, hE⟩ := hv
  subst hsz
  rw [lg_entry_eq]
  exact body p e s m _ below meth c _ ⟨B.exec, B.bytes, hml, findClass_of_methodNamed B.named, B.returns, B.notSynchronized, hT⟩ hX hP hK hD0.self va_S.rf (fun q h => Or.inr h) hE _ (lv_entry av he)
/-! ends -/
theorem tq_xfret {post : Int32 → Prop} {v : Int32} {ty : FieldType} (C : tq_C p s m meth c own cc nL (some ty)) (hn : narrow ty (.int v) = .int v) (hpost : post v) (hdg : decode cc pc = .ok (.ireturn, 1)) :
    W p l e R s m args below meth c s.heap [] 0 0 (vx_MQ below (tq_Qf post) (tq_XC px) args s 1 6 (fun _ => False)) (F0 m pc ls [.int v]) :=
  vx_ret (W.widen (Nat.zero_le 1) (Nat.zero_le 6) (W.zret C.1 C.2.1 C.2.2.2.2.1 hn (fun t ht hW => ⟨⟨v, rfl, hpost⟩, ht⟩) (fun q h => nomatch h) hdg (hlocks := C.2.2.2.2.2.1)))
theorem tq_xuret {post : Prop} (C : tq_C p s m meth c own cc nL none) (hpost : post) (hdg : decode cc pc = .ok (.return_, 1)) :
    W p l e R s m args below meth c s.heap [] 0 0 (vx_MQ below (tq_Qu post) (tq_XC px) args s 1 6 (fun _ => False)) (F0 m pc ls []) :=
  vx_ret (W.widen (Nat.zero_le 1) (Nat.zero_le 6) (W.vret C.1 C.2.1 C.2.2.2.2.1 (fun t ht hW => ⟨⟨rfl, hpost⟩, ht⟩) (fun q h => nomatch h) hdg (hlocks := C.2.2.2.2.2.1)))
theorem tq_xiret {S : Type} {post : Int32 → S → Prop} {W2 : S → va_W} {v : Int32} {ty : FieldType} (C : tq_C p s m meth c own cc nL (some ty)) (hn : narrow ty (.int v) = .int v) (u : S) (hP : va_P D vwCl (W2 u) H) (hD : va_D A (W2 u)) (hS : va_S A s.heap H locs) (hpost : post v u) (hc : cells ≤ 1) (hs : slots ≤ 6) (hdg : decode cc pc = .ok (.ireturn, 1)) :
    W p l e R s m args below meth c H locs cells slots (vx_MQ below (va_Qi post (tq_B D A W2) A) (tq_XC px) args s 1 6 A) (F0 m pc ls [.int v]) :=
  vx_ret (W.widen hc hs (W.zret C.1 C.2.1 C.2.2.2.2.1 hn (fun t ht hW => ⟨⟨v, u, rfl, hpost, by rw [ht]; exact hP, hD⟩, hS.F ht⟩) hS.2.2 hdg (hlocks := C.2.2.2.2.2.1)))
/-- a throw of a text -/
theorem tq_throw {Qc : Array Value → State → Outcome → State → Prop} {free : Addr → Prop} (hl : l.stackTraces = false) (C : tq_C p s m meth c own cc nL rt) (hX : ∀ x ∈ c.exceptionTable.toList, False) {cls text : String} {names : List String} {ik is ic : Nat}
    (hcls : Bundle.fit cls = true) (hnames : ∀ n ∈ names, Bundle.fit n = true) (hk : Cond.classLink own ik cls ∈ lw_tbl) (hini : Cond.initialized cls ∈ lw_tbl) (hstr : ∃ a, vk_R own is text a s) (hat : (vx_atS own ic cls names).all (fun w => decide (w ∈ lw_tbl) && tq_g w && vx_ot w) = true)
    (hE : tq_E A s s.heap) (hA : ∀ q : Nat, s.heap.size ≤ q → A q) (hsize : ls.size = nL)
    (d0 : decode cc pc = .ok (.new ik, 3)) (d3 : decode cc (pc + 3) = .ok (.dup, 1)) (d4 : decode cc (pc + 4) = .ok (.ldc is, 2)) (d6 : decode cc (pc + 6) = .ok (.invokespecial ic, 3)) (d9 : decode cc (pc + 9) = .ok (.athrow, 1))
    (hRframes : names.length + 3 < R.frames) (hRlocals : (rest.map fun v => v.category).sum + (13 * (names.length + 1) + 43) ≤ R.locals) (hRcells : 0 + 1 ≤ R.cells) (hRslots : 0 + 6 ≤ R.slots) (hpx : px cls) :
    W p l e R s m args below meth c s.heap [] 0 0 (vx_MQ below Qc (tq_XC px) args s 1 6 free) (F0 m pc ls rest) := by
  obtain ⟨sa, hstr⟩ := hstr
  have hall : ∀ w ∈ vx_atS own ic cls names, w ∈ lw_tbl ∧ tq_g w = true ∧ vx_ot w = true := fun w hw => by
    have h := List.all_eq_true.mp hat w hw
    simp only [Bool.and_eq_true, decide_eq_true_eq] at h
    exact ⟨h.1.1, h.1.2, h.2⟩
  refine vx_throwS (A := fun q => s.heap.size ≤ q) C.1 C.2.1 hl C.2.2.2.1 hcls hnames (C.2.2.2.2.2.2.use hk rfl) (C.2.2.2.2.2.2.use hini rfl) hstr (fun w hw => C.2.2.2.2.2.2.use (hall w hw).1 (hall w hw).2.1) ?_ ?_ ?_ va_S.rf (hsize.trans C.2.2.1.symm) d0 d3 d4 d6 d9 (fun x hx => absurd (hX x hx) id) hRframes hRlocals hRcells hRslots C.2.2.2.2.2.1 ?_ (fun z h => nomatch h) (Nat.le_refl 1) (Nat.le_refl 6)
  · intro w hw
    rcases List.mem_cons.mp hw with rfl | hw
    · rfl
    · rcases List.mem_cons.mp hw with rfl | hw
      · rfl
      · exact (hall w hw).2.2
  · exact hE.1.narrow hA
  · exact hE.2.1.narrow hA
  · intro t _ h1 h2
    exact ⟨hpx, h1, fun q hq _ => h2 q hq⟩
/-! calls that may throw, out of a method that lets it pass -/
theorem tq_preX {av : List Value} (C : tq_C p s m meth c own cc nL rt) (hK : va_K D vwCl (tq_ty cy) s) (hP : va_P D vwCl ws H) (hD : va_D A ws) (hS : va_S A s.heap H locs) (hA : ∀ q : Nat, s.heap.size ≤ q → A q) (hE : tq_E A s s.heap) (isC : List Nat) (hn : va_nd isC = true) (hC : isC.map (fun i => ws[i]?) = Wc.map some) :
    ∀ U : State, U.heap = H → s.WarmedH U.vm → tq_Px D cy Wc H.size av av.toArray U :=
  fun U hU hW => ⟨rfl, C.2.2.2.2.2.2.warm hW, by rw [hU], by rw [hU]; exact hP.sub isC (tq_pick hC), va_K.moved hW.alike hK, (hD.sub isC hn hC).weaken (fun _ _ _ _ => trivial), by
    rw [hU]
    exact ((hE.kept (fun a ha hna => hS.2.1 a ha hna)).narrow (va_free (wc := Wc) hD hS hA isC hC)).warm hW⟩
theorem tq_restand {T T' : State} {locs : List Loc} {c1 s1 : Nat} (X : Stand p l e R s m args below meth c T locs cells slots) (X' : Stand p l e R s m args below meth c T' locs c1 s1) (h : T'.heap = T.heap) : Stand p l e R s m args below meth c T' locs cells slots :=
  { X' with same := ⟨X'.same.1, X'.same.2.1, by
      show T'.heap.size ≤ s.heap.size + cells
      rw [h]
      exact X.same.2.2.1, X'.same.2.2.2.1, by
      show ((T'.heap.toList.drop s.heap.size).map (·.slots.size)).sum ≤ slots
      rw [h]
      exact X.same.2.2.2.2.1, X'.same.2.2.2.2.2⟩ }
theorem tq_callXF {Qc : Array Value → State → Outcome → State → Prop} {free : Addr → Prop} {px' : String → Prop} {post : Int32 → Prop} {a : Array Value} {st0 : List Value} (C : tq_C p s m meth c own cc nL rt) (hX : ∀ x ∈ c.exceptionTable.toList, False)
    (hr : vx_Run p l e R s m args below meth c s.heap [] 0 0 1 6 (F0 m pc ls st0) rest (tq_Qf post a) (tq_XC px') (fun _ => False)) (hpx : ∀ E, px' E → px E)
    (kk : ∀ r : Int32, post r → W p l e R s m args below meth c s.heap [] 0 0 (vx_MQ below Qc (tq_XC px) args s 1 6 free) (F0 m (pc + 3) ls (.int r :: rest))) :
    W p l e R s m args below meth c s.heap [] 0 0 (vx_MQ below Qc (tq_XC px) args s 1 6 free) (F0 m pc ls st0) := by
  intro T hT X
  rcases hr T hT X with ⟨v, st₀, t, T', L, h0, X', hL, e1, e2, ⟨⟨r, hv, hp⟩, hh⟩, st⟩ | ⟨q, st₀, t, T', L, E, ce, h0, X', hL, e1, e2, ⟨hp, hF⟩, hce, hcv, hcl, st⟩
  · cases hv
    obtain rfl := tq_nil hL
    rw [List.append_nil] at X'
    have hTT : T'.heap = T.heap := by rw [e1, hh, h0, hT]
    obtain ⟨t2, a1, b1⟩ := kk r hp T' (by rw [hTT, hT]) (tq_restand X X' hTT)
    exact ⟨t2, st t2 a1, b1⟩
  · obtain rfl := tq_nil hL
    rw [List.append_nil] at X'
    obtain ⟨t2, a1, b1⟩ := (vx_out (H := T'.heap) (locs := []) (cells := 0 + 1) (slots := 0 + 6) (p := p) (e := e) (R := R) (ls := ls) (rest := rest) (Qc := Qc) (XC := tq_XC px) (mc := 1) (ms := 6) (free := free) (fun x hx => absurd (hX x hx) id) C.2.2.2.2.2.1 (by rw [e1]; exact hce) hcv hcl (fun t9 ht9 _ => ⟨hpx E hp, by rw [ht9, e1, ← h0]; exact hF.1, fun q9 h9 hn9 => by
      rw [ht9, e1, hF.2 q9 (by rw [h0]; exact h9) hn9, h0]⟩) (fun z h => nomatch h) (Nat.le_refl 1) (Nat.le_refl 6) : vx_W p l e R s m args below meth c T'.heap [] (0 + 1) (0 + 6) (vx_MQ below Qc (tq_XC px) args s 1 6 free) (F0 m pc ls rest) q) T' rfl X'
    exact ⟨t2, st.trans a1, b1⟩
theorem tq_callXU {Qc : Array Value → State → Outcome → State → Prop} {free : Addr → Prop} {px' : String → Prop} {post : Prop} {a : Array Value} {st0 : List Value} (C : tq_C p s m meth c own cc nL rt) (hX : ∀ x ∈ c.exceptionTable.toList, False)
    (hr : vx_Run p l e R s m args below meth c s.heap [] 0 0 1 6 (F0 m pc ls st0) rest (tq_Qu post a) (tq_XC px') (fun _ => False)) (hpx : ∀ E, px' E → px E)
    (kk : post → W p l e R s m args below meth c s.heap [] 0 0 (vx_MQ below Qc (tq_XC px) args s 1 6 free) (F0 m (pc + 3) ls rest)) :
    W p l e R s m args below meth c s.heap [] 0 0 (vx_MQ below Qc (tq_XC px) args s 1 6 free) (F0 m pc ls st0) := by
  intro T hT X
  rcases hr T hT X with ⟨v, st₀, t, T', L, h0, X', hL, e1, e2, ⟨⟨hv, hp⟩, hh⟩, st⟩ | ⟨q, st₀, t, T', L, E, ce, h0, X', hL, e1, e2, ⟨hp, hF⟩, hce, hcv, hcl, st⟩
  · cases hv
    obtain rfl := tq_nil hL
    rw [List.append_nil] at X'
    have hTT : T'.heap = T.heap := by rw [e1, hh, h0, hT]
    obtain ⟨t2, a1, b1⟩ := kk hp T' (by rw [hTT, hT]) (tq_restand X X' hTT)
    exact ⟨t2, st t2 a1, b1⟩
  · obtain rfl := tq_nil hL
    rw [List.append_nil] at X'
    obtain ⟨t2, a1, b1⟩ := (vx_out (H := T'.heap) (locs := []) (cells := 0 + 1) (slots := 0 + 6) (p := p) (e := e) (R := R) (ls := ls) (rest := rest) (Qc := Qc) (XC := tq_XC px) (mc := 1) (ms := 6) (free := free) (fun x hx => absurd (hX x hx) id) C.2.2.2.2.2.1 (by rw [e1]; exact hce) hcv hcl (fun t9 ht9 _ => ⟨hpx E hp, by rw [ht9, e1, ← h0]; exact hF.1, fun q9 h9 hn9 => by
      rw [ht9, e1, hF.2 q9 (by rw [h0]; exact h9) hn9, h0]⟩) (fun z h => nomatch h) (Nat.le_refl 1) (Nat.le_refl 6) : vx_W p l e R s m args below meth c T'.heap [] (0 + 1) (0 + 6) (vx_MQ below Qc (tq_XC px) args s 1 6 free) (F0 m pc ls rest) q) T' rfl X'
    exact ⟨t2, st.trans a1, b1⟩
end TX
