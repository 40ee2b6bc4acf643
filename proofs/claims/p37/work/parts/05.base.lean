/-! the words of the tables, carried along by every contract -/
def tq_g : Cond → Bool
  | .fieldLinkNest _ _ _ _ _ _ => true
  | .methodLinkNest _ _ _ _ => true
  | .castable _ _ => true
  | .declares _ => true
  | w => goodWord w
def tq_T (s : State) : Prop := ∀ w ∈ lw_tbl, tq_g w = true → w.before #[] s = true
theorem tq_T.warm {s U : State} (hW : s.WarmedH U.vm) (h : tq_T s) : tq_T U := by
  intro w hw hg
  have h1 := h w hw hg
  cases w <;> first | exact va_Nw.warmF hW h1 | exact va_Nw.warmM hW h1 | exact va_Nw.warmC hW h1 | exact va_Nw.warmD hW h1 | exact word_at hW (good_of_word hg) h1
theorem tq_T.use {s : State} (h : tq_T s) {w : Cond} (hw : w ∈ lw_tbl) (hg : tq_g w = true) {a : Array Value} : w.before a s = true := by
  have h1 := h w hw hg
  cases w <;> first | exact va_Nw.use rfl h1 | exact word_at (State.WarmedH.refl s) (good_of_word hg) h1
/-- what is known of the running method -/
def tq_C (p : Program) (s : State) (m : MethodId) (meth : Method) (c : Code) (own : String) (cc : ByteArray) (nL : Nat) (ret : Option FieldType) : Prop :=
  p.tables.exec = Jvm.exec ∧ c.code = cc ∧ c.maxLocals = nL ∧ s.vm.findClass own = some m.cls ∧ meth.sig.returnType = ret ∧ meth.locks = false ∧ tq_T s
abbrev tq_ty (cy : ClassId) : List (ClassId × FieldType) := [(cy, .int)]
/-- a start that reads a world -/
def tq_Pf (D : va_G) (cy : ClassId) (Ws : va_W) (av : List Value) : Array Value → State → Prop := va_Pc av (fun U => tq_T U ∧ va_P D vwCl Ws U.heap ∧ va_K D vwCl (tq_ty cy) U)
/-- a start that may change a world -/
def tq_Pc (D : va_G) (cy : ClassId) (Ws : va_W) (sz : Nat) (av : List Value) : Array Value → State → Prop := va_Pc av (fun U => tq_T U ∧ U.heap.size = sz ∧ va_P D vwCl Ws U.heap ∧ va_K D vwCl (tq_ty cy) U ∧ va_D (fun _ => True) Ws)
theorem tq_calling {U : State} {g : JFrame} {mk : MethodId} {a : Array Value} (h : tq_T U) : tq_T (U.calling g mk a) := h.warm (State.WarmedH.refl U)
theorem tq_Pf.blind {D : va_G} {cy : ClassId} {Ws : va_W} {av : List Value} : FrameBlind (tq_Pf D cy Ws av) := fun a U g mk h =>
  ⟨h.1, tq_calling h.2.1, h.2.2.1, va_K.moved (u := U) (U := U.calling g mk a) (Vm.Alike.refl U.vm) h.2.2.2⟩
theorem tq_Pc.blind {D : va_G} {cy : ClassId} {Ws : va_W} {sz : Nat} {av : List Value} : FrameBlind (tq_Pc D cy Ws sz av) := fun a U g mk h =>
  ⟨h.1, tq_calling h.2.1, h.2.2.1, h.2.2.2.1, va_K.moved (u := U) (U := U.calling g mk a) (Vm.Alike.refl U.vm) h.2.2.2.2.1, h.2.2.2.2.2⟩
/-- ends -/
def tq_Qf (post : Int32 → Prop) : Array Value → State → Outcome → State → Prop := fun _ st oc t => (∃ r : Int32, oc = .returned (some (.int r)) ∧ post r) ∧ t.heap = st.heap
def tq_B {S : Type} (D : va_G) (A : Nat → Prop) (W2 : S → va_W) : S → State → Prop := fun u t => va_P D vwCl (W2 u) t.heap ∧ va_D A (W2 u)
/-- contracts: a read of a world, with an int; a change of a world, with an int; .. with no answer -/
def tq_F (l : Launch) (y : MethodName) (b : ByteArray) (nL : Nat) (ret : Option FieldType) (fr lo : Nat) (D : va_G) (cy : ClassId) (Ws : va_W) (av : List Value) (post : Int32 → Prop) : Prop :=
  Met l y [.code y b nL ret] { frames := fr, cells := 0, slots := 0, locals := lo } (tq_Pf D cy Ws av) (tq_Qf post) 0 0 (fun _ => False)
def tq_I {S : Type} (l : Launch) (y : MethodName) (b : ByteArray) (nL : Nat) (ret : Option FieldType) (fr lo mc ms : Nat) (D : va_G) (cy : ClassId) (Ws : va_W) (av : List Value) (post : Int32 → S → Prop) (W2 : S → va_W) : Prop :=
  ∀ sz : Nat, Met l y [.code y b nL ret] { frames := fr, cells := mc, slots := ms, locals := lo } (tq_Pc D cy Ws sz av) (va_Qi post (tq_B D (va_A Ws sz) W2) (va_A Ws sz)) mc ms (va_A Ws sz)
def tq_V {S : Type} (l : Launch) (y : MethodName) (b : ByteArray) (nL : Nat) (fr lo mc ms : Nat) (D : va_G) (cy : ClassId) (Ws : va_W) (av : List Value) (post : S → Prop) (W2 : S → va_W) : Prop :=
  ∀ sz : Nat, Met l y [.code y b nL none] { frames := fr, cells := mc, slots := ms, locals := lo } (tq_Pc D cy Ws sz av) (va_Qv post (tq_B D (va_A Ws sz) W2) (va_A Ws sz)) mc ms (va_A Ws sz)
theorem tq_code_in {y : MethodName} {b : ByteArray} {nL : Nat} {ret : Option FieldType} {s : State} (hT : tq_T s) (h : Cond.code y b nL ret ∈ lw_tbl) : ∀ w ∈ [Cond.code y b nL ret], ∀ (a' : Array Value) (U : State), s.WarmedH U.vm → w.before a' U = true := by
  intro w hw a' U hW
  rcases List.mem_singleton.mp hw with rfl
  exact (hT.warm hW).use h rfl
section TQ
variable {p : Program} {l : Launch} {e : Env} {R : Room} {s : State} {m : MethodId} {args : Array Value} {below : List Frame} {meth : Method} {c : Code} {H : Heap} {locs : List Loc} {cells slots : Nat} {Q : State → Prop}
variable {D : va_G} {cy : ClassId} {own : String} {cc : ByteArray} {nL : Nat} {rt : Option FieldType} {A : Nat → Prop} {ws Ws : va_W} {pc : Nat} {ls : Array Slot} {rest : List Value} {tys : List (ClassId × FieldType)}

theorem tq_F.mk {y : MethodName} {b : ByteArray} {ret : Option FieldType} {fr lo : Nat} {av : List Value} {post : Int32 → Prop} (hy : plainName y.cls = true) (he : (lg_sl av).length ≤ nL)
    (body : ∀ (p : Program) (e : Env) (s : State) (m : MethodId) (args : Array Value) (below : List Frame) (meth : Method) (c : Code), tq_C p s m meth c y.cls b nL ret → va_P D vwCl Ws s.heap → va_K D vwCl (tq_ty cy) s →
      ∀ ls : Array Slot, lv_has ls nL (lv_args 0 av) → W p l e { frames := fr, cells := 0, slots := 0, locals := lo } s m args below meth c s.heap [] 0 0 (MQ below (tq_Qf post) args s 0 0 (fun _ => False)) (F0 m 0 ls [])) :
    tq_F l y b nL ret fr lo D cy Ws av post := by
  refine Met.ofW (cc := b) (maxL := nL) (ret := ret) hy rfl ?_
  intro p e s m args below meth c s₁ B hml hv
  obtain ⟨rfl, hT, hP, hK⟩ := hv
  rw [lg_entry_eq]
  exact body p e s m _ below meth c ⟨B.exec, B.bytes, hml, findClass_of_methodNamed B.named, B.returns, B.notSynchronized, hT⟩ hP hK _ (lv_entry av he)
theorem tq_I.mk {S : Type} {y : MethodName} {b : ByteArray} {ret : Option FieldType} {fr lo mc ms : Nat} {av : List Value} {post : Int32 → S → Prop} {W2 : S → va_W} (hy : plainName y.cls = true) (he : (lg_sl av).length ≤ nL)
    (body : ∀ (p : Program) (e : Env) (s : State) (m : MethodId) (args : Array Value) (below : List Frame) (meth : Method) (c : Code) (A : Nat → Prop), tq_C p s m meth c y.cls b nL ret → va_P D vwCl Ws s.heap → va_K D vwCl (tq_ty cy) s →
      va_D A Ws → va_S A s.heap s.heap [] → (∀ q : Nat, s.heap.size ≤ q → A q) →
      ∀ ls : Array Slot, lv_has ls nL (lv_args 0 av) → W p l e { frames := fr, cells := mc, slots := ms, locals := lo } s m args below meth c s.heap [] 0 0 (MQ below (va_Qi post (tq_B D A W2) A) args s mc ms A) (F0 m 0 ls [])) :
    tq_I l y b nL ret fr lo mc ms D cy Ws av post W2 := by
  intro sz
  refine Met.ofW (cc := b) (maxL := nL) (ret := ret) hy rfl ?_
  intro p e s m args below meth c s₁ B hml hv
  obtain ⟨rfl, hT, hsz, hP, hK, hD0⟩ := hv
  subst hsz
  rw [lg_entry_eq]
  exact body p e s m _ below meth c _ ⟨B.exec, B.bytes, hml, findClass_of_methodNamed B.named, B.returns, B.notSynchronized, hT⟩ hP hK hD0.self va_S.rf (fun q h => Or.inr h) _ (lv_entry av he)
theorem tq_V.mk {S : Type} {y : MethodName} {b : ByteArray} {fr lo mc ms : Nat} {av : List Value} {post : S → Prop} {W2 : S → va_W} (hy : plainName y.cls = true) (he : (lg_sl av).length ≤ nL)
    (body : ∀ (p : Program) (e : Env) (s : State) (m : MethodId) (args : Array Value) (below : List Frame) (meth : Method) (c : Code) (A : Nat → Prop), tq_C p s m meth c y.cls b nL none → (meth.name = y.name) → va_P D vwCl Ws s.heap → va_K D vwCl (tq_ty cy) s →
      va_D A Ws → va_S A s.heap s.heap [] → (∀ q : Nat, s.heap.size ≤ q → A q) →
      ∀ ls : Array Slot, lv_has ls nL (lv_args 0 av) → W p l e { frames := fr, cells := mc, slots := ms, locals := lo } s m args below meth c s.heap [] 0 0 (MQ below (va_Qv post (tq_B D A W2) A) args s mc ms A) (F0 m 0 ls [])) :
    tq_V l y b nL fr lo mc ms D cy Ws av post W2 := by
  intro sz
  refine Met.ofW (cc := b) (maxL := nL) (ret := none) hy rfl ?_
  intro p e s m args below meth c s₁ B hml hv
  obtain ⟨rfl, hT, hsz, hP, hK, hD0⟩ := hv
  subst hsz
  rw [lg_entry_eq]
  exact body p e s m _ below meth c _ ⟨B.exec, B.bytes, hml, findClass_of_methodNamed B.named, B.returns, B.notSynchronized, hT⟩ (name_of_methodNamed B.named B.method).1 hP hK hD0.self va_S.rf (fun q h => Or.inr h) _ (lv_entry av he)
/-! ends -/
theorem tq_fret {post : Int32 → Prop} {v : Int32} {ty : FieldType} (C : tq_C p s m meth c own cc nL (some ty)) (hn : narrow ty (.int v) = .int v) (hpost : post v) (hdg : decode cc pc = .ok (.ireturn, 1)) :
    W p l e R s m args below meth c s.heap [] 0 0 (MQ below (tq_Qf post) args s 0 0 (fun _ => False)) (F0 m pc ls [.int v]) :=
  W.zret C.1 C.2.1 C.2.2.2.2.1 hn (fun t ht hW => ⟨⟨v, rfl, hpost⟩, ht⟩) (fun q h => nomatch h) hdg (hlocks := C.2.2.2.2.2.1)
theorem tq_iret {S : Type} {post : Int32 → S → Prop} {W2 : S → va_W} {v : Int32} {ty : FieldType} {mc ms : Nat} (C : tq_C p s m meth c own cc nL (some ty)) (hn : narrow ty (.int v) = .int v) (u : S) (hP : va_P D vwCl (W2 u) H) (hD : va_D A (W2 u)) (hS : va_S A s.heap H locs) (hpost : post v u) (hc : cells ≤ mc) (hs : slots ≤ ms) (hdg : decode cc pc = .ok (.ireturn, 1)) :
    W p l e R s m args below meth c H locs cells slots (MQ below (va_Qi post (tq_B D A W2) A) args s mc ms A) (F0 m pc ls [.int v]) :=
  W.widen hc hs (W.zret C.1 C.2.1 C.2.2.2.2.1 hn (fun t ht hW => ⟨⟨v, u, rfl, hpost, by rw [ht]; exact hP, hD⟩, hS.F ht⟩) hS.2.2 hdg (hlocks := C.2.2.2.2.2.1))
theorem tq_vret {S : Type} {post : S → Prop} {W2 : S → va_W} {mc ms : Nat} (C : tq_C p s m meth c own cc nL none) (u : S) (hP : va_P D vwCl (W2 u) H) (hD : va_D A (W2 u)) (hS : va_S A s.heap H locs) (hpost : post u) (hc : cells ≤ mc) (hs : slots ≤ ms) (hdg : decode cc pc = .ok (.return_, 1)) :
    W p l e R s m args below meth c H locs cells slots (MQ below (va_Qv post (tq_B D A W2) A) args s mc ms A) (F0 m pc ls []) :=
  W.widen hc hs (W.vret C.1 C.2.1 C.2.2.2.2.1 (fun t ht hW => ⟨⟨u, rfl, hpost, by rw [ht]; exact hP, hD⟩, hS.F ht⟩) hS.2.2 hdg (hlocks := C.2.2.2.2.2.1))
/-! fields -/
theorem tq_get (C : tq_C p s m meth c own cc nL rt) {C0 ref : String} {T : u_T} {N ci index k : Nat} (hg : (u_ws C0 T N).all tq_g = true) (hin : ∀ w ∈ u_ws C0 T N, w ∈ lw_tbl) (hc : vwCl[ci]? = some (C0, T, N)) (hk : k < N) (href : (T k).1 = ref) (hlink : Cond.fieldLink own index ref (T k).2.1 (T k).2.2.1 ∈ lw_tbl)
    (hK : va_K D vwCl tys s) (hP : va_P D vwCl ws H) (q0 : Nat) {a : Nat} {fs : List Value} {v : Value} (he : ws[q0]? = some (a, .inr (ci, fs))) (hv : fs[k]? = some v) (hdg : decode cc pc = .ok (.getfield index, 3))
    (kk : W p l e R s m args below meth c H locs cells slots Q (F0 m (pc + 3) ls (v :: rest))) : W p l e R s m args below meth c H locs cells slots Q (F0 m pc ls (.ref a :: rest)) :=
  va_get (Ts := u_ws C0 T N) C.1 C.2.1 (fun w h => C.2.2.2.2.2.2.use (hin w h) (List.all_eq_true.mp hg w h)) (fun _ h => h) C.2.2.2.1 hK hP q0 he hc k hk (C.2.2.2.2.2.2.use hlink rfl) (fun _ h => by subst href; exact h) hv hdg kk
theorem tq_getN (C : tq_C p s m meth c own cc nL rt) {C0 ref host : String} {T : u_T} {N ci index k : Nat} (hg : (u_ws C0 T N).all tq_g = true) (hin : ∀ w ∈ u_ws C0 T N, w ∈ lw_tbl) (hc : vwCl[ci]? = some (C0, T, N)) (hk : k < N) (href : (T k).1 = ref) (hlink : Cond.fieldLinkNest own index ref (T k).2.1 (T k).2.2.1 host ∈ lw_tbl)
    (hK : va_K D vwCl tys s) (hP : va_P D vwCl ws H) (q0 : Nat) {a : Nat} {fs : List Value} {v : Value} (he : ws[q0]? = some (a, .inr (ci, fs))) (hv : fs[k]? = some v) (hdg : decode cc pc = .ok (.getfield index, 3))
    (kk : W p l e R s m args below meth c H locs cells slots Q (F0 m (pc + 3) ls (v :: rest))) : W p l e R s m args below meth c H locs cells slots Q (F0 m pc ls (.ref a :: rest)) :=
  va_getN (Ts := u_ws C0 T N) C.1 C.2.1 (fun w h => C.2.2.2.2.2.2.use (hin w h) (List.all_eq_true.mp hg w h)) (fun _ h => h) C.2.2.2.1 hK hP q0 he hc k hk (C.2.2.2.2.2.2.use hlink rfl) (fun _ h => by subst href; exact h) hv hdg kk
theorem tq_put (C : tq_C p s m meth c own cc nL rt) {C0 ref : String} {T : u_T} {ty0 : Nat → FieldType} {N ci index k : Nat} {ty : FieldType} (hg : (u_ws C0 T N).all tq_g = true) (hin : ∀ w ∈ u_ws C0 T N, w ∈ lw_tbl) (hty : ∀ k, k < N → parseFieldDescriptor (T k).2.2.1 = some (ty0 k)) (hnm : ∀ a, a < N → ∀ b, b < N → a ≠ b → (T a).2.1 ≠ (T b).2.1) (hc : vwCl[ci]? = some (C0, T, N)) (hk : k < N) (href : (T k).1 = ref) (hlink : Cond.fieldLink own index ref (T k).2.1 (T k).2.2.1 ∈ lw_tbl) (hfin : (T k).2.2.2 = false) (hd : parseFieldDescriptor (T k).2.2.1 = some ty)
    (hK : va_K D vwCl tys s) (hP : va_P D vwCl ws H) (hD : va_D A ws) (hS : va_S A s.heap H locs) (q0 : Nat) {a : Nat} {fs : List Value} {v : Value} (he : ws[q0]? = some (a, .inr (ci, fs))) (hn : narrow ty v = v) (hfit : fits ty v = true) (hl : k < fs.length) (hdg : decode cc pc = .ok (.putfield index, 3))
    (kk : ∀ (H1 : Heap) (locs1 : List Loc), va_P D vwCl (ws.set q0 (a, .inr (ci, fs.set k v))) H1 → va_D A (ws.set q0 (a, .inr (ci, fs.set k v))) → va_S A s.heap H1 locs1 → W p l e R s m args below meth c H1 locs1 cells slots Q (F0 m (pc + 3) ls rest)) : W p l e R s m args below meth c H locs cells slots Q (F0 m pc ls (v :: .ref a :: rest)) :=
  va_put (Ts := u_ws C0 T N) C.1 C.2.1 (fun w h => C.2.2.2.2.2.2.use (hin w h) (List.all_eq_true.mp hg w h)) (fun _ h => h) ty0 hty hnm C.2.2.2.1 hK hP hD hS q0 he hc k hk (C.2.2.2.2.2.2.use hlink rfl) (fun _ h => by subst href; exact h) hfin hd hn hfit hl hdg kk
theorem tq_putN (C : tq_C p s m meth c own cc nL rt) {C0 ref host : String} {T : u_T} {ty0 : Nat → FieldType} {N ci index k : Nat} {ty : FieldType} (hg : (u_ws C0 T N).all tq_g = true) (hin : ∀ w ∈ u_ws C0 T N, w ∈ lw_tbl) (hty : ∀ k, k < N → parseFieldDescriptor (T k).2.2.1 = some (ty0 k)) (hnm : ∀ a, a < N → ∀ b, b < N → a ≠ b → (T a).2.1 ≠ (T b).2.1) (hc : vwCl[ci]? = some (C0, T, N)) (hk : k < N) (href : (T k).1 = ref) (hlink : Cond.fieldLinkNest own index ref (T k).2.1 (T k).2.2.1 host ∈ lw_tbl) (hfin : (T k).2.2.2 = false) (hd : parseFieldDescriptor (T k).2.2.1 = some ty)
    (hK : va_K D vwCl tys s) (hP : va_P D vwCl ws H) (hD : va_D A ws) (hS : va_S A s.heap H locs) (q0 : Nat) {a : Nat} {fs : List Value} {v : Value} (he : ws[q0]? = some (a, .inr (ci, fs))) (hn : narrow ty v = v) (hfit : fits ty v = true) (hl : k < fs.length) (hdg : decode cc pc = .ok (.putfield index, 3))
    (kk : ∀ (H1 : Heap) (locs1 : List Loc), va_P D vwCl (ws.set q0 (a, .inr (ci, fs.set k v))) H1 → va_D A (ws.set q0 (a, .inr (ci, fs.set k v))) → va_S A s.heap H1 locs1 → W p l e R s m args below meth c H1 locs1 cells slots Q (F0 m (pc + 3) ls rest)) : W p l e R s m args below meth c H locs cells slots Q (F0 m pc ls (v :: .ref a :: rest)) :=
  va_putN (Ts := u_ws C0 T N) C.1 C.2.1 (fun w h => C.2.2.2.2.2.2.use (hin w h) (List.all_eq_true.mp hg w h)) (fun _ h => h) ty0 hty hnm C.2.2.2.1 hK hP hD hS q0 he hc k hk (C.2.2.2.2.2.2.use hlink rfl) (fun _ h => by subst href; exact h) hfin hd hn hfit hl hdg kk
theorem tq_putF (C : tq_C p s m meth c own cc nL rt) (hi : meth.name = "<init>") {C0 ref : String} {T : u_T} {ty0 : Nat → FieldType} {N ci index k : Nat} {ty : FieldType} (hg : (u_ws C0 T N).all tq_g = true) (hin : ∀ w ∈ u_ws C0 T N, w ∈ lw_tbl) (hty : ∀ k, k < N → parseFieldDescriptor (T k).2.2.1 = some (ty0 k)) (hnm : ∀ a, a < N → ∀ b, b < N → a ≠ b → (T a).2.1 ≠ (T b).2.1) (hc : vwCl[ci]? = some (C0, T, N)) (hk : k < N) (href : (T k).1 = ref) (hown2 : (T k).1 = own) (hlink : Cond.fieldLink own index ref (T k).2.1 (T k).2.2.1 ∈ lw_tbl) (hfin : (T k).2.2.2 = true) (hd : parseFieldDescriptor (T k).2.2.1 = some ty)
    (hK : va_K D vwCl tys s) (hP : va_P D vwCl ws H) (hD : va_D A ws) (hS : va_S A s.heap H locs) (q0 : Nat) {a : Nat} {fs : List Value} {v : Value} (he : ws[q0]? = some (a, .inr (ci, fs))) (hn : narrow ty v = v) (hfit : fits ty v = true) (hl : k < fs.length) (hdg : decode cc pc = .ok (.putfield index, 3))
    (kk : ∀ (H1 : Heap) (locs1 : List Loc), va_P D vwCl (ws.set q0 (a, .inr (ci, fs.set k v))) H1 → va_D A (ws.set q0 (a, .inr (ci, fs.set k v))) → va_S A s.heap H1 locs1 → W p l e R s m args below meth c H1 locs1 cells slots Q (F0 m (pc + 3) ls rest)) : W p l e R s m args below meth c H locs cells slots Q (F0 m pc ls (v :: .ref a :: rest)) :=
  va_putF (Ts := u_ws C0 T N) C.1 C.2.1 (fun w h => C.2.2.2.2.2.2.use (hin w h) (List.all_eq_true.mp hg w h)) (fun _ h => h) ty0 hty hnm C.2.2.2.1 hK hP hD hS q0 he hc k hk (C.2.2.2.2.2.2.use hlink rfl) (fun _ h => by subst href; exact h) hfin hi hown2 hd hn hfit hl hdg kk
/-! arrays of small numbers -/
theorem tq_upd (f : Nat → Nat) (i v : Nat) : upd (fun j => nI (f j)) i (nI v) = fun j => nI (va_up f i v j) := by
  funext j
  by_cases h : j = i <;> simp [upd, va_up, h]
theorem tq_iald (C : tq_C p s m meth c own cc nL rt) (hK : va_K D vwCl tys s) (hP : va_P D vwCl ws H) (q0 t0 : Nat) {a n i : Nat} {f : Nat → Nat} (ha : ws[q0]? = some (a, .inl (cy, n, .inl (fun j => nI (f j))))) (ht : tys[t0]? = some (cy, .int)) (hi : i < n) (hn : n < 2 ^ 31) (hdg : decode cc pc = .ok (.iaload, 1))
    (kk : W p l e R s m args below meth c H locs cells slots Q (F0 m (pc + 1) ls (.int (nI (f i)) :: rest))) : W p l e R s m args below meth c H locs cells slots Q (F0 m pc ls (.int (nI i) :: .ref a :: rest)) := by
  refine va_iald C.1 C.2.1 hK hP q0 t0 ha ht (vp_in_nI hi hn) hdg ?_
  rw [nI_clamp (Nat.lt_trans hi hn)]
  exact kk
theorem tq_iast (C : tq_C p s m meth c own cc nL rt) (hK : va_K D vwCl tys s) (hP : va_P D vwCl ws H) (hD : va_D A ws) (hS : va_S A s.heap H locs) (q0 t0 : Nat) {a n i v : Nat} {f : Nat → Nat} (ha : ws[q0]? = some (a, .inl (cy, n, .inl (fun j => nI (f j))))) (ht : tys[t0]? = some (cy, .int)) (hi : i < n) (hn : n < 2 ^ 31) (hdg : decode cc pc = .ok (.iastore, 1))
    (kk : ∀ (H1 : Heap) (locs1 : List Loc), va_P D vwCl (ws.set q0 (a, .inl (cy, n, .inl (fun j => nI (va_up f i v j))))) H1 → va_D A (ws.set q0 (a, .inl (cy, n, .inl (fun j => nI (va_up f i v j))))) → va_S A s.heap H1 locs1 → W p l e R s m args below meth c H1 locs1 cells slots Q (F0 m (pc + 1) ls rest)) : W p l e R s m args below meth c H locs cells slots Q (F0 m pc ls (.int (nI v) :: .int (nI i) :: .ref a :: rest)) := by
  refine va_iast C.1 C.2.1 hK hP hD hS q0 t0 ha ht (vp_in_nI hi hn) hdg ?_
  rw [nI_clamp (Nat.lt_trans hi hn), tq_upd]
  exact kk
/-! numbers -/
theorem tq_top {x y : Int32} (h : x = y) (k : W p l e R s m args below meth c H locs cells slots Q (F0 m pc ls (.int y :: rest))) : W p l e R s m args below meth c H locs cells slots Q (F0 m pc ls (.int x :: rest)) := h ▸ k
theorem tq_iadd (C : tq_C p s m meth c own cc nL rt) {a b : Nat} (hdg : decode cc pc = .ok (.iadd, 1)) (k : W p l e R s m args below meth c H locs cells slots Q (F0 m (pc + 1) ls (.int (nI (a + b)) :: rest))) : W p l e R s m args below meth c H locs cells slots Q (F0 m pc ls (.int (nI b) :: .int (nI a) :: rest)) :=
  lv_iadd C.1 C.2.1 hdg (tq_top (nI_add a b) k)
theorem tq_isub (C : tq_C p s m meth c own cc nL rt) {a b : Nat} (h : b ≤ a) (hdg : decode cc pc = .ok (.isub, 1)) (k : W p l e R s m args below meth c H locs cells slots Q (F0 m (pc + 1) ls (.int (nI (a - b)) :: rest))) : W p l e R s m args below meth c H locs cells slots Q (F0 m pc ls (.int (nI b) :: .int (nI a) :: rest)) :=
  lv_isub C.1 C.2.1 hdg (tq_top (pk_sub h) k)
theorem tq_imul (C : tq_C p s m meth c own cc nL rt) {a b : Nat} (hdg : decode cc pc = .ok (.imul, 1)) (k : W p l e R s m args below meth c H locs cells slots Q (F0 m (pc + 1) ls (.int (nI (a * b)) :: rest))) : W p l e R s m args below meth c H locs cells slots Q (F0 m pc ls (.int (nI b) :: .int (nI a) :: rest)) :=
  lv_imul C.1 C.2.1 hdg (tq_top (pk_mul a b) k)
theorem tq_nI0 {n : Nat} (h : 0 < n) (hn : n < 2 ^ 31) : ¬ nI n = 0 := nI_ne0 h hn
theorem tq_idiv (C : tq_C p s m meth c own cc nL rt) {a b : Nat} (h0 : 0 < b) (ha : a < 2 ^ 31) (hb : b < 2 ^ 31) (hdg : decode cc pc = .ok (.idiv, 1)) (k : W p l e R s m args below meth c H locs cells slots Q (F0 m (pc + 1) ls (.int (nI (a / b)) :: rest))) : W p l e R s m args below meth c H locs cells slots Q (F0 m pc ls (.int (nI b) :: .int (nI a) :: rest)) :=
  lv_idiv C.1 C.2.1 hdg (nI_ne0 h0 hb) (tq_top (pk_div ha h0 hb) k)
theorem tq_sh : ∀ k, k < 32 → ((nI k &&& 31).toBitVec.smod 32).toNat = k := by decide +kernel
theorem tq_ishl (C : tq_C p s m meth c own cc nL rt) {a b : Nat} (hb : b < 32) (h : a * 2 ^ b < 2 ^ 32) (hdg : decode cc pc = .ok (.ishl, 1)) (k : W p l e R s m args below meth c H locs cells slots Q (F0 m (pc + 1) ls (.int (nI (a * 2 ^ b)) :: rest))) : W p l e R s m args below meth c H locs cells slots Q (F0 m pc ls (.int (nI b) :: .int (nI a) :: rest)) :=
  lv_ishl C.1 C.2.1 hdg (tq_top (pk_shlN _ b (tq_sh b hb) h) k)
theorem tq_ishr (C : tq_C p s m meth c own cc nL rt) {a b : Nat} (hb : b < 32) (h : a < 2 ^ 31) (hdg : decode cc pc = .ok (.ishr, 1)) (k : W p l e R s m args below meth c H locs cells slots Q (F0 m (pc + 1) ls (.int (nI (a / 2 ^ b)) :: rest))) : W p l e R s m args below meth c H locs cells slots Q (F0 m pc ls (.int (nI b) :: .int (nI a) :: rest)) :=
  lv_ishr C.1 C.2.1 hdg (tq_top (pk_shrN h _ b (tq_sh b hb)) k)
theorem tq_iandM (C : tq_C p s m meth c own cc nL rt) {a b n : Nat} (hb : b ≤ 31) (hn : n = 2 ^ b - 1) (h : a < 2 ^ 32) (hdg : decode cc pc = .ok (.iand, 1)) (k : W p l e R s m args below meth c H locs cells slots Q (F0 m (pc + 1) ls (.int (nI (a % 2 ^ b)) :: rest))) : W p l e R s m args below meth c H locs cells slots Q (F0 m pc ls (.int (nI n) :: .int (nI a) :: rest)) := by
  refine lv_iand C.1 C.2.1 hdg (tq_top (pk_andN h b ?_) k)
  have h2 : (2 : Nat) ^ b ≤ 2 ^ 31 := Nat.pow_le_pow_right (by decide) hb
  rw [hn, pk_tn (by omega)]
theorem tq_bv {n : Nat} (h : n < 2 ^ 32) : (nI n).toBitVec = BitVec.ofNat 32 n := BitVec.eq_of_toNat_eq (by rw [pk_tn h, BitVec.toNat_ofNat, Nat.mod_eq_of_lt h])
theorem tq_ixorE {a b : Nat} (ha : a < 2 ^ 32) (hb : b < 2 ^ 32) : nI a ^^^ nI b = nI (a ^^^ b) := by
  apply Int32.toBitVec_inj.mp
  apply BitVec.eq_of_toNat_eq
  rw [Int32.toBitVec_xor, BitVec.toNat_xor, pk_tn ha, pk_tn hb, pk_tn (Nat.xor_lt_two_pow ha hb)]
theorem tq_iorE {a b : Nat} (ha : a < 2 ^ 32) (hb : b < 2 ^ 32) : nI a ||| nI b = nI (a ||| b) := by
  apply Int32.toBitVec_inj.mp
  apply BitVec.eq_of_toNat_eq
  rw [Int32.toBitVec_or, BitVec.toNat_or, pk_tn ha, pk_tn hb, pk_tn (Nat.or_lt_two_pow ha hb)]
theorem tq_ixor (C : tq_C p s m meth c own cc nL rt) {a b : Nat} (ha : a < 2 ^ 32) (hb : b < 2 ^ 32) (hdg : decode cc pc = .ok (.ixor, 1)) (k : W p l e R s m args below meth c H locs cells slots Q (F0 m (pc + 1) ls (.int (nI (a ^^^ b)) :: rest))) : W p l e R s m args below meth c H locs cells slots Q (F0 m pc ls (.int (nI b) :: .int (nI a) :: rest)) :=
  lv_ixor C.1 C.2.1 hdg (tq_top (tq_ixorE ha hb) k)
theorem tq_ior (C : tq_C p s m meth c own cc nL rt) {a b : Nat} (ha : a < 2 ^ 32) (hb : b < 2 ^ 32) (hdg : decode cc pc = .ok (.ior, 1)) (k : W p l e R s m args below meth c H locs cells slots Q (F0 m (pc + 1) ls (.int (nI (a ||| b)) :: rest))) : W p l e R s m args below meth c H locs cells slots Q (F0 m pc ls (.int (nI b) :: .int (nI a) :: rest)) :=
  lv_ior C.1 C.2.1 hdg (tq_top (tq_iorE ha hb) k)
end TQ
